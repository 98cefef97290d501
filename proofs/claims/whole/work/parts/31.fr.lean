/-! The frame of the run: kinds, lengths, references that stay. -/
def Fr (h : Hp) : Prop := (∀ a, a < 97 → hK h a = KND a ∧ hN h a = LEN a) ∧ (∀ q ∈ rfs, hR h q.1 q.2.1 = some q.2.2) ∧ hK h SCR = 0
theorem Fr_sI {h : Hp} {a k : Nat} {v : Int32} : Fr (sI h a k v) = Fr h := rfl
theorem Fr_sL {h : Hp} {a k : Nat} {v : Int64} : Fr (sL h a k v) = Fr h := rfl
theorem Fr_sA {h : Hp} {a : Nat} {f : Nat → Int32} : Fr (sA h a f) = Fr h := rfl
theorem Fr_sLA {h : Hp} {a : Nat} {f : Nat → Int64} : Fr (sLA h a f) = Fr h := rfl
theorem kf {h : Hp} {a c : Nat} (f : Fr h) (ha : a < 97) (e : KND a = c) : hK h a = c := ((f.1 a ha).1).trans e
theorem nf {h : Hp} {a c : Nat} (f : Fr h) (ha : a < 97) (e : LEN a = c) : hN h a = c := ((f.1 a ha).2).trans e
theorem rfk {h : Hp} {a j b : Nat} (f : Fr h) (k : Nat) (e : rfs[k]? = some (a, j, b)) : hR h a j = some b := f.2.1 (a, j, b) (List.mem_of_getElem? e)
theorem Fr_sR {h : Hp} {a j : Nat} {v : Option Nat} (hd : rfs.all (fun q => !(q.1 == a && q.2.1 == j)) = true) (f : Fr h) : Fr (sR h a j v) := by
  refine ⟨f.1, fun q hq => ?_, f.2.2⟩
  rw [hR_sR, up2_at, if_neg]
  · exact f.2.1 q hq
  · rintro ⟨e1, e2⟩
    have := List.all_eq_true.mp hd q hq
    simp [e1, e2] at this
section
variable {sc : Option (Nat × (Nat → Int32))} {D k : Nat} {is : List XI} {ls : LL} {st : List Value} {h : Hp} {Q : Option Value → Hp → Prop} {z j : Nat}
theorem u_k0 (f : Fr h) : hK h 0 = 11 := kf f (by decide) rfl
theorem u_gI0 (f : Fr h) : Ex sc D k ((.getfield 10, z) :: is) ls (.ref 0 :: st) h Q = Ex sc D k is ls (.int (hI h 0 z) :: st) h Q := ex_getI (u_k0 f)
theorem u_pI0 {v : Int32} (f : Fr h) : Ex sc D k ((.putfield 10, z) :: is) ls (.int v :: .ref 0 :: st) h Q = Ex sc D k is ls st (sI h 0 z v) Q := ex_putI (u_k0 f)
theorem u_pZa0 (f : Fr h) : Ex sc D k ((.ret 10, z) :: is) ls (.int (nI 0) :: .ref 0 :: st) h Q = Ex sc D k is ls st (sI h 0 z (nI 0)) Q := ex_putZ0 (u_k0 f)
theorem u_pZb0 (f : Fr h) : Ex sc D k ((.ret 10, z) :: is) ls (.int (nI 1) :: .ref 0 :: st) h Q = Ex sc D k is ls st (sI h 0 z (nI 1)) Q := ex_putZ1 (u_k0 f)
theorem u_pZc0 {b : Bool} (f : Fr h) : Ex sc D k ((.ret 10, z) :: is) ls (.int (bB b) :: .ref 0 :: st) h Q = Ex sc D k is ls st (sI h 0 z (bB b)) Q := ex_putZB (u_k0 f)
theorem u_k1 (f : Fr h) : hK h 1 = 9 := kf f (by decide) rfl
theorem u_gI1 (f : Fr h) : Ex sc D k ((.getfield 8, z) :: is) ls (.ref 1 :: st) h Q = Ex sc D k is ls (.int (hI h 1 z) :: st) h Q := ex_getI (u_k1 f)
theorem u_pI1 {v : Int32} (f : Fr h) : Ex sc D k ((.putfield 8, z) :: is) ls (.int v :: .ref 1 :: st) h Q = Ex sc D k is ls st (sI h 1 z v) Q := ex_putI (u_k1 f)
theorem u_k2 (f : Fr h) : hK h 2 = 20 := kf f (by decide) rfl
theorem u_n2 (f : Fr h) : hN h 2 = 120 := nf f (by decide) rfl
theorem u_al2 (f : Fr h) : Ex sc D k ((.arraylength, z) :: is) ls (.ref 2 :: st) h Q = Ex sc D k is ls (.int (nI 120) :: st) h Q := by rw [ex_alenN (by rw [u_k2 f]; decide), u_n2 f]
theorem u_ld2 (f : Fr h) (hj : j < 120) : Ex sc D k ((.iaload, z) :: is) ls (.int (nI j) :: .ref 2 :: st) h Q = Ex sc D k is ls (.int (hI h 2 j) :: st) h Q := ex_ialdN (u_k2 f) (by rw [u_n2 f]; exact hj) (by rw [u_n2 f]; decide)
theorem u_st2 {v : Int32} (f : Fr h) (hj : j < 120) : Ex sc D k ((.iastore, z) :: is) ls (.int v :: .int (nI j) :: .ref 2 :: st) h Q = Ex sc D k is ls st (sI h 2 j v) Q := ex_iastN (u_k2 f) (by rw [u_n2 f]; exact hj) (by rw [u_n2 f]; decide)
theorem u_at2 (f : Fr h) (hj : j < 120) : Ev (D + 1) 61 [.ref 2, .int (nI j)] h Q = Q (some (.int (hI h 2 j))) h := by rw [ev_at (u_k2 f) (by rw [u_n2 f]; decide) (by omega), u_n2 f, if_pos hj]
theorem u_pt2 {v : Int32} (f : Fr h) (hj : j < 120) : Ev (D + 1) 63 [.ref 2, .int (nI j), .int v] h Q = Q none (sI h 2 j v) := by rw [ev_put (u_k2 f) (by rw [u_n2 f]; decide) (by omega), u_n2 f, if_pos hj]
theorem u_k3 (f : Fr h) : hK h 3 = 24 := kf f (by decide) rfl
theorem u_n3 (f : Fr h) : hN h 3 = 4 := nf f (by decide) rfl
theorem u_al3 (f : Fr h) : Ex sc D k ((.arraylength, z) :: is) ls (.ref 3 :: st) h Q = Ex sc D k is ls (.int (nI 4) :: st) h Q := by rw [ex_alenN (by rw [u_k3 f]; decide), u_n3 f]
theorem u_k4 (f : Fr h) : hK h 4 = 7 := kf f (by decide) rfl
theorem u_k5 (f : Fr h) : hK h 5 = 3 := kf f (by decide) rfl
theorem u_gI5 (f : Fr h) : Ex sc D k ((.getfield 2, z) :: is) ls (.ref 5 :: st) h Q = Ex sc D k is ls (.int (hI h 5 z) :: st) h Q := ex_getI (u_k5 f)
theorem u_pI5 {v : Int32} (f : Fr h) : Ex sc D k ((.putfield 2, z) :: is) ls (.int v :: .ref 5 :: st) h Q = Ex sc D k is ls st (sI h 5 z v) Q := ex_putI (u_k5 f)
theorem u_gD5 (f : Fr h) : Ex sc D k ((.checkcast 2, 0) :: is) ls (.ref 5 :: st) h Q = Ex sc D k is ls (va_rf (hR h 5 0) :: st) h Q := ex_getR (u_k5 f)
theorem u_pR5 {v : Nat} (f : Fr h) : Ex sc D k ((.instanceof 2, 0) :: is) ls (.ref v :: .ref 5 :: st) h Q = Ex sc D k is ls st (sR h 5 0 (some v)) Q := ex_putR (u_k5 f)
theorem u_k6 (f : Fr h) : hK h 6 = 20 := kf f (by decide) rfl
theorem u_n6 (f : Fr h) : hN h 6 = 6 := nf f (by decide) rfl
theorem u_al6 (f : Fr h) : Ex sc D k ((.arraylength, z) :: is) ls (.ref 6 :: st) h Q = Ex sc D k is ls (.int (nI 6) :: st) h Q := by rw [ex_alenN (by rw [u_k6 f]; decide), u_n6 f]
theorem u_ld6 (f : Fr h) (hj : j < 6) : Ex sc D k ((.iaload, z) :: is) ls (.int (nI j) :: .ref 6 :: st) h Q = Ex sc D k is ls (.int (hI h 6 j) :: st) h Q := ex_ialdN (u_k6 f) (by rw [u_n6 f]; exact hj) (by rw [u_n6 f]; decide)
theorem u_st6 {v : Int32} (f : Fr h) (hj : j < 6) : Ex sc D k ((.iastore, z) :: is) ls (.int v :: .int (nI j) :: .ref 6 :: st) h Q = Ex sc D k is ls st (sI h 6 j v) Q := ex_iastN (u_k6 f) (by rw [u_n6 f]; exact hj) (by rw [u_n6 f]; decide)
theorem u_at6 (f : Fr h) (hj : j < 6) : Ev (D + 1) 61 [.ref 6, .int (nI j)] h Q = Q (some (.int (hI h 6 j))) h := by rw [ev_at (u_k6 f) (by rw [u_n6 f]; decide) (by omega), u_n6 f, if_pos hj]
theorem u_pt6 {v : Int32} (f : Fr h) (hj : j < 6) : Ev (D + 1) 63 [.ref 6, .int (nI j), .int v] h Q = Q none (sI h 6 j v) := by rw [ev_put (u_k6 f) (by rw [u_n6 f]; decide) (by omega), u_n6 f, if_pos hj]
theorem u_k7 (f : Fr h) : hK h 7 = 8 := kf f (by decide) rfl
theorem u_gI7 (f : Fr h) : Ex sc D k ((.getfield 7, z) :: is) ls (.ref 7 :: st) h Q = Ex sc D k is ls (.int (hI h 7 z) :: st) h Q := ex_getI (u_k7 f)
theorem u_pI7 {v : Int32} (f : Fr h) : Ex sc D k ((.putfield 7, z) :: is) ls (.int v :: .ref 7 :: st) h Q = Ex sc D k is ls st (sI h 7 z v) Q := ex_putI (u_k7 f)
theorem u_pZa7 (f : Fr h) : Ex sc D k ((.ret 7, z) :: is) ls (.int (nI 0) :: .ref 7 :: st) h Q = Ex sc D k is ls st (sI h 7 z (nI 0)) Q := ex_putZ0 (u_k7 f)
theorem u_pZb7 (f : Fr h) : Ex sc D k ((.ret 7, z) :: is) ls (.int (nI 1) :: .ref 7 :: st) h Q = Ex sc D k is ls st (sI h 7 z (nI 1)) Q := ex_putZ1 (u_k7 f)
theorem u_pZc7 {b : Bool} (f : Fr h) : Ex sc D k ((.ret 7, z) :: is) ls (.int (bB b) :: .ref 7 :: st) h Q = Ex sc D k is ls st (sI h 7 z (bB b)) Q := ex_putZB (u_k7 f)
theorem u_k8 (f : Fr h) : hK h 8 = 3 := kf f (by decide) rfl
theorem u_gI8 (f : Fr h) : Ex sc D k ((.getfield 2, z) :: is) ls (.ref 8 :: st) h Q = Ex sc D k is ls (.int (hI h 8 z) :: st) h Q := ex_getI (u_k8 f)
theorem u_pI8 {v : Int32} (f : Fr h) : Ex sc D k ((.putfield 2, z) :: is) ls (.int v :: .ref 8 :: st) h Q = Ex sc D k is ls st (sI h 8 z v) Q := ex_putI (u_k8 f)
theorem u_gD8 (f : Fr h) : Ex sc D k ((.checkcast 2, 0) :: is) ls (.ref 8 :: st) h Q = Ex sc D k is ls (va_rf (hR h 8 0) :: st) h Q := ex_getR (u_k8 f)
theorem u_pR8 {v : Nat} (f : Fr h) : Ex sc D k ((.instanceof 2, 0) :: is) ls (.ref v :: .ref 8 :: st) h Q = Ex sc D k is ls st (sR h 8 0 (some v)) Q := ex_putR (u_k8 f)
theorem u_k9 (f : Fr h) : hK h 9 = 20 := kf f (by decide) rfl
theorem u_n9 (f : Fr h) : hN h 9 = 6 := nf f (by decide) rfl
theorem u_al9 (f : Fr h) : Ex sc D k ((.arraylength, z) :: is) ls (.ref 9 :: st) h Q = Ex sc D k is ls (.int (nI 6) :: st) h Q := by rw [ex_alenN (by rw [u_k9 f]; decide), u_n9 f]
theorem u_ld9 (f : Fr h) (hj : j < 6) : Ex sc D k ((.iaload, z) :: is) ls (.int (nI j) :: .ref 9 :: st) h Q = Ex sc D k is ls (.int (hI h 9 j) :: st) h Q := ex_ialdN (u_k9 f) (by rw [u_n9 f]; exact hj) (by rw [u_n9 f]; decide)
theorem u_st9 {v : Int32} (f : Fr h) (hj : j < 6) : Ex sc D k ((.iastore, z) :: is) ls (.int v :: .int (nI j) :: .ref 9 :: st) h Q = Ex sc D k is ls st (sI h 9 j v) Q := ex_iastN (u_k9 f) (by rw [u_n9 f]; exact hj) (by rw [u_n9 f]; decide)
theorem u_at9 (f : Fr h) (hj : j < 6) : Ev (D + 1) 61 [.ref 9, .int (nI j)] h Q = Q (some (.int (hI h 9 j))) h := by rw [ev_at (u_k9 f) (by rw [u_n9 f]; decide) (by omega), u_n9 f, if_pos hj]
theorem u_pt9 {v : Int32} (f : Fr h) (hj : j < 6) : Ev (D + 1) 63 [.ref 9, .int (nI j), .int v] h Q = Q none (sI h 9 j v) := by rw [ev_put (u_k9 f) (by rw [u_n9 f]; decide) (by omega), u_n9 f, if_pos hj]
theorem u_k10 (f : Fr h) : hK h 10 = 20 := kf f (by decide) rfl
theorem u_n10 (f : Fr h) : hN h 10 = 6 := nf f (by decide) rfl
theorem u_al10 (f : Fr h) : Ex sc D k ((.arraylength, z) :: is) ls (.ref 10 :: st) h Q = Ex sc D k is ls (.int (nI 6) :: st) h Q := by rw [ex_alenN (by rw [u_k10 f]; decide), u_n10 f]
theorem u_ld10 (f : Fr h) (hj : j < 6) : Ex sc D k ((.iaload, z) :: is) ls (.int (nI j) :: .ref 10 :: st) h Q = Ex sc D k is ls (.int (hI h 10 j) :: st) h Q := ex_ialdN (u_k10 f) (by rw [u_n10 f]; exact hj) (by rw [u_n10 f]; decide)
theorem u_st10 {v : Int32} (f : Fr h) (hj : j < 6) : Ex sc D k ((.iastore, z) :: is) ls (.int v :: .int (nI j) :: .ref 10 :: st) h Q = Ex sc D k is ls st (sI h 10 j v) Q := ex_iastN (u_k10 f) (by rw [u_n10 f]; exact hj) (by rw [u_n10 f]; decide)
theorem u_at10 (f : Fr h) (hj : j < 6) : Ev (D + 1) 61 [.ref 10, .int (nI j)] h Q = Q (some (.int (hI h 10 j))) h := by rw [ev_at (u_k10 f) (by rw [u_n10 f]; decide) (by omega), u_n10 f, if_pos hj]
theorem u_pt10 {v : Int32} (f : Fr h) (hj : j < 6) : Ev (D + 1) 63 [.ref 10, .int (nI j), .int v] h Q = Q none (sI h 10 j v) := by rw [ev_put (u_k10 f) (by rw [u_n10 f]; decide) (by omega), u_n10 f, if_pos hj]
theorem u_k11 (f : Fr h) : hK h 11 = 1 := kf f (by decide) rfl
theorem u_gI11 (f : Fr h) : Ex sc D k ((.getfield 0, z) :: is) ls (.ref 11 :: st) h Q = Ex sc D k is ls (.int (hI h 11 z) :: st) h Q := ex_getI (u_k11 f)
theorem u_pI11 {v : Int32} (f : Fr h) : Ex sc D k ((.putfield 0, z) :: is) ls (.int v :: .ref 11 :: st) h Q = Ex sc D k is ls st (sI h 11 z v) Q := ex_putI (u_k11 f)
theorem u_k12 (f : Fr h) : hK h 12 = 20 := kf f (by decide) rfl
theorem u_n12 (f : Fr h) : hN h 12 = 30 := nf f (by decide) rfl
theorem u_al12 (f : Fr h) : Ex sc D k ((.arraylength, z) :: is) ls (.ref 12 :: st) h Q = Ex sc D k is ls (.int (nI 30) :: st) h Q := by rw [ex_alenN (by rw [u_k12 f]; decide), u_n12 f]
theorem u_ld12 (f : Fr h) (hj : j < 30) : Ex sc D k ((.iaload, z) :: is) ls (.int (nI j) :: .ref 12 :: st) h Q = Ex sc D k is ls (.int (hI h 12 j) :: st) h Q := ex_ialdN (u_k12 f) (by rw [u_n12 f]; exact hj) (by rw [u_n12 f]; decide)
theorem u_st12 {v : Int32} (f : Fr h) (hj : j < 30) : Ex sc D k ((.iastore, z) :: is) ls (.int v :: .int (nI j) :: .ref 12 :: st) h Q = Ex sc D k is ls st (sI h 12 j v) Q := ex_iastN (u_k12 f) (by rw [u_n12 f]; exact hj) (by rw [u_n12 f]; decide)
theorem u_at12 (f : Fr h) (hj : j < 30) : Ev (D + 1) 61 [.ref 12, .int (nI j)] h Q = Q (some (.int (hI h 12 j))) h := by rw [ev_at (u_k12 f) (by rw [u_n12 f]; decide) (by omega), u_n12 f, if_pos hj]
theorem u_pt12 {v : Int32} (f : Fr h) (hj : j < 30) : Ev (D + 1) 63 [.ref 12, .int (nI j), .int v] h Q = Q none (sI h 12 j v) := by rw [ev_put (u_k12 f) (by rw [u_n12 f]; decide) (by omega), u_n12 f, if_pos hj]
theorem u_k13 (f : Fr h) : hK h 13 = 20 := kf f (by decide) rfl
theorem u_n13 (f : Fr h) : hN h 13 = 30 := nf f (by decide) rfl
theorem u_al13 (f : Fr h) : Ex sc D k ((.arraylength, z) :: is) ls (.ref 13 :: st) h Q = Ex sc D k is ls (.int (nI 30) :: st) h Q := by rw [ex_alenN (by rw [u_k13 f]; decide), u_n13 f]
theorem u_ld13 (f : Fr h) (hj : j < 30) : Ex sc D k ((.iaload, z) :: is) ls (.int (nI j) :: .ref 13 :: st) h Q = Ex sc D k is ls (.int (hI h 13 j) :: st) h Q := ex_ialdN (u_k13 f) (by rw [u_n13 f]; exact hj) (by rw [u_n13 f]; decide)
theorem u_st13 {v : Int32} (f : Fr h) (hj : j < 30) : Ex sc D k ((.iastore, z) :: is) ls (.int v :: .int (nI j) :: .ref 13 :: st) h Q = Ex sc D k is ls st (sI h 13 j v) Q := ex_iastN (u_k13 f) (by rw [u_n13 f]; exact hj) (by rw [u_n13 f]; decide)
theorem u_at13 (f : Fr h) (hj : j < 30) : Ev (D + 1) 61 [.ref 13, .int (nI j)] h Q = Q (some (.int (hI h 13 j))) h := by rw [ev_at (u_k13 f) (by rw [u_n13 f]; decide) (by omega), u_n13 f, if_pos hj]
theorem u_pt13 {v : Int32} (f : Fr h) (hj : j < 30) : Ev (D + 1) 63 [.ref 13, .int (nI j), .int v] h Q = Q none (sI h 13 j v) := by rw [ev_put (u_k13 f) (by rw [u_n13 f]; decide) (by omega), u_n13 f, if_pos hj]
theorem u_k14 (f : Fr h) : hK h 14 = 4 := kf f (by decide) rfl
theorem u_gI14 (f : Fr h) : Ex sc D k ((.getfield 3, z) :: is) ls (.ref 14 :: st) h Q = Ex sc D k is ls (.int (hI h 14 z) :: st) h Q := ex_getI (u_k14 f)
theorem u_gL14 (f : Fr h) : Ex sc D k ((.getstatic 3, z) :: is) ls (.ref 14 :: st) h Q = Ex sc D k is ls (.long (hL h 14 z) :: st) h Q := ex_getL (u_k14 f)
theorem u_pL14 {v : Int64} (f : Fr h) : Ex sc D k ((.putstatic 3, z) :: is) ls (.long v :: .ref 14 :: st) h Q = Ex sc D k is ls st (sL h 14 z v) Q := ex_putL (u_k14 f)
theorem u_pI14 {v : Int32} (f : Fr h) : Ex sc D k ((.putfield 3, z) :: is) ls (.int v :: .ref 14 :: st) h Q = Ex sc D k is ls st (sI h 14 z v) Q := ex_putI (u_k14 f)
theorem u_k15 (f : Fr h) : hK h 15 = 20 := kf f (by decide) rfl
theorem u_n15 (f : Fr h) : hN h 15 = 200 := nf f (by decide) rfl
theorem u_al15 (f : Fr h) : Ex sc D k ((.arraylength, z) :: is) ls (.ref 15 :: st) h Q = Ex sc D k is ls (.int (nI 200) :: st) h Q := by rw [ex_alenN (by rw [u_k15 f]; decide), u_n15 f]
theorem u_ld15 (f : Fr h) (hj : j < 200) : Ex sc D k ((.iaload, z) :: is) ls (.int (nI j) :: .ref 15 :: st) h Q = Ex sc D k is ls (.int (hI h 15 j) :: st) h Q := ex_ialdN (u_k15 f) (by rw [u_n15 f]; exact hj) (by rw [u_n15 f]; decide)
theorem u_st15 {v : Int32} (f : Fr h) (hj : j < 200) : Ex sc D k ((.iastore, z) :: is) ls (.int v :: .int (nI j) :: .ref 15 :: st) h Q = Ex sc D k is ls st (sI h 15 j v) Q := ex_iastN (u_k15 f) (by rw [u_n15 f]; exact hj) (by rw [u_n15 f]; decide)
theorem u_at15 (f : Fr h) (hj : j < 200) : Ev (D + 1) 61 [.ref 15, .int (nI j)] h Q = Q (some (.int (hI h 15 j))) h := by rw [ev_at (u_k15 f) (by rw [u_n15 f]; decide) (by omega), u_n15 f, if_pos hj]
theorem u_pt15 {v : Int32} (f : Fr h) (hj : j < 200) : Ev (D + 1) 63 [.ref 15, .int (nI j), .int v] h Q = Q none (sI h 15 j v) := by rw [ev_put (u_k15 f) (by rw [u_n15 f]; decide) (by omega), u_n15 f, if_pos hj]
theorem u_k16 (f : Fr h) : hK h 16 = 20 := kf f (by decide) rfl
theorem u_n16 (f : Fr h) : hN h 16 = 200 := nf f (by decide) rfl
theorem u_al16 (f : Fr h) : Ex sc D k ((.arraylength, z) :: is) ls (.ref 16 :: st) h Q = Ex sc D k is ls (.int (nI 200) :: st) h Q := by rw [ex_alenN (by rw [u_k16 f]; decide), u_n16 f]
theorem u_ld16 (f : Fr h) (hj : j < 200) : Ex sc D k ((.iaload, z) :: is) ls (.int (nI j) :: .ref 16 :: st) h Q = Ex sc D k is ls (.int (hI h 16 j) :: st) h Q := ex_ialdN (u_k16 f) (by rw [u_n16 f]; exact hj) (by rw [u_n16 f]; decide)
theorem u_st16 {v : Int32} (f : Fr h) (hj : j < 200) : Ex sc D k ((.iastore, z) :: is) ls (.int v :: .int (nI j) :: .ref 16 :: st) h Q = Ex sc D k is ls st (sI h 16 j v) Q := ex_iastN (u_k16 f) (by rw [u_n16 f]; exact hj) (by rw [u_n16 f]; decide)
theorem u_at16 (f : Fr h) (hj : j < 200) : Ev (D + 1) 61 [.ref 16, .int (nI j)] h Q = Q (some (.int (hI h 16 j))) h := by rw [ev_at (u_k16 f) (by rw [u_n16 f]; decide) (by omega), u_n16 f, if_pos hj]
theorem u_pt16 {v : Int32} (f : Fr h) (hj : j < 200) : Ev (D + 1) 63 [.ref 16, .int (nI j), .int v] h Q = Q none (sI h 16 j v) := by rw [ev_put (u_k16 f) (by rw [u_n16 f]; decide) (by omega), u_n16 f, if_pos hj]
theorem u_k17 (f : Fr h) : hK h 17 = 20 := kf f (by decide) rfl
theorem u_n17 (f : Fr h) : hN h 17 = 40 := nf f (by decide) rfl
theorem u_al17 (f : Fr h) : Ex sc D k ((.arraylength, z) :: is) ls (.ref 17 :: st) h Q = Ex sc D k is ls (.int (nI 40) :: st) h Q := by rw [ex_alenN (by rw [u_k17 f]; decide), u_n17 f]
theorem u_ld17 (f : Fr h) (hj : j < 40) : Ex sc D k ((.iaload, z) :: is) ls (.int (nI j) :: .ref 17 :: st) h Q = Ex sc D k is ls (.int (hI h 17 j) :: st) h Q := ex_ialdN (u_k17 f) (by rw [u_n17 f]; exact hj) (by rw [u_n17 f]; decide)
theorem u_st17 {v : Int32} (f : Fr h) (hj : j < 40) : Ex sc D k ((.iastore, z) :: is) ls (.int v :: .int (nI j) :: .ref 17 :: st) h Q = Ex sc D k is ls st (sI h 17 j v) Q := ex_iastN (u_k17 f) (by rw [u_n17 f]; exact hj) (by rw [u_n17 f]; decide)
theorem u_at17 (f : Fr h) (hj : j < 40) : Ev (D + 1) 61 [.ref 17, .int (nI j)] h Q = Q (some (.int (hI h 17 j))) h := by rw [ev_at (u_k17 f) (by rw [u_n17 f]; decide) (by omega), u_n17 f, if_pos hj]
theorem u_pt17 {v : Int32} (f : Fr h) (hj : j < 40) : Ev (D + 1) 63 [.ref 17, .int (nI j), .int v] h Q = Q none (sI h 17 j v) := by rw [ev_put (u_k17 f) (by rw [u_n17 f]; decide) (by omega), u_n17 f, if_pos hj]
theorem u_k18 (f : Fr h) : hK h 18 = 20 := kf f (by decide) rfl
theorem u_n18 (f : Fr h) : hN h 18 = 240 := nf f (by decide) rfl
theorem u_al18 (f : Fr h) : Ex sc D k ((.arraylength, z) :: is) ls (.ref 18 :: st) h Q = Ex sc D k is ls (.int (nI 240) :: st) h Q := by rw [ex_alenN (by rw [u_k18 f]; decide), u_n18 f]
theorem u_ld18 (f : Fr h) (hj : j < 240) : Ex sc D k ((.iaload, z) :: is) ls (.int (nI j) :: .ref 18 :: st) h Q = Ex sc D k is ls (.int (hI h 18 j) :: st) h Q := ex_ialdN (u_k18 f) (by rw [u_n18 f]; exact hj) (by rw [u_n18 f]; decide)
theorem u_st18 {v : Int32} (f : Fr h) (hj : j < 240) : Ex sc D k ((.iastore, z) :: is) ls (.int v :: .int (nI j) :: .ref 18 :: st) h Q = Ex sc D k is ls st (sI h 18 j v) Q := ex_iastN (u_k18 f) (by rw [u_n18 f]; exact hj) (by rw [u_n18 f]; decide)
theorem u_at18 (f : Fr h) (hj : j < 240) : Ev (D + 1) 61 [.ref 18, .int (nI j)] h Q = Q (some (.int (hI h 18 j))) h := by rw [ev_at (u_k18 f) (by rw [u_n18 f]; decide) (by omega), u_n18 f, if_pos hj]
theorem u_pt18 {v : Int32} (f : Fr h) (hj : j < 240) : Ev (D + 1) 63 [.ref 18, .int (nI j), .int v] h Q = Q none (sI h 18 j v) := by rw [ev_put (u_k18 f) (by rw [u_n18 f]; decide) (by omega), u_n18 f, if_pos hj]
theorem u_k19 (f : Fr h) : hK h 19 = 23 := kf f (by decide) rfl
theorem u_n19 (f : Fr h) : hN h 19 = 40 := nf f (by decide) rfl
theorem u_al19 (f : Fr h) : Ex sc D k ((.arraylength, z) :: is) ls (.ref 19 :: st) h Q = Ex sc D k is ls (.int (nI 40) :: st) h Q := by rw [ex_alenN (by rw [u_k19 f]; decide), u_n19 f]
theorem u_ld19 (f : Fr h) (hj : j < 40) : Ex sc D k ((.laload, z) :: is) ls (.int (nI j) :: .ref 19 :: st) h Q = Ex sc D k is ls (.long (hL h 19 j) :: st) h Q := ex_laldN (u_k19 f) (by rw [u_n19 f]; exact hj) (by rw [u_n19 f]; decide)
theorem u_st19 {v : Int64} (f : Fr h) (hj : j < 40) : Ex sc D k ((.lastore, z) :: is) ls (.long v :: .int (nI j) :: .ref 19 :: st) h Q = Ex sc D k is ls st (sL h 19 j v) Q := ex_lastN (u_k19 f) (by rw [u_n19 f]; exact hj) (by rw [u_n19 f]; decide)
theorem u_at19 (f : Fr h) (hj : j < 40) : Ev (D + 1) 62 [.ref 19, .int (nI j)] h Q = Q (some (.long (hL h 19 j))) h := by rw [ev_atL (u_k19 f) (by rw [u_n19 f]; decide) (by omega), u_n19 f, if_pos hj]
theorem u_pt19 {v : Int64} (f : Fr h) (hj : j < 40) : Ev (D + 1) 64 [.ref 19, .int (nI j), .long v] h Q = Q none (sL h 19 j v) := by rw [ev_putL (u_k19 f) (by rw [u_n19 f]; decide) (by omega), u_n19 f, if_pos hj]
theorem u_rs19 {v : Int64} (f : Fr h) (hj : j < 40) : Ev (D + 2) 65 [.ref 19, .int (nI j), .long v] h Q = Q none (sL h 19 j (hL h 19 j + v)) := ev_raise (u_k19 f) (by rw [u_n19 f]; decide) (by rw [u_n19 f]; exact hj)
theorem u_k20 (f : Fr h) : hK h 20 = 20 := kf f (by decide) rfl
theorem u_n20 (f : Fr h) : hN h 20 = 5 := nf f (by decide) rfl
theorem u_al20 (f : Fr h) : Ex sc D k ((.arraylength, z) :: is) ls (.ref 20 :: st) h Q = Ex sc D k is ls (.int (nI 5) :: st) h Q := by rw [ex_alenN (by rw [u_k20 f]; decide), u_n20 f]
theorem u_ld20 (f : Fr h) (hj : j < 5) : Ex sc D k ((.iaload, z) :: is) ls (.int (nI j) :: .ref 20 :: st) h Q = Ex sc D k is ls (.int (hI h 20 j) :: st) h Q := ex_ialdN (u_k20 f) (by rw [u_n20 f]; exact hj) (by rw [u_n20 f]; decide)
theorem u_st20 {v : Int32} (f : Fr h) (hj : j < 5) : Ex sc D k ((.iastore, z) :: is) ls (.int v :: .int (nI j) :: .ref 20 :: st) h Q = Ex sc D k is ls st (sI h 20 j v) Q := ex_iastN (u_k20 f) (by rw [u_n20 f]; exact hj) (by rw [u_n20 f]; decide)
theorem u_at20 (f : Fr h) (hj : j < 5) : Ev (D + 1) 61 [.ref 20, .int (nI j)] h Q = Q (some (.int (hI h 20 j))) h := by rw [ev_at (u_k20 f) (by rw [u_n20 f]; decide) (by omega), u_n20 f, if_pos hj]
theorem u_pt20 {v : Int32} (f : Fr h) (hj : j < 5) : Ev (D + 1) 63 [.ref 20, .int (nI j), .int v] h Q = Q none (sI h 20 j v) := by rw [ev_put (u_k20 f) (by rw [u_n20 f]; decide) (by omega), u_n20 f, if_pos hj]
theorem u_k21 (f : Fr h) : hK h 21 = 1 := kf f (by decide) rfl
theorem u_gI21 (f : Fr h) : Ex sc D k ((.getfield 0, z) :: is) ls (.ref 21 :: st) h Q = Ex sc D k is ls (.int (hI h 21 z) :: st) h Q := ex_getI (u_k21 f)
theorem u_pI21 {v : Int32} (f : Fr h) : Ex sc D k ((.putfield 0, z) :: is) ls (.int v :: .ref 21 :: st) h Q = Ex sc D k is ls st (sI h 21 z v) Q := ex_putI (u_k21 f)
theorem u_k22 (f : Fr h) : hK h 22 = 20 := kf f (by decide) rfl
theorem u_n22 (f : Fr h) : hN h 22 = 30 := nf f (by decide) rfl
theorem u_al22 (f : Fr h) : Ex sc D k ((.arraylength, z) :: is) ls (.ref 22 :: st) h Q = Ex sc D k is ls (.int (nI 30) :: st) h Q := by rw [ex_alenN (by rw [u_k22 f]; decide), u_n22 f]
theorem u_ld22 (f : Fr h) (hj : j < 30) : Ex sc D k ((.iaload, z) :: is) ls (.int (nI j) :: .ref 22 :: st) h Q = Ex sc D k is ls (.int (hI h 22 j) :: st) h Q := ex_ialdN (u_k22 f) (by rw [u_n22 f]; exact hj) (by rw [u_n22 f]; decide)
theorem u_st22 {v : Int32} (f : Fr h) (hj : j < 30) : Ex sc D k ((.iastore, z) :: is) ls (.int v :: .int (nI j) :: .ref 22 :: st) h Q = Ex sc D k is ls st (sI h 22 j v) Q := ex_iastN (u_k22 f) (by rw [u_n22 f]; exact hj) (by rw [u_n22 f]; decide)
theorem u_at22 (f : Fr h) (hj : j < 30) : Ev (D + 1) 61 [.ref 22, .int (nI j)] h Q = Q (some (.int (hI h 22 j))) h := by rw [ev_at (u_k22 f) (by rw [u_n22 f]; decide) (by omega), u_n22 f, if_pos hj]
theorem u_pt22 {v : Int32} (f : Fr h) (hj : j < 30) : Ev (D + 1) 63 [.ref 22, .int (nI j), .int v] h Q = Q none (sI h 22 j v) := by rw [ev_put (u_k22 f) (by rw [u_n22 f]; decide) (by omega), u_n22 f, if_pos hj]
theorem u_k23 (f : Fr h) : hK h 23 = 20 := kf f (by decide) rfl
theorem u_n23 (f : Fr h) : hN h 23 = 30 := nf f (by decide) rfl
theorem u_al23 (f : Fr h) : Ex sc D k ((.arraylength, z) :: is) ls (.ref 23 :: st) h Q = Ex sc D k is ls (.int (nI 30) :: st) h Q := by rw [ex_alenN (by rw [u_k23 f]; decide), u_n23 f]
theorem u_ld23 (f : Fr h) (hj : j < 30) : Ex sc D k ((.iaload, z) :: is) ls (.int (nI j) :: .ref 23 :: st) h Q = Ex sc D k is ls (.int (hI h 23 j) :: st) h Q := ex_ialdN (u_k23 f) (by rw [u_n23 f]; exact hj) (by rw [u_n23 f]; decide)
theorem u_st23 {v : Int32} (f : Fr h) (hj : j < 30) : Ex sc D k ((.iastore, z) :: is) ls (.int v :: .int (nI j) :: .ref 23 :: st) h Q = Ex sc D k is ls st (sI h 23 j v) Q := ex_iastN (u_k23 f) (by rw [u_n23 f]; exact hj) (by rw [u_n23 f]; decide)
theorem u_at23 (f : Fr h) (hj : j < 30) : Ev (D + 1) 61 [.ref 23, .int (nI j)] h Q = Q (some (.int (hI h 23 j))) h := by rw [ev_at (u_k23 f) (by rw [u_n23 f]; decide) (by omega), u_n23 f, if_pos hj]
theorem u_pt23 {v : Int32} (f : Fr h) (hj : j < 30) : Ev (D + 1) 63 [.ref 23, .int (nI j), .int v] h Q = Q none (sI h 23 j v) := by rw [ev_put (u_k23 f) (by rw [u_n23 f]; decide) (by omega), u_n23 f, if_pos hj]
theorem u_k24 (f : Fr h) : hK h 24 = 4 := kf f (by decide) rfl
theorem u_gI24 (f : Fr h) : Ex sc D k ((.getfield 3, z) :: is) ls (.ref 24 :: st) h Q = Ex sc D k is ls (.int (hI h 24 z) :: st) h Q := ex_getI (u_k24 f)
theorem u_gL24 (f : Fr h) : Ex sc D k ((.getstatic 3, z) :: is) ls (.ref 24 :: st) h Q = Ex sc D k is ls (.long (hL h 24 z) :: st) h Q := ex_getL (u_k24 f)
theorem u_pL24 {v : Int64} (f : Fr h) : Ex sc D k ((.putstatic 3, z) :: is) ls (.long v :: .ref 24 :: st) h Q = Ex sc D k is ls st (sL h 24 z v) Q := ex_putL (u_k24 f)
theorem u_pI24 {v : Int32} (f : Fr h) : Ex sc D k ((.putfield 3, z) :: is) ls (.int v :: .ref 24 :: st) h Q = Ex sc D k is ls st (sI h 24 z v) Q := ex_putI (u_k24 f)
theorem u_k25 (f : Fr h) : hK h 25 = 20 := kf f (by decide) rfl
theorem u_n25 (f : Fr h) : hN h 25 = 200 := nf f (by decide) rfl
theorem u_al25 (f : Fr h) : Ex sc D k ((.arraylength, z) :: is) ls (.ref 25 :: st) h Q = Ex sc D k is ls (.int (nI 200) :: st) h Q := by rw [ex_alenN (by rw [u_k25 f]; decide), u_n25 f]
theorem u_ld25 (f : Fr h) (hj : j < 200) : Ex sc D k ((.iaload, z) :: is) ls (.int (nI j) :: .ref 25 :: st) h Q = Ex sc D k is ls (.int (hI h 25 j) :: st) h Q := ex_ialdN (u_k25 f) (by rw [u_n25 f]; exact hj) (by rw [u_n25 f]; decide)
theorem u_st25 {v : Int32} (f : Fr h) (hj : j < 200) : Ex sc D k ((.iastore, z) :: is) ls (.int v :: .int (nI j) :: .ref 25 :: st) h Q = Ex sc D k is ls st (sI h 25 j v) Q := ex_iastN (u_k25 f) (by rw [u_n25 f]; exact hj) (by rw [u_n25 f]; decide)
theorem u_at25 (f : Fr h) (hj : j < 200) : Ev (D + 1) 61 [.ref 25, .int (nI j)] h Q = Q (some (.int (hI h 25 j))) h := by rw [ev_at (u_k25 f) (by rw [u_n25 f]; decide) (by omega), u_n25 f, if_pos hj]
theorem u_pt25 {v : Int32} (f : Fr h) (hj : j < 200) : Ev (D + 1) 63 [.ref 25, .int (nI j), .int v] h Q = Q none (sI h 25 j v) := by rw [ev_put (u_k25 f) (by rw [u_n25 f]; decide) (by omega), u_n25 f, if_pos hj]
theorem u_k26 (f : Fr h) : hK h 26 = 20 := kf f (by decide) rfl
theorem u_n26 (f : Fr h) : hN h 26 = 200 := nf f (by decide) rfl
theorem u_al26 (f : Fr h) : Ex sc D k ((.arraylength, z) :: is) ls (.ref 26 :: st) h Q = Ex sc D k is ls (.int (nI 200) :: st) h Q := by rw [ex_alenN (by rw [u_k26 f]; decide), u_n26 f]
theorem u_ld26 (f : Fr h) (hj : j < 200) : Ex sc D k ((.iaload, z) :: is) ls (.int (nI j) :: .ref 26 :: st) h Q = Ex sc D k is ls (.int (hI h 26 j) :: st) h Q := ex_ialdN (u_k26 f) (by rw [u_n26 f]; exact hj) (by rw [u_n26 f]; decide)
theorem u_st26 {v : Int32} (f : Fr h) (hj : j < 200) : Ex sc D k ((.iastore, z) :: is) ls (.int v :: .int (nI j) :: .ref 26 :: st) h Q = Ex sc D k is ls st (sI h 26 j v) Q := ex_iastN (u_k26 f) (by rw [u_n26 f]; exact hj) (by rw [u_n26 f]; decide)
theorem u_at26 (f : Fr h) (hj : j < 200) : Ev (D + 1) 61 [.ref 26, .int (nI j)] h Q = Q (some (.int (hI h 26 j))) h := by rw [ev_at (u_k26 f) (by rw [u_n26 f]; decide) (by omega), u_n26 f, if_pos hj]
theorem u_pt26 {v : Int32} (f : Fr h) (hj : j < 200) : Ev (D + 1) 63 [.ref 26, .int (nI j), .int v] h Q = Q none (sI h 26 j v) := by rw [ev_put (u_k26 f) (by rw [u_n26 f]; decide) (by omega), u_n26 f, if_pos hj]
theorem u_k27 (f : Fr h) : hK h 27 = 20 := kf f (by decide) rfl
theorem u_n27 (f : Fr h) : hN h 27 = 40 := nf f (by decide) rfl
theorem u_al27 (f : Fr h) : Ex sc D k ((.arraylength, z) :: is) ls (.ref 27 :: st) h Q = Ex sc D k is ls (.int (nI 40) :: st) h Q := by rw [ex_alenN (by rw [u_k27 f]; decide), u_n27 f]
theorem u_ld27 (f : Fr h) (hj : j < 40) : Ex sc D k ((.iaload, z) :: is) ls (.int (nI j) :: .ref 27 :: st) h Q = Ex sc D k is ls (.int (hI h 27 j) :: st) h Q := ex_ialdN (u_k27 f) (by rw [u_n27 f]; exact hj) (by rw [u_n27 f]; decide)
theorem u_st27 {v : Int32} (f : Fr h) (hj : j < 40) : Ex sc D k ((.iastore, z) :: is) ls (.int v :: .int (nI j) :: .ref 27 :: st) h Q = Ex sc D k is ls st (sI h 27 j v) Q := ex_iastN (u_k27 f) (by rw [u_n27 f]; exact hj) (by rw [u_n27 f]; decide)
theorem u_at27 (f : Fr h) (hj : j < 40) : Ev (D + 1) 61 [.ref 27, .int (nI j)] h Q = Q (some (.int (hI h 27 j))) h := by rw [ev_at (u_k27 f) (by rw [u_n27 f]; decide) (by omega), u_n27 f, if_pos hj]
theorem u_pt27 {v : Int32} (f : Fr h) (hj : j < 40) : Ev (D + 1) 63 [.ref 27, .int (nI j), .int v] h Q = Q none (sI h 27 j v) := by rw [ev_put (u_k27 f) (by rw [u_n27 f]; decide) (by omega), u_n27 f, if_pos hj]
theorem u_k28 (f : Fr h) : hK h 28 = 20 := kf f (by decide) rfl
theorem u_n28 (f : Fr h) : hN h 28 = 240 := nf f (by decide) rfl
theorem u_al28 (f : Fr h) : Ex sc D k ((.arraylength, z) :: is) ls (.ref 28 :: st) h Q = Ex sc D k is ls (.int (nI 240) :: st) h Q := by rw [ex_alenN (by rw [u_k28 f]; decide), u_n28 f]
theorem u_ld28 (f : Fr h) (hj : j < 240) : Ex sc D k ((.iaload, z) :: is) ls (.int (nI j) :: .ref 28 :: st) h Q = Ex sc D k is ls (.int (hI h 28 j) :: st) h Q := ex_ialdN (u_k28 f) (by rw [u_n28 f]; exact hj) (by rw [u_n28 f]; decide)
theorem u_st28 {v : Int32} (f : Fr h) (hj : j < 240) : Ex sc D k ((.iastore, z) :: is) ls (.int v :: .int (nI j) :: .ref 28 :: st) h Q = Ex sc D k is ls st (sI h 28 j v) Q := ex_iastN (u_k28 f) (by rw [u_n28 f]; exact hj) (by rw [u_n28 f]; decide)
theorem u_at28 (f : Fr h) (hj : j < 240) : Ev (D + 1) 61 [.ref 28, .int (nI j)] h Q = Q (some (.int (hI h 28 j))) h := by rw [ev_at (u_k28 f) (by rw [u_n28 f]; decide) (by omega), u_n28 f, if_pos hj]
theorem u_pt28 {v : Int32} (f : Fr h) (hj : j < 240) : Ev (D + 1) 63 [.ref 28, .int (nI j), .int v] h Q = Q none (sI h 28 j v) := by rw [ev_put (u_k28 f) (by rw [u_n28 f]; decide) (by omega), u_n28 f, if_pos hj]
theorem u_k29 (f : Fr h) : hK h 29 = 23 := kf f (by decide) rfl
theorem u_n29 (f : Fr h) : hN h 29 = 40 := nf f (by decide) rfl
theorem u_al29 (f : Fr h) : Ex sc D k ((.arraylength, z) :: is) ls (.ref 29 :: st) h Q = Ex sc D k is ls (.int (nI 40) :: st) h Q := by rw [ex_alenN (by rw [u_k29 f]; decide), u_n29 f]
theorem u_ld29 (f : Fr h) (hj : j < 40) : Ex sc D k ((.laload, z) :: is) ls (.int (nI j) :: .ref 29 :: st) h Q = Ex sc D k is ls (.long (hL h 29 j) :: st) h Q := ex_laldN (u_k29 f) (by rw [u_n29 f]; exact hj) (by rw [u_n29 f]; decide)
theorem u_st29 {v : Int64} (f : Fr h) (hj : j < 40) : Ex sc D k ((.lastore, z) :: is) ls (.long v :: .int (nI j) :: .ref 29 :: st) h Q = Ex sc D k is ls st (sL h 29 j v) Q := ex_lastN (u_k29 f) (by rw [u_n29 f]; exact hj) (by rw [u_n29 f]; decide)
theorem u_at29 (f : Fr h) (hj : j < 40) : Ev (D + 1) 62 [.ref 29, .int (nI j)] h Q = Q (some (.long (hL h 29 j))) h := by rw [ev_atL (u_k29 f) (by rw [u_n29 f]; decide) (by omega), u_n29 f, if_pos hj]
theorem u_pt29 {v : Int64} (f : Fr h) (hj : j < 40) : Ev (D + 1) 64 [.ref 29, .int (nI j), .long v] h Q = Q none (sL h 29 j v) := by rw [ev_putL (u_k29 f) (by rw [u_n29 f]; decide) (by omega), u_n29 f, if_pos hj]
theorem u_rs29 {v : Int64} (f : Fr h) (hj : j < 40) : Ev (D + 2) 65 [.ref 29, .int (nI j), .long v] h Q = Q none (sL h 29 j (hL h 29 j + v)) := ev_raise (u_k29 f) (by rw [u_n29 f]; decide) (by rw [u_n29 f]; exact hj)
theorem u_k30 (f : Fr h) : hK h 30 = 20 := kf f (by decide) rfl
theorem u_n30 (f : Fr h) : hN h 30 = 5 := nf f (by decide) rfl
theorem u_al30 (f : Fr h) : Ex sc D k ((.arraylength, z) :: is) ls (.ref 30 :: st) h Q = Ex sc D k is ls (.int (nI 5) :: st) h Q := by rw [ex_alenN (by rw [u_k30 f]; decide), u_n30 f]
theorem u_ld30 (f : Fr h) (hj : j < 5) : Ex sc D k ((.iaload, z) :: is) ls (.int (nI j) :: .ref 30 :: st) h Q = Ex sc D k is ls (.int (hI h 30 j) :: st) h Q := ex_ialdN (u_k30 f) (by rw [u_n30 f]; exact hj) (by rw [u_n30 f]; decide)
theorem u_st30 {v : Int32} (f : Fr h) (hj : j < 5) : Ex sc D k ((.iastore, z) :: is) ls (.int v :: .int (nI j) :: .ref 30 :: st) h Q = Ex sc D k is ls st (sI h 30 j v) Q := ex_iastN (u_k30 f) (by rw [u_n30 f]; exact hj) (by rw [u_n30 f]; decide)
theorem u_at30 (f : Fr h) (hj : j < 5) : Ev (D + 1) 61 [.ref 30, .int (nI j)] h Q = Q (some (.int (hI h 30 j))) h := by rw [ev_at (u_k30 f) (by rw [u_n30 f]; decide) (by omega), u_n30 f, if_pos hj]
theorem u_pt30 {v : Int32} (f : Fr h) (hj : j < 5) : Ev (D + 1) 63 [.ref 30, .int (nI j), .int v] h Q = Q none (sI h 30 j v) := by rw [ev_put (u_k30 f) (by rw [u_n30 f]; decide) (by omega), u_n30 f, if_pos hj]
theorem u_k31 (f : Fr h) : hK h 31 = 20 := kf f (by decide) rfl
theorem u_n31 (f : Fr h) : hN h 31 = 6 := nf f (by decide) rfl
theorem u_al31 (f : Fr h) : Ex sc D k ((.arraylength, z) :: is) ls (.ref 31 :: st) h Q = Ex sc D k is ls (.int (nI 6) :: st) h Q := by rw [ex_alenN (by rw [u_k31 f]; decide), u_n31 f]
theorem u_ld31 (f : Fr h) (hj : j < 6) : Ex sc D k ((.iaload, z) :: is) ls (.int (nI j) :: .ref 31 :: st) h Q = Ex sc D k is ls (.int (hI h 31 j) :: st) h Q := ex_ialdN (u_k31 f) (by rw [u_n31 f]; exact hj) (by rw [u_n31 f]; decide)
theorem u_st31 {v : Int32} (f : Fr h) (hj : j < 6) : Ex sc D k ((.iastore, z) :: is) ls (.int v :: .int (nI j) :: .ref 31 :: st) h Q = Ex sc D k is ls st (sI h 31 j v) Q := ex_iastN (u_k31 f) (by rw [u_n31 f]; exact hj) (by rw [u_n31 f]; decide)
theorem u_at31 (f : Fr h) (hj : j < 6) : Ev (D + 1) 61 [.ref 31, .int (nI j)] h Q = Q (some (.int (hI h 31 j))) h := by rw [ev_at (u_k31 f) (by rw [u_n31 f]; decide) (by omega), u_n31 f, if_pos hj]
theorem u_pt31 {v : Int32} (f : Fr h) (hj : j < 6) : Ev (D + 1) 63 [.ref 31, .int (nI j), .int v] h Q = Q none (sI h 31 j v) := by rw [ev_put (u_k31 f) (by rw [u_n31 f]; decide) (by omega), u_n31 f, if_pos hj]
theorem u_k32 (f : Fr h) : hK h 32 = 20 := kf f (by decide) rfl
theorem u_n32 (f : Fr h) : hN h 32 = 6 := nf f (by decide) rfl
theorem u_al32 (f : Fr h) : Ex sc D k ((.arraylength, z) :: is) ls (.ref 32 :: st) h Q = Ex sc D k is ls (.int (nI 6) :: st) h Q := by rw [ex_alenN (by rw [u_k32 f]; decide), u_n32 f]
theorem u_ld32 (f : Fr h) (hj : j < 6) : Ex sc D k ((.iaload, z) :: is) ls (.int (nI j) :: .ref 32 :: st) h Q = Ex sc D k is ls (.int (hI h 32 j) :: st) h Q := ex_ialdN (u_k32 f) (by rw [u_n32 f]; exact hj) (by rw [u_n32 f]; decide)
theorem u_st32 {v : Int32} (f : Fr h) (hj : j < 6) : Ex sc D k ((.iastore, z) :: is) ls (.int v :: .int (nI j) :: .ref 32 :: st) h Q = Ex sc D k is ls st (sI h 32 j v) Q := ex_iastN (u_k32 f) (by rw [u_n32 f]; exact hj) (by rw [u_n32 f]; decide)
theorem u_at32 (f : Fr h) (hj : j < 6) : Ev (D + 1) 61 [.ref 32, .int (nI j)] h Q = Q (some (.int (hI h 32 j))) h := by rw [ev_at (u_k32 f) (by rw [u_n32 f]; decide) (by omega), u_n32 f, if_pos hj]
theorem u_pt32 {v : Int32} (f : Fr h) (hj : j < 6) : Ev (D + 1) 63 [.ref 32, .int (nI j), .int v] h Q = Q none (sI h 32 j v) := by rw [ev_put (u_k32 f) (by rw [u_n32 f]; decide) (by omega), u_n32 f, if_pos hj]
theorem u_k33 (f : Fr h) : hK h 33 = 5 := kf f (by decide) rfl
theorem u_gI33 (f : Fr h) : Ex sc D k ((.getfield 4, z) :: is) ls (.ref 33 :: st) h Q = Ex sc D k is ls (.int (hI h 33 z) :: st) h Q := ex_getI (u_k33 f)
theorem u_gL33 (f : Fr h) : Ex sc D k ((.getstatic 4, z) :: is) ls (.ref 33 :: st) h Q = Ex sc D k is ls (.long (hL h 33 z) :: st) h Q := ex_getL (u_k33 f)
theorem u_pL33 {v : Int64} (f : Fr h) : Ex sc D k ((.putstatic 4, z) :: is) ls (.long v :: .ref 33 :: st) h Q = Ex sc D k is ls st (sL h 33 z v) Q := ex_putL (u_k33 f)
theorem u_pI33 {v : Int32} (f : Fr h) : Ex sc D k ((.putfield 4, z) :: is) ls (.int v :: .ref 33 :: st) h Q = Ex sc D k is ls st (sI h 33 z v) Q := ex_putI (u_k33 f)
theorem u_k34 (f : Fr h) : hK h 34 = 20 := kf f (by decide) rfl
theorem u_n34 (f : Fr h) : hN h 34 = 5 := nf f (by decide) rfl
theorem u_al34 (f : Fr h) : Ex sc D k ((.arraylength, z) :: is) ls (.ref 34 :: st) h Q = Ex sc D k is ls (.int (nI 5) :: st) h Q := by rw [ex_alenN (by rw [u_k34 f]; decide), u_n34 f]
theorem u_ld34 (f : Fr h) (hj : j < 5) : Ex sc D k ((.iaload, z) :: is) ls (.int (nI j) :: .ref 34 :: st) h Q = Ex sc D k is ls (.int (hI h 34 j) :: st) h Q := ex_ialdN (u_k34 f) (by rw [u_n34 f]; exact hj) (by rw [u_n34 f]; decide)
theorem u_st34 {v : Int32} (f : Fr h) (hj : j < 5) : Ex sc D k ((.iastore, z) :: is) ls (.int v :: .int (nI j) :: .ref 34 :: st) h Q = Ex sc D k is ls st (sI h 34 j v) Q := ex_iastN (u_k34 f) (by rw [u_n34 f]; exact hj) (by rw [u_n34 f]; decide)
theorem u_at34 (f : Fr h) (hj : j < 5) : Ev (D + 1) 61 [.ref 34, .int (nI j)] h Q = Q (some (.int (hI h 34 j))) h := by rw [ev_at (u_k34 f) (by rw [u_n34 f]; decide) (by omega), u_n34 f, if_pos hj]
theorem u_pt34 {v : Int32} (f : Fr h) (hj : j < 5) : Ev (D + 1) 63 [.ref 34, .int (nI j), .int v] h Q = Q none (sI h 34 j v) := by rw [ev_put (u_k34 f) (by rw [u_n34 f]; decide) (by omega), u_n34 f, if_pos hj]
theorem u_k35 (f : Fr h) : hK h 35 = 20 := kf f (by decide) rfl
theorem u_n35 (f : Fr h) : hN h 35 = 5 := nf f (by decide) rfl
theorem u_al35 (f : Fr h) : Ex sc D k ((.arraylength, z) :: is) ls (.ref 35 :: st) h Q = Ex sc D k is ls (.int (nI 5) :: st) h Q := by rw [ex_alenN (by rw [u_k35 f]; decide), u_n35 f]
theorem u_ld35 (f : Fr h) (hj : j < 5) : Ex sc D k ((.iaload, z) :: is) ls (.int (nI j) :: .ref 35 :: st) h Q = Ex sc D k is ls (.int (hI h 35 j) :: st) h Q := ex_ialdN (u_k35 f) (by rw [u_n35 f]; exact hj) (by rw [u_n35 f]; decide)
theorem u_st35 {v : Int32} (f : Fr h) (hj : j < 5) : Ex sc D k ((.iastore, z) :: is) ls (.int v :: .int (nI j) :: .ref 35 :: st) h Q = Ex sc D k is ls st (sI h 35 j v) Q := ex_iastN (u_k35 f) (by rw [u_n35 f]; exact hj) (by rw [u_n35 f]; decide)
theorem u_at35 (f : Fr h) (hj : j < 5) : Ev (D + 1) 61 [.ref 35, .int (nI j)] h Q = Q (some (.int (hI h 35 j))) h := by rw [ev_at (u_k35 f) (by rw [u_n35 f]; decide) (by omega), u_n35 f, if_pos hj]
theorem u_pt35 {v : Int32} (f : Fr h) (hj : j < 5) : Ev (D + 1) 63 [.ref 35, .int (nI j), .int v] h Q = Q none (sI h 35 j v) := by rw [ev_put (u_k35 f) (by rw [u_n35 f]; decide) (by omega), u_n35 f, if_pos hj]
theorem u_k36 (f : Fr h) : hK h 36 = 2 := kf f (by decide) rfl
theorem u_gI36 (f : Fr h) : Ex sc D k ((.getfield 1, z) :: is) ls (.ref 36 :: st) h Q = Ex sc D k is ls (.int (hI h 36 z) :: st) h Q := ex_getI (u_k36 f)
theorem u_gL36 (f : Fr h) : Ex sc D k ((.getstatic 1, z) :: is) ls (.ref 36 :: st) h Q = Ex sc D k is ls (.long (hL h 36 z) :: st) h Q := ex_getL (u_k36 f)
theorem u_pL36 {v : Int64} (f : Fr h) : Ex sc D k ((.putstatic 1, z) :: is) ls (.long v :: .ref 36 :: st) h Q = Ex sc D k is ls st (sL h 36 z v) Q := ex_putL (u_k36 f)
theorem u_pI36 {v : Int32} (f : Fr h) : Ex sc D k ((.putfield 1, z) :: is) ls (.int v :: .ref 36 :: st) h Q = Ex sc D k is ls st (sI h 36 z v) Q := ex_putI (u_k36 f)
theorem u_k37 (f : Fr h) : hK h 37 = 10 := kf f (by decide) rfl
theorem u_gI37 (f : Fr h) : Ex sc D k ((.getfield 9, z) :: is) ls (.ref 37 :: st) h Q = Ex sc D k is ls (.int (hI h 37 z) :: st) h Q := ex_getI (u_k37 f)
theorem u_pI37 {v : Int32} (f : Fr h) : Ex sc D k ((.putfield 9, z) :: is) ls (.int v :: .ref 37 :: st) h Q = Ex sc D k is ls st (sI h 37 z v) Q := ex_putI (u_k37 f)
theorem u_pZa37 (f : Fr h) : Ex sc D k ((.ret 9, z) :: is) ls (.int (nI 0) :: .ref 37 :: st) h Q = Ex sc D k is ls st (sI h 37 z (nI 0)) Q := ex_putZ0 (u_k37 f)
theorem u_pZb37 (f : Fr h) : Ex sc D k ((.ret 9, z) :: is) ls (.int (nI 1) :: .ref 37 :: st) h Q = Ex sc D k is ls st (sI h 37 z (nI 1)) Q := ex_putZ1 (u_k37 f)
theorem u_pZc37 {b : Bool} (f : Fr h) : Ex sc D k ((.ret 9, z) :: is) ls (.int (bB b) :: .ref 37 :: st) h Q = Ex sc D k is ls st (sI h 37 z (bB b)) Q := ex_putZB (u_k37 f)
theorem u_k38 (f : Fr h) : hK h 38 = 20 := kf f (by decide) rfl
theorem u_n38 (f : Fr h) : hN h 38 = 30 := nf f (by decide) rfl
theorem u_al38 (f : Fr h) : Ex sc D k ((.arraylength, z) :: is) ls (.ref 38 :: st) h Q = Ex sc D k is ls (.int (nI 30) :: st) h Q := by rw [ex_alenN (by rw [u_k38 f]; decide), u_n38 f]
theorem u_ld38 (f : Fr h) (hj : j < 30) : Ex sc D k ((.iaload, z) :: is) ls (.int (nI j) :: .ref 38 :: st) h Q = Ex sc D k is ls (.int (hI h 38 j) :: st) h Q := ex_ialdN (u_k38 f) (by rw [u_n38 f]; exact hj) (by rw [u_n38 f]; decide)
theorem u_st38 {v : Int32} (f : Fr h) (hj : j < 30) : Ex sc D k ((.iastore, z) :: is) ls (.int v :: .int (nI j) :: .ref 38 :: st) h Q = Ex sc D k is ls st (sI h 38 j v) Q := ex_iastN (u_k38 f) (by rw [u_n38 f]; exact hj) (by rw [u_n38 f]; decide)
theorem u_at38 (f : Fr h) (hj : j < 30) : Ev (D + 1) 61 [.ref 38, .int (nI j)] h Q = Q (some (.int (hI h 38 j))) h := by rw [ev_at (u_k38 f) (by rw [u_n38 f]; decide) (by omega), u_n38 f, if_pos hj]
theorem u_pt38 {v : Int32} (f : Fr h) (hj : j < 30) : Ev (D + 1) 63 [.ref 38, .int (nI j), .int v] h Q = Q none (sI h 38 j v) := by rw [ev_put (u_k38 f) (by rw [u_n38 f]; decide) (by omega), u_n38 f, if_pos hj]
theorem u_k39 (f : Fr h) : hK h 39 = 20 := kf f (by decide) rfl
theorem u_n39 (f : Fr h) : hN h 39 = 30 := nf f (by decide) rfl
theorem u_al39 (f : Fr h) : Ex sc D k ((.arraylength, z) :: is) ls (.ref 39 :: st) h Q = Ex sc D k is ls (.int (nI 30) :: st) h Q := by rw [ex_alenN (by rw [u_k39 f]; decide), u_n39 f]
theorem u_ld39 (f : Fr h) (hj : j < 30) : Ex sc D k ((.iaload, z) :: is) ls (.int (nI j) :: .ref 39 :: st) h Q = Ex sc D k is ls (.int (hI h 39 j) :: st) h Q := ex_ialdN (u_k39 f) (by rw [u_n39 f]; exact hj) (by rw [u_n39 f]; decide)
theorem u_st39 {v : Int32} (f : Fr h) (hj : j < 30) : Ex sc D k ((.iastore, z) :: is) ls (.int v :: .int (nI j) :: .ref 39 :: st) h Q = Ex sc D k is ls st (sI h 39 j v) Q := ex_iastN (u_k39 f) (by rw [u_n39 f]; exact hj) (by rw [u_n39 f]; decide)
theorem u_at39 (f : Fr h) (hj : j < 30) : Ev (D + 1) 61 [.ref 39, .int (nI j)] h Q = Q (some (.int (hI h 39 j))) h := by rw [ev_at (u_k39 f) (by rw [u_n39 f]; decide) (by omega), u_n39 f, if_pos hj]
theorem u_pt39 {v : Int32} (f : Fr h) (hj : j < 30) : Ev (D + 1) 63 [.ref 39, .int (nI j), .int v] h Q = Q none (sI h 39 j v) := by rw [ev_put (u_k39 f) (by rw [u_n39 f]; decide) (by omega), u_n39 f, if_pos hj]
theorem u_k40 (f : Fr h) : hK h 40 = 20 := kf f (by decide) rfl
theorem u_n40 (f : Fr h) : hN h 40 = 5 := nf f (by decide) rfl
theorem u_al40 (f : Fr h) : Ex sc D k ((.arraylength, z) :: is) ls (.ref 40 :: st) h Q = Ex sc D k is ls (.int (nI 5) :: st) h Q := by rw [ex_alenN (by rw [u_k40 f]; decide), u_n40 f]
theorem u_ld40 (f : Fr h) (hj : j < 5) : Ex sc D k ((.iaload, z) :: is) ls (.int (nI j) :: .ref 40 :: st) h Q = Ex sc D k is ls (.int (hI h 40 j) :: st) h Q := ex_ialdN (u_k40 f) (by rw [u_n40 f]; exact hj) (by rw [u_n40 f]; decide)
theorem u_st40 {v : Int32} (f : Fr h) (hj : j < 5) : Ex sc D k ((.iastore, z) :: is) ls (.int v :: .int (nI j) :: .ref 40 :: st) h Q = Ex sc D k is ls st (sI h 40 j v) Q := ex_iastN (u_k40 f) (by rw [u_n40 f]; exact hj) (by rw [u_n40 f]; decide)
theorem u_at40 (f : Fr h) (hj : j < 5) : Ev (D + 1) 61 [.ref 40, .int (nI j)] h Q = Q (some (.int (hI h 40 j))) h := by rw [ev_at (u_k40 f) (by rw [u_n40 f]; decide) (by omega), u_n40 f, if_pos hj]
theorem u_pt40 {v : Int32} (f : Fr h) (hj : j < 5) : Ev (D + 1) 63 [.ref 40, .int (nI j), .int v] h Q = Q none (sI h 40 j v) := by rw [ev_put (u_k40 f) (by rw [u_n40 f]; decide) (by omega), u_n40 f, if_pos hj]
theorem u_k41 (f : Fr h) : hK h 41 = 6 := kf f (by decide) rfl
theorem u_k42 (f : Fr h) : hK h 42 = 20 := kf f (by decide) rfl
theorem u_n42 (f : Fr h) : hN h 42 = 5 := nf f (by decide) rfl
theorem u_al42 (f : Fr h) : Ex sc D k ((.arraylength, z) :: is) ls (.ref 42 :: st) h Q = Ex sc D k is ls (.int (nI 5) :: st) h Q := by rw [ex_alenN (by rw [u_k42 f]; decide), u_n42 f]
theorem u_ld42 (f : Fr h) (hj : j < 5) : Ex sc D k ((.iaload, z) :: is) ls (.int (nI j) :: .ref 42 :: st) h Q = Ex sc D k is ls (.int (hI h 42 j) :: st) h Q := ex_ialdN (u_k42 f) (by rw [u_n42 f]; exact hj) (by rw [u_n42 f]; decide)
theorem u_st42 {v : Int32} (f : Fr h) (hj : j < 5) : Ex sc D k ((.iastore, z) :: is) ls (.int v :: .int (nI j) :: .ref 42 :: st) h Q = Ex sc D k is ls st (sI h 42 j v) Q := ex_iastN (u_k42 f) (by rw [u_n42 f]; exact hj) (by rw [u_n42 f]; decide)
theorem u_at42 (f : Fr h) (hj : j < 5) : Ev (D + 1) 61 [.ref 42, .int (nI j)] h Q = Q (some (.int (hI h 42 j))) h := by rw [ev_at (u_k42 f) (by rw [u_n42 f]; decide) (by omega), u_n42 f, if_pos hj]
theorem u_pt42 {v : Int32} (f : Fr h) (hj : j < 5) : Ev (D + 1) 63 [.ref 42, .int (nI j), .int v] h Q = Q none (sI h 42 j v) := by rw [ev_put (u_k42 f) (by rw [u_n42 f]; decide) (by omega), u_n42 f, if_pos hj]
theorem u_k43 (f : Fr h) : hK h 43 = 20 := kf f (by decide) rfl
theorem u_n43 (f : Fr h) : hN h 43 = 30 := nf f (by decide) rfl
theorem u_al43 (f : Fr h) : Ex sc D k ((.arraylength, z) :: is) ls (.ref 43 :: st) h Q = Ex sc D k is ls (.int (nI 30) :: st) h Q := by rw [ex_alenN (by rw [u_k43 f]; decide), u_n43 f]
theorem u_ld43 (f : Fr h) (hj : j < 30) : Ex sc D k ((.iaload, z) :: is) ls (.int (nI j) :: .ref 43 :: st) h Q = Ex sc D k is ls (.int (hI h 43 j) :: st) h Q := ex_ialdN (u_k43 f) (by rw [u_n43 f]; exact hj) (by rw [u_n43 f]; decide)
theorem u_st43 {v : Int32} (f : Fr h) (hj : j < 30) : Ex sc D k ((.iastore, z) :: is) ls (.int v :: .int (nI j) :: .ref 43 :: st) h Q = Ex sc D k is ls st (sI h 43 j v) Q := ex_iastN (u_k43 f) (by rw [u_n43 f]; exact hj) (by rw [u_n43 f]; decide)
theorem u_at43 (f : Fr h) (hj : j < 30) : Ev (D + 1) 61 [.ref 43, .int (nI j)] h Q = Q (some (.int (hI h 43 j))) h := by rw [ev_at (u_k43 f) (by rw [u_n43 f]; decide) (by omega), u_n43 f, if_pos hj]
theorem u_pt43 {v : Int32} (f : Fr h) (hj : j < 30) : Ev (D + 1) 63 [.ref 43, .int (nI j), .int v] h Q = Q none (sI h 43 j v) := by rw [ev_put (u_k43 f) (by rw [u_n43 f]; decide) (by omega), u_n43 f, if_pos hj]
theorem u_k44 (f : Fr h) : hK h 44 = 20 := kf f (by decide) rfl
theorem u_n44 (f : Fr h) : hN h 44 = 30 := nf f (by decide) rfl
theorem u_al44 (f : Fr h) : Ex sc D k ((.arraylength, z) :: is) ls (.ref 44 :: st) h Q = Ex sc D k is ls (.int (nI 30) :: st) h Q := by rw [ex_alenN (by rw [u_k44 f]; decide), u_n44 f]
theorem u_ld44 (f : Fr h) (hj : j < 30) : Ex sc D k ((.iaload, z) :: is) ls (.int (nI j) :: .ref 44 :: st) h Q = Ex sc D k is ls (.int (hI h 44 j) :: st) h Q := ex_ialdN (u_k44 f) (by rw [u_n44 f]; exact hj) (by rw [u_n44 f]; decide)
theorem u_st44 {v : Int32} (f : Fr h) (hj : j < 30) : Ex sc D k ((.iastore, z) :: is) ls (.int v :: .int (nI j) :: .ref 44 :: st) h Q = Ex sc D k is ls st (sI h 44 j v) Q := ex_iastN (u_k44 f) (by rw [u_n44 f]; exact hj) (by rw [u_n44 f]; decide)
theorem u_at44 (f : Fr h) (hj : j < 30) : Ev (D + 1) 61 [.ref 44, .int (nI j)] h Q = Q (some (.int (hI h 44 j))) h := by rw [ev_at (u_k44 f) (by rw [u_n44 f]; decide) (by omega), u_n44 f, if_pos hj]
theorem u_pt44 {v : Int32} (f : Fr h) (hj : j < 30) : Ev (D + 1) 63 [.ref 44, .int (nI j), .int v] h Q = Q none (sI h 44 j v) := by rw [ev_put (u_k44 f) (by rw [u_n44 f]; decide) (by omega), u_n44 f, if_pos hj]
theorem u_k45 (f : Fr h) : hK h 45 = 6 := kf f (by decide) rfl
theorem u_k46 (f : Fr h) : hK h 46 = 20 := kf f (by decide) rfl
theorem u_n46 (f : Fr h) : hN h 46 = 5 := nf f (by decide) rfl
theorem u_al46 (f : Fr h) : Ex sc D k ((.arraylength, z) :: is) ls (.ref 46 :: st) h Q = Ex sc D k is ls (.int (nI 5) :: st) h Q := by rw [ex_alenN (by rw [u_k46 f]; decide), u_n46 f]
theorem u_ld46 (f : Fr h) (hj : j < 5) : Ex sc D k ((.iaload, z) :: is) ls (.int (nI j) :: .ref 46 :: st) h Q = Ex sc D k is ls (.int (hI h 46 j) :: st) h Q := ex_ialdN (u_k46 f) (by rw [u_n46 f]; exact hj) (by rw [u_n46 f]; decide)
theorem u_st46 {v : Int32} (f : Fr h) (hj : j < 5) : Ex sc D k ((.iastore, z) :: is) ls (.int v :: .int (nI j) :: .ref 46 :: st) h Q = Ex sc D k is ls st (sI h 46 j v) Q := ex_iastN (u_k46 f) (by rw [u_n46 f]; exact hj) (by rw [u_n46 f]; decide)
theorem u_at46 (f : Fr h) (hj : j < 5) : Ev (D + 1) 61 [.ref 46, .int (nI j)] h Q = Q (some (.int (hI h 46 j))) h := by rw [ev_at (u_k46 f) (by rw [u_n46 f]; decide) (by omega), u_n46 f, if_pos hj]
theorem u_pt46 {v : Int32} (f : Fr h) (hj : j < 5) : Ev (D + 1) 63 [.ref 46, .int (nI j), .int v] h Q = Q none (sI h 46 j v) := by rw [ev_put (u_k46 f) (by rw [u_n46 f]; decide) (by omega), u_n46 f, if_pos hj]
theorem u_k47 (f : Fr h) : hK h 47 = 20 := kf f (by decide) rfl
theorem u_n47 (f : Fr h) : hN h 47 = 30 := nf f (by decide) rfl
theorem u_al47 (f : Fr h) : Ex sc D k ((.arraylength, z) :: is) ls (.ref 47 :: st) h Q = Ex sc D k is ls (.int (nI 30) :: st) h Q := by rw [ex_alenN (by rw [u_k47 f]; decide), u_n47 f]
theorem u_ld47 (f : Fr h) (hj : j < 30) : Ex sc D k ((.iaload, z) :: is) ls (.int (nI j) :: .ref 47 :: st) h Q = Ex sc D k is ls (.int (hI h 47 j) :: st) h Q := ex_ialdN (u_k47 f) (by rw [u_n47 f]; exact hj) (by rw [u_n47 f]; decide)
theorem u_st47 {v : Int32} (f : Fr h) (hj : j < 30) : Ex sc D k ((.iastore, z) :: is) ls (.int v :: .int (nI j) :: .ref 47 :: st) h Q = Ex sc D k is ls st (sI h 47 j v) Q := ex_iastN (u_k47 f) (by rw [u_n47 f]; exact hj) (by rw [u_n47 f]; decide)
theorem u_at47 (f : Fr h) (hj : j < 30) : Ev (D + 1) 61 [.ref 47, .int (nI j)] h Q = Q (some (.int (hI h 47 j))) h := by rw [ev_at (u_k47 f) (by rw [u_n47 f]; decide) (by omega), u_n47 f, if_pos hj]
theorem u_pt47 {v : Int32} (f : Fr h) (hj : j < 30) : Ev (D + 1) 63 [.ref 47, .int (nI j), .int v] h Q = Q none (sI h 47 j v) := by rw [ev_put (u_k47 f) (by rw [u_n47 f]; decide) (by omega), u_n47 f, if_pos hj]
theorem u_k48 (f : Fr h) : hK h 48 = 20 := kf f (by decide) rfl
theorem u_n48 (f : Fr h) : hN h 48 = 30 := nf f (by decide) rfl
theorem u_al48 (f : Fr h) : Ex sc D k ((.arraylength, z) :: is) ls (.ref 48 :: st) h Q = Ex sc D k is ls (.int (nI 30) :: st) h Q := by rw [ex_alenN (by rw [u_k48 f]; decide), u_n48 f]
theorem u_ld48 (f : Fr h) (hj : j < 30) : Ex sc D k ((.iaload, z) :: is) ls (.int (nI j) :: .ref 48 :: st) h Q = Ex sc D k is ls (.int (hI h 48 j) :: st) h Q := ex_ialdN (u_k48 f) (by rw [u_n48 f]; exact hj) (by rw [u_n48 f]; decide)
theorem u_st48 {v : Int32} (f : Fr h) (hj : j < 30) : Ex sc D k ((.iastore, z) :: is) ls (.int v :: .int (nI j) :: .ref 48 :: st) h Q = Ex sc D k is ls st (sI h 48 j v) Q := ex_iastN (u_k48 f) (by rw [u_n48 f]; exact hj) (by rw [u_n48 f]; decide)
theorem u_at48 (f : Fr h) (hj : j < 30) : Ev (D + 1) 61 [.ref 48, .int (nI j)] h Q = Q (some (.int (hI h 48 j))) h := by rw [ev_at (u_k48 f) (by rw [u_n48 f]; decide) (by omega), u_n48 f, if_pos hj]
theorem u_pt48 {v : Int32} (f : Fr h) (hj : j < 30) : Ev (D + 1) 63 [.ref 48, .int (nI j), .int v] h Q = Q none (sI h 48 j v) := by rw [ev_put (u_k48 f) (by rw [u_n48 f]; decide) (by omega), u_n48 f, if_pos hj]
theorem u_k49 (f : Fr h) : hK h 49 = 20 := kf f (by decide) rfl
theorem u_n49 (f : Fr h) : hN h 49 = 30 := nf f (by decide) rfl
theorem u_al49 (f : Fr h) : Ex sc D k ((.arraylength, z) :: is) ls (.ref 49 :: st) h Q = Ex sc D k is ls (.int (nI 30) :: st) h Q := by rw [ex_alenN (by rw [u_k49 f]; decide), u_n49 f]
theorem u_ld49 (f : Fr h) (hj : j < 30) : Ex sc D k ((.iaload, z) :: is) ls (.int (nI j) :: .ref 49 :: st) h Q = Ex sc D k is ls (.int (hI h 49 j) :: st) h Q := ex_ialdN (u_k49 f) (by rw [u_n49 f]; exact hj) (by rw [u_n49 f]; decide)
theorem u_st49 {v : Int32} (f : Fr h) (hj : j < 30) : Ex sc D k ((.iastore, z) :: is) ls (.int v :: .int (nI j) :: .ref 49 :: st) h Q = Ex sc D k is ls st (sI h 49 j v) Q := ex_iastN (u_k49 f) (by rw [u_n49 f]; exact hj) (by rw [u_n49 f]; decide)
theorem u_at49 (f : Fr h) (hj : j < 30) : Ev (D + 1) 61 [.ref 49, .int (nI j)] h Q = Q (some (.int (hI h 49 j))) h := by rw [ev_at (u_k49 f) (by rw [u_n49 f]; decide) (by omega), u_n49 f, if_pos hj]
theorem u_pt49 {v : Int32} (f : Fr h) (hj : j < 30) : Ev (D + 1) 63 [.ref 49, .int (nI j), .int v] h Q = Q none (sI h 49 j v) := by rw [ev_put (u_k49 f) (by rw [u_n49 f]; decide) (by omega), u_n49 f, if_pos hj]
theorem u_k50 (f : Fr h) : hK h 50 = 20 := kf f (by decide) rfl
theorem u_n50 (f : Fr h) : hN h 50 = 30 := nf f (by decide) rfl
theorem u_al50 (f : Fr h) : Ex sc D k ((.arraylength, z) :: is) ls (.ref 50 :: st) h Q = Ex sc D k is ls (.int (nI 30) :: st) h Q := by rw [ex_alenN (by rw [u_k50 f]; decide), u_n50 f]
theorem u_ld50 (f : Fr h) (hj : j < 30) : Ex sc D k ((.iaload, z) :: is) ls (.int (nI j) :: .ref 50 :: st) h Q = Ex sc D k is ls (.int (hI h 50 j) :: st) h Q := ex_ialdN (u_k50 f) (by rw [u_n50 f]; exact hj) (by rw [u_n50 f]; decide)
theorem u_st50 {v : Int32} (f : Fr h) (hj : j < 30) : Ex sc D k ((.iastore, z) :: is) ls (.int v :: .int (nI j) :: .ref 50 :: st) h Q = Ex sc D k is ls st (sI h 50 j v) Q := ex_iastN (u_k50 f) (by rw [u_n50 f]; exact hj) (by rw [u_n50 f]; decide)
theorem u_at50 (f : Fr h) (hj : j < 30) : Ev (D + 1) 61 [.ref 50, .int (nI j)] h Q = Q (some (.int (hI h 50 j))) h := by rw [ev_at (u_k50 f) (by rw [u_n50 f]; decide) (by omega), u_n50 f, if_pos hj]
theorem u_pt50 {v : Int32} (f : Fr h) (hj : j < 30) : Ev (D + 1) 63 [.ref 50, .int (nI j), .int v] h Q = Q none (sI h 50 j v) := by rw [ev_put (u_k50 f) (by rw [u_n50 f]; decide) (by omega), u_n50 f, if_pos hj]
theorem u_k51 (f : Fr h) : hK h 51 = 20 := kf f (by decide) rfl
theorem u_n51 (f : Fr h) : hN h 51 = 5 := nf f (by decide) rfl
theorem u_al51 (f : Fr h) : Ex sc D k ((.arraylength, z) :: is) ls (.ref 51 :: st) h Q = Ex sc D k is ls (.int (nI 5) :: st) h Q := by rw [ex_alenN (by rw [u_k51 f]; decide), u_n51 f]
theorem u_ld51 (f : Fr h) (hj : j < 5) : Ex sc D k ((.iaload, z) :: is) ls (.int (nI j) :: .ref 51 :: st) h Q = Ex sc D k is ls (.int (hI h 51 j) :: st) h Q := ex_ialdN (u_k51 f) (by rw [u_n51 f]; exact hj) (by rw [u_n51 f]; decide)
theorem u_st51 {v : Int32} (f : Fr h) (hj : j < 5) : Ex sc D k ((.iastore, z) :: is) ls (.int v :: .int (nI j) :: .ref 51 :: st) h Q = Ex sc D k is ls st (sI h 51 j v) Q := ex_iastN (u_k51 f) (by rw [u_n51 f]; exact hj) (by rw [u_n51 f]; decide)
theorem u_at51 (f : Fr h) (hj : j < 5) : Ev (D + 1) 61 [.ref 51, .int (nI j)] h Q = Q (some (.int (hI h 51 j))) h := by rw [ev_at (u_k51 f) (by rw [u_n51 f]; decide) (by omega), u_n51 f, if_pos hj]
theorem u_pt51 {v : Int32} (f : Fr h) (hj : j < 5) : Ev (D + 1) 63 [.ref 51, .int (nI j), .int v] h Q = Q none (sI h 51 j v) := by rw [ev_put (u_k51 f) (by rw [u_n51 f]; decide) (by omega), u_n51 f, if_pos hj]
theorem u_k52 (f : Fr h) : hK h 52 = 20 := kf f (by decide) rfl
theorem u_n52 (f : Fr h) : hN h 52 = 5 := nf f (by decide) rfl
theorem u_al52 (f : Fr h) : Ex sc D k ((.arraylength, z) :: is) ls (.ref 52 :: st) h Q = Ex sc D k is ls (.int (nI 5) :: st) h Q := by rw [ex_alenN (by rw [u_k52 f]; decide), u_n52 f]
theorem u_ld52 (f : Fr h) (hj : j < 5) : Ex sc D k ((.iaload, z) :: is) ls (.int (nI j) :: .ref 52 :: st) h Q = Ex sc D k is ls (.int (hI h 52 j) :: st) h Q := ex_ialdN (u_k52 f) (by rw [u_n52 f]; exact hj) (by rw [u_n52 f]; decide)
theorem u_st52 {v : Int32} (f : Fr h) (hj : j < 5) : Ex sc D k ((.iastore, z) :: is) ls (.int v :: .int (nI j) :: .ref 52 :: st) h Q = Ex sc D k is ls st (sI h 52 j v) Q := ex_iastN (u_k52 f) (by rw [u_n52 f]; exact hj) (by rw [u_n52 f]; decide)
theorem u_at52 (f : Fr h) (hj : j < 5) : Ev (D + 1) 61 [.ref 52, .int (nI j)] h Q = Q (some (.int (hI h 52 j))) h := by rw [ev_at (u_k52 f) (by rw [u_n52 f]; decide) (by omega), u_n52 f, if_pos hj]
theorem u_pt52 {v : Int32} (f : Fr h) (hj : j < 5) : Ev (D + 1) 63 [.ref 52, .int (nI j), .int v] h Q = Q none (sI h 52 j v) := by rw [ev_put (u_k52 f) (by rw [u_n52 f]; decide) (by omega), u_n52 f, if_pos hj]
theorem u_k53 (f : Fr h) : hK h 53 = 23 := kf f (by decide) rfl
theorem u_n53 (f : Fr h) : hN h 53 = 7776 := nf f (by decide) rfl
theorem u_al53 (f : Fr h) : Ex sc D k ((.arraylength, z) :: is) ls (.ref 53 :: st) h Q = Ex sc D k is ls (.int (nI 7776) :: st) h Q := by rw [ex_alenN (by rw [u_k53 f]; decide), u_n53 f]
theorem u_ld53 (f : Fr h) (hj : j < 7776) : Ex sc D k ((.laload, z) :: is) ls (.int (nI j) :: .ref 53 :: st) h Q = Ex sc D k is ls (.long (hL h 53 j) :: st) h Q := ex_laldN (u_k53 f) (by rw [u_n53 f]; exact hj) (by rw [u_n53 f]; decide)
theorem u_st53 {v : Int64} (f : Fr h) (hj : j < 7776) : Ex sc D k ((.lastore, z) :: is) ls (.long v :: .int (nI j) :: .ref 53 :: st) h Q = Ex sc D k is ls st (sL h 53 j v) Q := ex_lastN (u_k53 f) (by rw [u_n53 f]; exact hj) (by rw [u_n53 f]; decide)
theorem u_at53 (f : Fr h) (hj : j < 7776) : Ev (D + 1) 62 [.ref 53, .int (nI j)] h Q = Q (some (.long (hL h 53 j))) h := by rw [ev_atL (u_k53 f) (by rw [u_n53 f]; decide) (by omega), u_n53 f, if_pos hj]
theorem u_pt53 {v : Int64} (f : Fr h) (hj : j < 7776) : Ev (D + 1) 64 [.ref 53, .int (nI j), .long v] h Q = Q none (sL h 53 j v) := by rw [ev_putL (u_k53 f) (by rw [u_n53 f]; decide) (by omega), u_n53 f, if_pos hj]
theorem u_rs53 {v : Int64} (f : Fr h) (hj : j < 7776) : Ev (D + 2) 65 [.ref 53, .int (nI j), .long v] h Q = Q none (sL h 53 j (hL h 53 j + v)) := ev_raise (u_k53 f) (by rw [u_n53 f]; decide) (by rw [u_n53 f]; exact hj)
theorem u_k54 (f : Fr h) : hK h 54 = 23 := kf f (by decide) rfl
theorem u_n54 (f : Fr h) : hN h 54 = 4 := nf f (by decide) rfl
theorem u_al54 (f : Fr h) : Ex sc D k ((.arraylength, z) :: is) ls (.ref 54 :: st) h Q = Ex sc D k is ls (.int (nI 4) :: st) h Q := by rw [ex_alenN (by rw [u_k54 f]; decide), u_n54 f]
theorem u_ld54 (f : Fr h) (hj : j < 4) : Ex sc D k ((.laload, z) :: is) ls (.int (nI j) :: .ref 54 :: st) h Q = Ex sc D k is ls (.long (hL h 54 j) :: st) h Q := ex_laldN (u_k54 f) (by rw [u_n54 f]; exact hj) (by rw [u_n54 f]; decide)
theorem u_st54 {v : Int64} (f : Fr h) (hj : j < 4) : Ex sc D k ((.lastore, z) :: is) ls (.long v :: .int (nI j) :: .ref 54 :: st) h Q = Ex sc D k is ls st (sL h 54 j v) Q := ex_lastN (u_k54 f) (by rw [u_n54 f]; exact hj) (by rw [u_n54 f]; decide)
theorem u_at54 (f : Fr h) (hj : j < 4) : Ev (D + 1) 62 [.ref 54, .int (nI j)] h Q = Q (some (.long (hL h 54 j))) h := by rw [ev_atL (u_k54 f) (by rw [u_n54 f]; decide) (by omega), u_n54 f, if_pos hj]
theorem u_pt54 {v : Int64} (f : Fr h) (hj : j < 4) : Ev (D + 1) 64 [.ref 54, .int (nI j), .long v] h Q = Q none (sL h 54 j v) := by rw [ev_putL (u_k54 f) (by rw [u_n54 f]; decide) (by omega), u_n54 f, if_pos hj]
theorem u_rs54 {v : Int64} (f : Fr h) (hj : j < 4) : Ev (D + 2) 65 [.ref 54, .int (nI j), .long v] h Q = Q none (sL h 54 j (hL h 54 j + v)) := ev_raise (u_k54 f) (by rw [u_n54 f]; decide) (by rw [u_n54 f]; exact hj)
theorem u_k55 (f : Fr h) : hK h 55 = 6 := kf f (by decide) rfl
theorem u_k56 (f : Fr h) : hK h 56 = 20 := kf f (by decide) rfl
theorem u_n56 (f : Fr h) : hN h 56 = 5 := nf f (by decide) rfl
theorem u_al56 (f : Fr h) : Ex sc D k ((.arraylength, z) :: is) ls (.ref 56 :: st) h Q = Ex sc D k is ls (.int (nI 5) :: st) h Q := by rw [ex_alenN (by rw [u_k56 f]; decide), u_n56 f]
theorem u_ld56 (f : Fr h) (hj : j < 5) : Ex sc D k ((.iaload, z) :: is) ls (.int (nI j) :: .ref 56 :: st) h Q = Ex sc D k is ls (.int (hI h 56 j) :: st) h Q := ex_ialdN (u_k56 f) (by rw [u_n56 f]; exact hj) (by rw [u_n56 f]; decide)
theorem u_st56 {v : Int32} (f : Fr h) (hj : j < 5) : Ex sc D k ((.iastore, z) :: is) ls (.int v :: .int (nI j) :: .ref 56 :: st) h Q = Ex sc D k is ls st (sI h 56 j v) Q := ex_iastN (u_k56 f) (by rw [u_n56 f]; exact hj) (by rw [u_n56 f]; decide)
theorem u_at56 (f : Fr h) (hj : j < 5) : Ev (D + 1) 61 [.ref 56, .int (nI j)] h Q = Q (some (.int (hI h 56 j))) h := by rw [ev_at (u_k56 f) (by rw [u_n56 f]; decide) (by omega), u_n56 f, if_pos hj]
theorem u_pt56 {v : Int32} (f : Fr h) (hj : j < 5) : Ev (D + 1) 63 [.ref 56, .int (nI j), .int v] h Q = Q none (sI h 56 j v) := by rw [ev_put (u_k56 f) (by rw [u_n56 f]; decide) (by omega), u_n56 f, if_pos hj]
theorem u_k57 (f : Fr h) : hK h 57 = 20 := kf f (by decide) rfl
theorem u_n57 (f : Fr h) : hN h 57 = 30 := nf f (by decide) rfl
theorem u_al57 (f : Fr h) : Ex sc D k ((.arraylength, z) :: is) ls (.ref 57 :: st) h Q = Ex sc D k is ls (.int (nI 30) :: st) h Q := by rw [ex_alenN (by rw [u_k57 f]; decide), u_n57 f]
theorem u_ld57 (f : Fr h) (hj : j < 30) : Ex sc D k ((.iaload, z) :: is) ls (.int (nI j) :: .ref 57 :: st) h Q = Ex sc D k is ls (.int (hI h 57 j) :: st) h Q := ex_ialdN (u_k57 f) (by rw [u_n57 f]; exact hj) (by rw [u_n57 f]; decide)
theorem u_st57 {v : Int32} (f : Fr h) (hj : j < 30) : Ex sc D k ((.iastore, z) :: is) ls (.int v :: .int (nI j) :: .ref 57 :: st) h Q = Ex sc D k is ls st (sI h 57 j v) Q := ex_iastN (u_k57 f) (by rw [u_n57 f]; exact hj) (by rw [u_n57 f]; decide)
theorem u_at57 (f : Fr h) (hj : j < 30) : Ev (D + 1) 61 [.ref 57, .int (nI j)] h Q = Q (some (.int (hI h 57 j))) h := by rw [ev_at (u_k57 f) (by rw [u_n57 f]; decide) (by omega), u_n57 f, if_pos hj]
theorem u_pt57 {v : Int32} (f : Fr h) (hj : j < 30) : Ev (D + 1) 63 [.ref 57, .int (nI j), .int v] h Q = Q none (sI h 57 j v) := by rw [ev_put (u_k57 f) (by rw [u_n57 f]; decide) (by omega), u_n57 f, if_pos hj]
theorem u_k58 (f : Fr h) : hK h 58 = 20 := kf f (by decide) rfl
theorem u_n58 (f : Fr h) : hN h 58 = 30 := nf f (by decide) rfl
theorem u_al58 (f : Fr h) : Ex sc D k ((.arraylength, z) :: is) ls (.ref 58 :: st) h Q = Ex sc D k is ls (.int (nI 30) :: st) h Q := by rw [ex_alenN (by rw [u_k58 f]; decide), u_n58 f]
theorem u_ld58 (f : Fr h) (hj : j < 30) : Ex sc D k ((.iaload, z) :: is) ls (.int (nI j) :: .ref 58 :: st) h Q = Ex sc D k is ls (.int (hI h 58 j) :: st) h Q := ex_ialdN (u_k58 f) (by rw [u_n58 f]; exact hj) (by rw [u_n58 f]; decide)
theorem u_st58 {v : Int32} (f : Fr h) (hj : j < 30) : Ex sc D k ((.iastore, z) :: is) ls (.int v :: .int (nI j) :: .ref 58 :: st) h Q = Ex sc D k is ls st (sI h 58 j v) Q := ex_iastN (u_k58 f) (by rw [u_n58 f]; exact hj) (by rw [u_n58 f]; decide)
theorem u_at58 (f : Fr h) (hj : j < 30) : Ev (D + 1) 61 [.ref 58, .int (nI j)] h Q = Q (some (.int (hI h 58 j))) h := by rw [ev_at (u_k58 f) (by rw [u_n58 f]; decide) (by omega), u_n58 f, if_pos hj]
theorem u_pt58 {v : Int32} (f : Fr h) (hj : j < 30) : Ev (D + 1) 63 [.ref 58, .int (nI j), .int v] h Q = Q none (sI h 58 j v) := by rw [ev_put (u_k58 f) (by rw [u_n58 f]; decide) (by omega), u_n58 f, if_pos hj]
theorem u_k59 (f : Fr h) : hK h 59 = 20 := kf f (by decide) rfl
theorem u_n59 (f : Fr h) : hN h 59 = 30 := nf f (by decide) rfl
theorem u_al59 (f : Fr h) : Ex sc D k ((.arraylength, z) :: is) ls (.ref 59 :: st) h Q = Ex sc D k is ls (.int (nI 30) :: st) h Q := by rw [ex_alenN (by rw [u_k59 f]; decide), u_n59 f]
theorem u_ld59 (f : Fr h) (hj : j < 30) : Ex sc D k ((.iaload, z) :: is) ls (.int (nI j) :: .ref 59 :: st) h Q = Ex sc D k is ls (.int (hI h 59 j) :: st) h Q := ex_ialdN (u_k59 f) (by rw [u_n59 f]; exact hj) (by rw [u_n59 f]; decide)
theorem u_st59 {v : Int32} (f : Fr h) (hj : j < 30) : Ex sc D k ((.iastore, z) :: is) ls (.int v :: .int (nI j) :: .ref 59 :: st) h Q = Ex sc D k is ls st (sI h 59 j v) Q := ex_iastN (u_k59 f) (by rw [u_n59 f]; exact hj) (by rw [u_n59 f]; decide)
theorem u_at59 (f : Fr h) (hj : j < 30) : Ev (D + 1) 61 [.ref 59, .int (nI j)] h Q = Q (some (.int (hI h 59 j))) h := by rw [ev_at (u_k59 f) (by rw [u_n59 f]; decide) (by omega), u_n59 f, if_pos hj]
theorem u_pt59 {v : Int32} (f : Fr h) (hj : j < 30) : Ev (D + 1) 63 [.ref 59, .int (nI j), .int v] h Q = Q none (sI h 59 j v) := by rw [ev_put (u_k59 f) (by rw [u_n59 f]; decide) (by omega), u_n59 f, if_pos hj]
theorem u_k60 (f : Fr h) : hK h 60 = 20 := kf f (by decide) rfl
theorem u_n60 (f : Fr h) : hN h 60 = 30 := nf f (by decide) rfl
theorem u_al60 (f : Fr h) : Ex sc D k ((.arraylength, z) :: is) ls (.ref 60 :: st) h Q = Ex sc D k is ls (.int (nI 30) :: st) h Q := by rw [ex_alenN (by rw [u_k60 f]; decide), u_n60 f]
theorem u_ld60 (f : Fr h) (hj : j < 30) : Ex sc D k ((.iaload, z) :: is) ls (.int (nI j) :: .ref 60 :: st) h Q = Ex sc D k is ls (.int (hI h 60 j) :: st) h Q := ex_ialdN (u_k60 f) (by rw [u_n60 f]; exact hj) (by rw [u_n60 f]; decide)
theorem u_st60 {v : Int32} (f : Fr h) (hj : j < 30) : Ex sc D k ((.iastore, z) :: is) ls (.int v :: .int (nI j) :: .ref 60 :: st) h Q = Ex sc D k is ls st (sI h 60 j v) Q := ex_iastN (u_k60 f) (by rw [u_n60 f]; exact hj) (by rw [u_n60 f]; decide)
theorem u_at60 (f : Fr h) (hj : j < 30) : Ev (D + 1) 61 [.ref 60, .int (nI j)] h Q = Q (some (.int (hI h 60 j))) h := by rw [ev_at (u_k60 f) (by rw [u_n60 f]; decide) (by omega), u_n60 f, if_pos hj]
theorem u_pt60 {v : Int32} (f : Fr h) (hj : j < 30) : Ev (D + 1) 63 [.ref 60, .int (nI j), .int v] h Q = Q none (sI h 60 j v) := by rw [ev_put (u_k60 f) (by rw [u_n60 f]; decide) (by omega), u_n60 f, if_pos hj]
theorem u_k61 (f : Fr h) : hK h 61 = 20 := kf f (by decide) rfl
theorem u_n61 (f : Fr h) : hN h 61 = 5 := nf f (by decide) rfl
theorem u_al61 (f : Fr h) : Ex sc D k ((.arraylength, z) :: is) ls (.ref 61 :: st) h Q = Ex sc D k is ls (.int (nI 5) :: st) h Q := by rw [ex_alenN (by rw [u_k61 f]; decide), u_n61 f]
theorem u_ld61 (f : Fr h) (hj : j < 5) : Ex sc D k ((.iaload, z) :: is) ls (.int (nI j) :: .ref 61 :: st) h Q = Ex sc D k is ls (.int (hI h 61 j) :: st) h Q := ex_ialdN (u_k61 f) (by rw [u_n61 f]; exact hj) (by rw [u_n61 f]; decide)
theorem u_st61 {v : Int32} (f : Fr h) (hj : j < 5) : Ex sc D k ((.iastore, z) :: is) ls (.int v :: .int (nI j) :: .ref 61 :: st) h Q = Ex sc D k is ls st (sI h 61 j v) Q := ex_iastN (u_k61 f) (by rw [u_n61 f]; exact hj) (by rw [u_n61 f]; decide)
theorem u_at61 (f : Fr h) (hj : j < 5) : Ev (D + 1) 61 [.ref 61, .int (nI j)] h Q = Q (some (.int (hI h 61 j))) h := by rw [ev_at (u_k61 f) (by rw [u_n61 f]; decide) (by omega), u_n61 f, if_pos hj]
theorem u_pt61 {v : Int32} (f : Fr h) (hj : j < 5) : Ev (D + 1) 63 [.ref 61, .int (nI j), .int v] h Q = Q none (sI h 61 j v) := by rw [ev_put (u_k61 f) (by rw [u_n61 f]; decide) (by omega), u_n61 f, if_pos hj]
theorem u_k62 (f : Fr h) : hK h 62 = 20 := kf f (by decide) rfl
theorem u_n62 (f : Fr h) : hN h 62 = 5 := nf f (by decide) rfl
theorem u_al62 (f : Fr h) : Ex sc D k ((.arraylength, z) :: is) ls (.ref 62 :: st) h Q = Ex sc D k is ls (.int (nI 5) :: st) h Q := by rw [ex_alenN (by rw [u_k62 f]; decide), u_n62 f]
theorem u_ld62 (f : Fr h) (hj : j < 5) : Ex sc D k ((.iaload, z) :: is) ls (.int (nI j) :: .ref 62 :: st) h Q = Ex sc D k is ls (.int (hI h 62 j) :: st) h Q := ex_ialdN (u_k62 f) (by rw [u_n62 f]; exact hj) (by rw [u_n62 f]; decide)
theorem u_st62 {v : Int32} (f : Fr h) (hj : j < 5) : Ex sc D k ((.iastore, z) :: is) ls (.int v :: .int (nI j) :: .ref 62 :: st) h Q = Ex sc D k is ls st (sI h 62 j v) Q := ex_iastN (u_k62 f) (by rw [u_n62 f]; exact hj) (by rw [u_n62 f]; decide)
theorem u_at62 (f : Fr h) (hj : j < 5) : Ev (D + 1) 61 [.ref 62, .int (nI j)] h Q = Q (some (.int (hI h 62 j))) h := by rw [ev_at (u_k62 f) (by rw [u_n62 f]; decide) (by omega), u_n62 f, if_pos hj]
theorem u_pt62 {v : Int32} (f : Fr h) (hj : j < 5) : Ev (D + 1) 63 [.ref 62, .int (nI j), .int v] h Q = Q none (sI h 62 j v) := by rw [ev_put (u_k62 f) (by rw [u_n62 f]; decide) (by omega), u_n62 f, if_pos hj]
theorem u_k63 (f : Fr h) : hK h 63 = 20 := kf f (by decide) rfl
theorem u_n63 (f : Fr h) : hN h 63 = 5 := nf f (by decide) rfl
theorem u_al63 (f : Fr h) : Ex sc D k ((.arraylength, z) :: is) ls (.ref 63 :: st) h Q = Ex sc D k is ls (.int (nI 5) :: st) h Q := by rw [ex_alenN (by rw [u_k63 f]; decide), u_n63 f]
theorem u_ld63 (f : Fr h) (hj : j < 5) : Ex sc D k ((.iaload, z) :: is) ls (.int (nI j) :: .ref 63 :: st) h Q = Ex sc D k is ls (.int (hI h 63 j) :: st) h Q := ex_ialdN (u_k63 f) (by rw [u_n63 f]; exact hj) (by rw [u_n63 f]; decide)
theorem u_st63 {v : Int32} (f : Fr h) (hj : j < 5) : Ex sc D k ((.iastore, z) :: is) ls (.int v :: .int (nI j) :: .ref 63 :: st) h Q = Ex sc D k is ls st (sI h 63 j v) Q := ex_iastN (u_k63 f) (by rw [u_n63 f]; exact hj) (by rw [u_n63 f]; decide)
theorem u_at63 (f : Fr h) (hj : j < 5) : Ev (D + 1) 61 [.ref 63, .int (nI j)] h Q = Q (some (.int (hI h 63 j))) h := by rw [ev_at (u_k63 f) (by rw [u_n63 f]; decide) (by omega), u_n63 f, if_pos hj]
theorem u_pt63 {v : Int32} (f : Fr h) (hj : j < 5) : Ev (D + 1) 63 [.ref 63, .int (nI j), .int v] h Q = Q none (sI h 63 j v) := by rw [ev_put (u_k63 f) (by rw [u_n63 f]; decide) (by omega), u_n63 f, if_pos hj]
theorem u_k64 (f : Fr h) : hK h 64 = 23 := kf f (by decide) rfl
theorem u_n64 (f : Fr h) : hN h 64 = 30 := nf f (by decide) rfl
theorem u_al64 (f : Fr h) : Ex sc D k ((.arraylength, z) :: is) ls (.ref 64 :: st) h Q = Ex sc D k is ls (.int (nI 30) :: st) h Q := by rw [ex_alenN (by rw [u_k64 f]; decide), u_n64 f]
theorem u_ld64 (f : Fr h) (hj : j < 30) : Ex sc D k ((.laload, z) :: is) ls (.int (nI j) :: .ref 64 :: st) h Q = Ex sc D k is ls (.long (hL h 64 j) :: st) h Q := ex_laldN (u_k64 f) (by rw [u_n64 f]; exact hj) (by rw [u_n64 f]; decide)
theorem u_st64 {v : Int64} (f : Fr h) (hj : j < 30) : Ex sc D k ((.lastore, z) :: is) ls (.long v :: .int (nI j) :: .ref 64 :: st) h Q = Ex sc D k is ls st (sL h 64 j v) Q := ex_lastN (u_k64 f) (by rw [u_n64 f]; exact hj) (by rw [u_n64 f]; decide)
theorem u_at64 (f : Fr h) (hj : j < 30) : Ev (D + 1) 62 [.ref 64, .int (nI j)] h Q = Q (some (.long (hL h 64 j))) h := by rw [ev_atL (u_k64 f) (by rw [u_n64 f]; decide) (by omega), u_n64 f, if_pos hj]
theorem u_pt64 {v : Int64} (f : Fr h) (hj : j < 30) : Ev (D + 1) 64 [.ref 64, .int (nI j), .long v] h Q = Q none (sL h 64 j v) := by rw [ev_putL (u_k64 f) (by rw [u_n64 f]; decide) (by omega), u_n64 f, if_pos hj]
theorem u_rs64 {v : Int64} (f : Fr h) (hj : j < 30) : Ev (D + 2) 65 [.ref 64, .int (nI j), .long v] h Q = Q none (sL h 64 j (hL h 64 j + v)) := ev_raise (u_k64 f) (by rw [u_n64 f]; decide) (by rw [u_n64 f]; exact hj)
theorem u_k65 (f : Fr h) : hK h 65 = 23 := kf f (by decide) rfl
theorem u_n65 (f : Fr h) : hN h 65 = 30 := nf f (by decide) rfl
theorem u_al65 (f : Fr h) : Ex sc D k ((.arraylength, z) :: is) ls (.ref 65 :: st) h Q = Ex sc D k is ls (.int (nI 30) :: st) h Q := by rw [ex_alenN (by rw [u_k65 f]; decide), u_n65 f]
theorem u_ld65 (f : Fr h) (hj : j < 30) : Ex sc D k ((.laload, z) :: is) ls (.int (nI j) :: .ref 65 :: st) h Q = Ex sc D k is ls (.long (hL h 65 j) :: st) h Q := ex_laldN (u_k65 f) (by rw [u_n65 f]; exact hj) (by rw [u_n65 f]; decide)
theorem u_st65 {v : Int64} (f : Fr h) (hj : j < 30) : Ex sc D k ((.lastore, z) :: is) ls (.long v :: .int (nI j) :: .ref 65 :: st) h Q = Ex sc D k is ls st (sL h 65 j v) Q := ex_lastN (u_k65 f) (by rw [u_n65 f]; exact hj) (by rw [u_n65 f]; decide)
theorem u_at65 (f : Fr h) (hj : j < 30) : Ev (D + 1) 62 [.ref 65, .int (nI j)] h Q = Q (some (.long (hL h 65 j))) h := by rw [ev_atL (u_k65 f) (by rw [u_n65 f]; decide) (by omega), u_n65 f, if_pos hj]
theorem u_pt65 {v : Int64} (f : Fr h) (hj : j < 30) : Ev (D + 1) 64 [.ref 65, .int (nI j), .long v] h Q = Q none (sL h 65 j v) := by rw [ev_putL (u_k65 f) (by rw [u_n65 f]; decide) (by omega), u_n65 f, if_pos hj]
theorem u_rs65 {v : Int64} (f : Fr h) (hj : j < 30) : Ev (D + 2) 65 [.ref 65, .int (nI j), .long v] h Q = Q none (sL h 65 j (hL h 65 j + v)) := ev_raise (u_k65 f) (by rw [u_n65 f]; decide) (by rw [u_n65 f]; exact hj)
theorem u_k66 (f : Fr h) : hK h 66 = 9 := kf f (by decide) rfl
theorem u_gI66 (f : Fr h) : Ex sc D k ((.getfield 8, z) :: is) ls (.ref 66 :: st) h Q = Ex sc D k is ls (.int (hI h 66 z) :: st) h Q := ex_getI (u_k66 f)
theorem u_pI66 {v : Int32} (f : Fr h) : Ex sc D k ((.putfield 8, z) :: is) ls (.int v :: .ref 66 :: st) h Q = Ex sc D k is ls st (sI h 66 z v) Q := ex_putI (u_k66 f)
theorem u_k67 (f : Fr h) : hK h 67 = 20 := kf f (by decide) rfl
theorem u_n67 (f : Fr h) : hN h 67 = 120 := nf f (by decide) rfl
theorem u_al67 (f : Fr h) : Ex sc D k ((.arraylength, z) :: is) ls (.ref 67 :: st) h Q = Ex sc D k is ls (.int (nI 120) :: st) h Q := by rw [ex_alenN (by rw [u_k67 f]; decide), u_n67 f]
theorem u_ld67 (f : Fr h) (hj : j < 120) : Ex sc D k ((.iaload, z) :: is) ls (.int (nI j) :: .ref 67 :: st) h Q = Ex sc D k is ls (.int (hI h 67 j) :: st) h Q := ex_ialdN (u_k67 f) (by rw [u_n67 f]; exact hj) (by rw [u_n67 f]; decide)
theorem u_st67 {v : Int32} (f : Fr h) (hj : j < 120) : Ex sc D k ((.iastore, z) :: is) ls (.int v :: .int (nI j) :: .ref 67 :: st) h Q = Ex sc D k is ls st (sI h 67 j v) Q := ex_iastN (u_k67 f) (by rw [u_n67 f]; exact hj) (by rw [u_n67 f]; decide)
theorem u_at67 (f : Fr h) (hj : j < 120) : Ev (D + 1) 61 [.ref 67, .int (nI j)] h Q = Q (some (.int (hI h 67 j))) h := by rw [ev_at (u_k67 f) (by rw [u_n67 f]; decide) (by omega), u_n67 f, if_pos hj]
theorem u_pt67 {v : Int32} (f : Fr h) (hj : j < 120) : Ev (D + 1) 63 [.ref 67, .int (nI j), .int v] h Q = Q none (sI h 67 j v) := by rw [ev_put (u_k67 f) (by rw [u_n67 f]; decide) (by omega), u_n67 f, if_pos hj]
theorem u_k68 (f : Fr h) : hK h 68 = 9 := kf f (by decide) rfl
theorem u_gI68 (f : Fr h) : Ex sc D k ((.getfield 8, z) :: is) ls (.ref 68 :: st) h Q = Ex sc D k is ls (.int (hI h 68 z) :: st) h Q := ex_getI (u_k68 f)
theorem u_pI68 {v : Int32} (f : Fr h) : Ex sc D k ((.putfield 8, z) :: is) ls (.int v :: .ref 68 :: st) h Q = Ex sc D k is ls st (sI h 68 z v) Q := ex_putI (u_k68 f)
theorem u_k69 (f : Fr h) : hK h 69 = 20 := kf f (by decide) rfl
theorem u_n69 (f : Fr h) : hN h 69 = 120 := nf f (by decide) rfl
theorem u_al69 (f : Fr h) : Ex sc D k ((.arraylength, z) :: is) ls (.ref 69 :: st) h Q = Ex sc D k is ls (.int (nI 120) :: st) h Q := by rw [ex_alenN (by rw [u_k69 f]; decide), u_n69 f]
theorem u_ld69 (f : Fr h) (hj : j < 120) : Ex sc D k ((.iaload, z) :: is) ls (.int (nI j) :: .ref 69 :: st) h Q = Ex sc D k is ls (.int (hI h 69 j) :: st) h Q := ex_ialdN (u_k69 f) (by rw [u_n69 f]; exact hj) (by rw [u_n69 f]; decide)
theorem u_st69 {v : Int32} (f : Fr h) (hj : j < 120) : Ex sc D k ((.iastore, z) :: is) ls (.int v :: .int (nI j) :: .ref 69 :: st) h Q = Ex sc D k is ls st (sI h 69 j v) Q := ex_iastN (u_k69 f) (by rw [u_n69 f]; exact hj) (by rw [u_n69 f]; decide)
theorem u_at69 (f : Fr h) (hj : j < 120) : Ev (D + 1) 61 [.ref 69, .int (nI j)] h Q = Q (some (.int (hI h 69 j))) h := by rw [ev_at (u_k69 f) (by rw [u_n69 f]; decide) (by omega), u_n69 f, if_pos hj]
theorem u_pt69 {v : Int32} (f : Fr h) (hj : j < 120) : Ev (D + 1) 63 [.ref 69, .int (nI j), .int v] h Q = Q none (sI h 69 j v) := by rw [ev_put (u_k69 f) (by rw [u_n69 f]; decide) (by omega), u_n69 f, if_pos hj]
theorem u_k70 (f : Fr h) : hK h 70 = 9 := kf f (by decide) rfl
theorem u_gI70 (f : Fr h) : Ex sc D k ((.getfield 8, z) :: is) ls (.ref 70 :: st) h Q = Ex sc D k is ls (.int (hI h 70 z) :: st) h Q := ex_getI (u_k70 f)
theorem u_pI70 {v : Int32} (f : Fr h) : Ex sc D k ((.putfield 8, z) :: is) ls (.int v :: .ref 70 :: st) h Q = Ex sc D k is ls st (sI h 70 z v) Q := ex_putI (u_k70 f)
theorem u_k71 (f : Fr h) : hK h 71 = 20 := kf f (by decide) rfl
theorem u_n71 (f : Fr h) : hN h 71 = 120 := nf f (by decide) rfl
theorem u_al71 (f : Fr h) : Ex sc D k ((.arraylength, z) :: is) ls (.ref 71 :: st) h Q = Ex sc D k is ls (.int (nI 120) :: st) h Q := by rw [ex_alenN (by rw [u_k71 f]; decide), u_n71 f]
theorem u_ld71 (f : Fr h) (hj : j < 120) : Ex sc D k ((.iaload, z) :: is) ls (.int (nI j) :: .ref 71 :: st) h Q = Ex sc D k is ls (.int (hI h 71 j) :: st) h Q := ex_ialdN (u_k71 f) (by rw [u_n71 f]; exact hj) (by rw [u_n71 f]; decide)
theorem u_st71 {v : Int32} (f : Fr h) (hj : j < 120) : Ex sc D k ((.iastore, z) :: is) ls (.int v :: .int (nI j) :: .ref 71 :: st) h Q = Ex sc D k is ls st (sI h 71 j v) Q := ex_iastN (u_k71 f) (by rw [u_n71 f]; exact hj) (by rw [u_n71 f]; decide)
theorem u_at71 (f : Fr h) (hj : j < 120) : Ev (D + 1) 61 [.ref 71, .int (nI j)] h Q = Q (some (.int (hI h 71 j))) h := by rw [ev_at (u_k71 f) (by rw [u_n71 f]; decide) (by omega), u_n71 f, if_pos hj]
theorem u_pt71 {v : Int32} (f : Fr h) (hj : j < 120) : Ev (D + 1) 63 [.ref 71, .int (nI j), .int v] h Q = Q none (sI h 71 j v) := by rw [ev_put (u_k71 f) (by rw [u_n71 f]; decide) (by omega), u_n71 f, if_pos hj]
theorem u_k72 (f : Fr h) : hK h 72 = 9 := kf f (by decide) rfl
theorem u_gI72 (f : Fr h) : Ex sc D k ((.getfield 8, z) :: is) ls (.ref 72 :: st) h Q = Ex sc D k is ls (.int (hI h 72 z) :: st) h Q := ex_getI (u_k72 f)
theorem u_pI72 {v : Int32} (f : Fr h) : Ex sc D k ((.putfield 8, z) :: is) ls (.int v :: .ref 72 :: st) h Q = Ex sc D k is ls st (sI h 72 z v) Q := ex_putI (u_k72 f)
theorem u_k73 (f : Fr h) : hK h 73 = 20 := kf f (by decide) rfl
theorem u_n73 (f : Fr h) : hN h 73 = 120 := nf f (by decide) rfl
theorem u_al73 (f : Fr h) : Ex sc D k ((.arraylength, z) :: is) ls (.ref 73 :: st) h Q = Ex sc D k is ls (.int (nI 120) :: st) h Q := by rw [ex_alenN (by rw [u_k73 f]; decide), u_n73 f]
theorem u_ld73 (f : Fr h) (hj : j < 120) : Ex sc D k ((.iaload, z) :: is) ls (.int (nI j) :: .ref 73 :: st) h Q = Ex sc D k is ls (.int (hI h 73 j) :: st) h Q := ex_ialdN (u_k73 f) (by rw [u_n73 f]; exact hj) (by rw [u_n73 f]; decide)
theorem u_st73 {v : Int32} (f : Fr h) (hj : j < 120) : Ex sc D k ((.iastore, z) :: is) ls (.int v :: .int (nI j) :: .ref 73 :: st) h Q = Ex sc D k is ls st (sI h 73 j v) Q := ex_iastN (u_k73 f) (by rw [u_n73 f]; exact hj) (by rw [u_n73 f]; decide)
theorem u_at73 (f : Fr h) (hj : j < 120) : Ev (D + 1) 61 [.ref 73, .int (nI j)] h Q = Q (some (.int (hI h 73 j))) h := by rw [ev_at (u_k73 f) (by rw [u_n73 f]; decide) (by omega), u_n73 f, if_pos hj]
theorem u_pt73 {v : Int32} (f : Fr h) (hj : j < 120) : Ev (D + 1) 63 [.ref 73, .int (nI j), .int v] h Q = Q none (sI h 73 j v) := by rw [ev_put (u_k73 f) (by rw [u_n73 f]; decide) (by omega), u_n73 f, if_pos hj]
theorem u_k74 (f : Fr h) : hK h 74 = 12 := kf f (by decide) rfl
theorem u_gI74 (f : Fr h) : Ex sc D k ((.getfield 11, z) :: is) ls (.ref 74 :: st) h Q = Ex sc D k is ls (.int (hI h 74 z) :: st) h Q := ex_getI (u_k74 f)
theorem u_gL74 (f : Fr h) : Ex sc D k ((.getstatic 11, z) :: is) ls (.ref 74 :: st) h Q = Ex sc D k is ls (.long (hL h 74 z) :: st) h Q := ex_getL (u_k74 f)
theorem u_pL74 {v : Int64} (f : Fr h) : Ex sc D k ((.putstatic 11, z) :: is) ls (.long v :: .ref 74 :: st) h Q = Ex sc D k is ls st (sL h 74 z v) Q := ex_putL (u_k74 f)
theorem u_pI74 {v : Int32} (f : Fr h) : Ex sc D k ((.putfield 11, z) :: is) ls (.int v :: .ref 74 :: st) h Q = Ex sc D k is ls st (sI h 74 z v) Q := ex_putI (u_k74 f)
theorem u_pZa74 (f : Fr h) : Ex sc D k ((.ret 11, z) :: is) ls (.int (nI 0) :: .ref 74 :: st) h Q = Ex sc D k is ls st (sI h 74 z (nI 0)) Q := ex_putZ0 (u_k74 f)
theorem u_pZb74 (f : Fr h) : Ex sc D k ((.ret 11, z) :: is) ls (.int (nI 1) :: .ref 74 :: st) h Q = Ex sc D k is ls st (sI h 74 z (nI 1)) Q := ex_putZ1 (u_k74 f)
theorem u_pZc74 {b : Bool} (f : Fr h) : Ex sc D k ((.ret 11, z) :: is) ls (.int (bB b) :: .ref 74 :: st) h Q = Ex sc D k is ls st (sI h 74 z (bB b)) Q := ex_putZB (u_k74 f)
theorem u_gD74 (f : Fr h) : Ex sc D k ((.checkcast 11, 5) :: is) ls (.ref 74 :: st) h Q = Ex sc D k is ls (va_rf (hR h 74 5) :: st) h Q := ex_getR (u_k74 f)
theorem u_pR74 {v : Nat} (f : Fr h) : Ex sc D k ((.instanceof 11, 5) :: is) ls (.ref v :: .ref 74 :: st) h Q = Ex sc D k is ls st (sR h 74 5 (some v)) Q := ex_putR (u_k74 f)
theorem u_k75 (f : Fr h) : hK h 75 = 21 := kf f (by decide) rfl
theorem u_n75 (f : Fr h) : hN h 75 = 120 := nf f (by decide) rfl
theorem u_al75 (f : Fr h) : Ex sc D k ((.arraylength, z) :: is) ls (.ref 75 :: st) h Q = Ex sc D k is ls (.int (nI 120) :: st) h Q := by rw [ex_alenN (by rw [u_k75 f]; decide), u_n75 f]
theorem u_ld75 (f : Fr h) (hj : j < 120) : Ex sc D k ((.baload, z) :: is) ls (.int (nI j) :: .ref 75 :: st) h Q = Ex sc D k is ls (.int (hI h 75 j) :: st) h Q := ex_baldB (u_k75 f) (by rw [u_n75 f]; exact hj) (by rw [u_n75 f]; decide)
theorem u_st75 {v : Int32} (f : Fr h) (hj : j < 120) : Ex sc D k ((.bastore, z) :: is) ls (.int v :: .int (nI j) :: .ref 75 :: st) h Q = Ex sc D k is ls st (sI h 75 j (vp_nar .byte v)) Q := ex_bastBN (u_k75 f) (by rw [u_n75 f]; exact hj) (by rw [u_n75 f]; decide)
theorem u_k76 (f : Fr h) : hK h 76 = 21 := kf f (by decide) rfl
theorem u_n76 (f : Fr h) : hN h 76 = 480 := nf f (by decide) rfl
theorem u_al76 (f : Fr h) : Ex sc D k ((.arraylength, z) :: is) ls (.ref 76 :: st) h Q = Ex sc D k is ls (.int (nI 480) :: st) h Q := by rw [ex_alenN (by rw [u_k76 f]; decide), u_n76 f]
theorem u_ld76 (f : Fr h) (hj : j < 480) : Ex sc D k ((.baload, z) :: is) ls (.int (nI j) :: .ref 76 :: st) h Q = Ex sc D k is ls (.int (hI h 76 j) :: st) h Q := ex_baldB (u_k76 f) (by rw [u_n76 f]; exact hj) (by rw [u_n76 f]; decide)
theorem u_st76 {v : Int32} (f : Fr h) (hj : j < 480) : Ex sc D k ((.bastore, z) :: is) ls (.int v :: .int (nI j) :: .ref 76 :: st) h Q = Ex sc D k is ls st (sI h 76 j (vp_nar .byte v)) Q := ex_bastBN (u_k76 f) (by rw [u_n76 f]; exact hj) (by rw [u_n76 f]; decide)
theorem u_k77 (f : Fr h) : hK h 77 = 20 := kf f (by decide) rfl
theorem u_n77 (f : Fr h) : hN h 77 = 4 := nf f (by decide) rfl
theorem u_al77 (f : Fr h) : Ex sc D k ((.arraylength, z) :: is) ls (.ref 77 :: st) h Q = Ex sc D k is ls (.int (nI 4) :: st) h Q := by rw [ex_alenN (by rw [u_k77 f]; decide), u_n77 f]
theorem u_ld77 (f : Fr h) (hj : j < 4) : Ex sc D k ((.iaload, z) :: is) ls (.int (nI j) :: .ref 77 :: st) h Q = Ex sc D k is ls (.int (hI h 77 j) :: st) h Q := ex_ialdN (u_k77 f) (by rw [u_n77 f]; exact hj) (by rw [u_n77 f]; decide)
theorem u_st77 {v : Int32} (f : Fr h) (hj : j < 4) : Ex sc D k ((.iastore, z) :: is) ls (.int v :: .int (nI j) :: .ref 77 :: st) h Q = Ex sc D k is ls st (sI h 77 j v) Q := ex_iastN (u_k77 f) (by rw [u_n77 f]; exact hj) (by rw [u_n77 f]; decide)
theorem u_k78 (f : Fr h) : hK h 78 = 20 := kf f (by decide) rfl
theorem u_n78 (f : Fr h) : hN h 78 = 128 := nf f (by decide) rfl
theorem u_al78 (f : Fr h) : Ex sc D k ((.arraylength, z) :: is) ls (.ref 78 :: st) h Q = Ex sc D k is ls (.int (nI 128) :: st) h Q := by rw [ex_alenN (by rw [u_k78 f]; decide), u_n78 f]
theorem u_ld78 (f : Fr h) (hj : j < 128) : Ex sc D k ((.iaload, z) :: is) ls (.int (nI j) :: .ref 78 :: st) h Q = Ex sc D k is ls (.int (hI h 78 j) :: st) h Q := ex_ialdN (u_k78 f) (by rw [u_n78 f]; exact hj) (by rw [u_n78 f]; decide)
theorem u_st78 {v : Int32} (f : Fr h) (hj : j < 128) : Ex sc D k ((.iastore, z) :: is) ls (.int v :: .int (nI j) :: .ref 78 :: st) h Q = Ex sc D k is ls st (sI h 78 j v) Q := ex_iastN (u_k78 f) (by rw [u_n78 f]; exact hj) (by rw [u_n78 f]; decide)
theorem u_k79 (f : Fr h) : hK h 79 = 20 := kf f (by decide) rfl
theorem u_n79 (f : Fr h) : hN h 79 = 30 := nf f (by decide) rfl
theorem u_al79 (f : Fr h) : Ex sc D k ((.arraylength, z) :: is) ls (.ref 79 :: st) h Q = Ex sc D k is ls (.int (nI 30) :: st) h Q := by rw [ex_alenN (by rw [u_k79 f]; decide), u_n79 f]
theorem u_ld79 (f : Fr h) (hj : j < 30) : Ex sc D k ((.iaload, z) :: is) ls (.int (nI j) :: .ref 79 :: st) h Q = Ex sc D k is ls (.int (hI h 79 j) :: st) h Q := ex_ialdN (u_k79 f) (by rw [u_n79 f]; exact hj) (by rw [u_n79 f]; decide)
theorem u_st79 {v : Int32} (f : Fr h) (hj : j < 30) : Ex sc D k ((.iastore, z) :: is) ls (.int v :: .int (nI j) :: .ref 79 :: st) h Q = Ex sc D k is ls st (sI h 79 j v) Q := ex_iastN (u_k79 f) (by rw [u_n79 f]; exact hj) (by rw [u_n79 f]; decide)
theorem u_k80 (f : Fr h) : hK h 80 = 20 := kf f (by decide) rfl
theorem u_n80 (f : Fr h) : hN h 80 = 6 := nf f (by decide) rfl
theorem u_al80 (f : Fr h) : Ex sc D k ((.arraylength, z) :: is) ls (.ref 80 :: st) h Q = Ex sc D k is ls (.int (nI 6) :: st) h Q := by rw [ex_alenN (by rw [u_k80 f]; decide), u_n80 f]
theorem u_ld80 (f : Fr h) (hj : j < 6) : Ex sc D k ((.iaload, z) :: is) ls (.int (nI j) :: .ref 80 :: st) h Q = Ex sc D k is ls (.int (hI h 80 j) :: st) h Q := ex_ialdN (u_k80 f) (by rw [u_n80 f]; exact hj) (by rw [u_n80 f]; decide)
theorem u_st80 {v : Int32} (f : Fr h) (hj : j < 6) : Ex sc D k ((.iastore, z) :: is) ls (.int v :: .int (nI j) :: .ref 80 :: st) h Q = Ex sc D k is ls st (sI h 80 j v) Q := ex_iastN (u_k80 f) (by rw [u_n80 f]; exact hj) (by rw [u_n80 f]; decide)
theorem u_k81 (f : Fr h) : hK h 81 = 20 := kf f (by decide) rfl
theorem u_n81 (f : Fr h) : hN h 81 = 30 := nf f (by decide) rfl
theorem u_al81 (f : Fr h) : Ex sc D k ((.arraylength, z) :: is) ls (.ref 81 :: st) h Q = Ex sc D k is ls (.int (nI 30) :: st) h Q := by rw [ex_alenN (by rw [u_k81 f]; decide), u_n81 f]
theorem u_ld81 (f : Fr h) (hj : j < 30) : Ex sc D k ((.iaload, z) :: is) ls (.int (nI j) :: .ref 81 :: st) h Q = Ex sc D k is ls (.int (hI h 81 j) :: st) h Q := ex_ialdN (u_k81 f) (by rw [u_n81 f]; exact hj) (by rw [u_n81 f]; decide)
theorem u_st81 {v : Int32} (f : Fr h) (hj : j < 30) : Ex sc D k ((.iastore, z) :: is) ls (.int v :: .int (nI j) :: .ref 81 :: st) h Q = Ex sc D k is ls st (sI h 81 j v) Q := ex_iastN (u_k81 f) (by rw [u_n81 f]; exact hj) (by rw [u_n81 f]; decide)
theorem u_k82 (f : Fr h) : hK h 82 = 20 := kf f (by decide) rfl
theorem u_n82 (f : Fr h) : hN h 82 = 6 := nf f (by decide) rfl
theorem u_al82 (f : Fr h) : Ex sc D k ((.arraylength, z) :: is) ls (.ref 82 :: st) h Q = Ex sc D k is ls (.int (nI 6) :: st) h Q := by rw [ex_alenN (by rw [u_k82 f]; decide), u_n82 f]
theorem u_ld82 (f : Fr h) (hj : j < 6) : Ex sc D k ((.iaload, z) :: is) ls (.int (nI j) :: .ref 82 :: st) h Q = Ex sc D k is ls (.int (hI h 82 j) :: st) h Q := ex_ialdN (u_k82 f) (by rw [u_n82 f]; exact hj) (by rw [u_n82 f]; decide)
theorem u_st82 {v : Int32} (f : Fr h) (hj : j < 6) : Ex sc D k ((.iastore, z) :: is) ls (.int v :: .int (nI j) :: .ref 82 :: st) h Q = Ex sc D k is ls st (sI h 82 j v) Q := ex_iastN (u_k82 f) (by rw [u_n82 f]; exact hj) (by rw [u_n82 f]; decide)
theorem u_k83 (f : Fr h) : hK h 83 = 20 := kf f (by decide) rfl
theorem u_n83 (f : Fr h) : hN h 83 = 5 := nf f (by decide) rfl
theorem u_al83 (f : Fr h) : Ex sc D k ((.arraylength, z) :: is) ls (.ref 83 :: st) h Q = Ex sc D k is ls (.int (nI 5) :: st) h Q := by rw [ex_alenN (by rw [u_k83 f]; decide), u_n83 f]
theorem u_ld83 (f : Fr h) (hj : j < 5) : Ex sc D k ((.iaload, z) :: is) ls (.int (nI j) :: .ref 83 :: st) h Q = Ex sc D k is ls (.int (hI h 83 j) :: st) h Q := ex_ialdN (u_k83 f) (by rw [u_n83 f]; exact hj) (by rw [u_n83 f]; decide)
theorem u_st83 {v : Int32} (f : Fr h) (hj : j < 5) : Ex sc D k ((.iastore, z) :: is) ls (.int v :: .int (nI j) :: .ref 83 :: st) h Q = Ex sc D k is ls st (sI h 83 j v) Q := ex_iastN (u_k83 f) (by rw [u_n83 f]; exact hj) (by rw [u_n83 f]; decide)
theorem u_k84 (f : Fr h) : hK h 84 = 20 := kf f (by decide) rfl
theorem u_n84 (f : Fr h) : hN h 84 = 5 := nf f (by decide) rfl
theorem u_al84 (f : Fr h) : Ex sc D k ((.arraylength, z) :: is) ls (.ref 84 :: st) h Q = Ex sc D k is ls (.int (nI 5) :: st) h Q := by rw [ex_alenN (by rw [u_k84 f]; decide), u_n84 f]
theorem u_ld84 (f : Fr h) (hj : j < 5) : Ex sc D k ((.iaload, z) :: is) ls (.int (nI j) :: .ref 84 :: st) h Q = Ex sc D k is ls (.int (hI h 84 j) :: st) h Q := ex_ialdN (u_k84 f) (by rw [u_n84 f]; exact hj) (by rw [u_n84 f]; decide)
theorem u_st84 {v : Int32} (f : Fr h) (hj : j < 5) : Ex sc D k ((.iastore, z) :: is) ls (.int v :: .int (nI j) :: .ref 84 :: st) h Q = Ex sc D k is ls st (sI h 84 j v) Q := ex_iastN (u_k84 f) (by rw [u_n84 f]; exact hj) (by rw [u_n84 f]; decide)
theorem u_k85 (f : Fr h) : hK h 85 = 22 := kf f (by decide) rfl
theorem u_n85 (f : Fr h) : hN h 85 = 5 := nf f (by decide) rfl
theorem u_al85 (f : Fr h) : Ex sc D k ((.arraylength, z) :: is) ls (.ref 85 :: st) h Q = Ex sc D k is ls (.int (nI 5) :: st) h Q := by rw [ex_alenN (by rw [u_k85 f]; decide), u_n85 f]
theorem u_ld85 (f : Fr h) (hj : j < 5) : Ex sc D k ((.baload, z) :: is) ls (.int (nI j) :: .ref 85 :: st) h Q = Ex sc D k is ls (.int (hI h 85 j) :: st) h Q := ex_baldZ (u_k85 f) (by rw [u_n85 f]; exact hj) (by rw [u_n85 f]; decide)
theorem u_sta85 (f : Fr h) (hj : j < 5) : Ex sc D k ((.bastore, z) :: is) ls (.int (nI 0) :: .int (nI j) :: .ref 85 :: st) h Q = Ex sc D k is ls st (sI h 85 j (nI 0)) Q := ex_bastZ0 (u_k85 f) (by rw [u_n85 f]; exact hj) (by rw [u_n85 f]; decide)
theorem u_stb85 (f : Fr h) (hj : j < 5) : Ex sc D k ((.bastore, z) :: is) ls (.int (nI 1) :: .int (nI j) :: .ref 85 :: st) h Q = Ex sc D k is ls st (sI h 85 j (nI 1)) Q := ex_bastZ1 (u_k85 f) (by rw [u_n85 f]; exact hj) (by rw [u_n85 f]; decide)
theorem u_stc85 {b : Bool} (f : Fr h) (hj : j < 5) : Ex sc D k ((.bastore, z) :: is) ls (.int (bB b) :: .int (nI j) :: .ref 85 :: st) h Q = Ex sc D k is ls st (sI h 85 j (bB b)) Q := ex_bastZB (u_k85 f) (by rw [u_n85 f]; exact hj) (by rw [u_n85 f]; decide)
theorem u_k86 (f : Fr h) : hK h 86 = 20 := kf f (by decide) rfl
theorem u_n86 (f : Fr h) : hN h 86 = 200 := nf f (by decide) rfl
theorem u_al86 (f : Fr h) : Ex sc D k ((.arraylength, z) :: is) ls (.ref 86 :: st) h Q = Ex sc D k is ls (.int (nI 200) :: st) h Q := by rw [ex_alenN (by rw [u_k86 f]; decide), u_n86 f]
theorem u_ld86 (f : Fr h) (hj : j < 200) : Ex sc D k ((.iaload, z) :: is) ls (.int (nI j) :: .ref 86 :: st) h Q = Ex sc D k is ls (.int (hI h 86 j) :: st) h Q := ex_ialdN (u_k86 f) (by rw [u_n86 f]; exact hj) (by rw [u_n86 f]; decide)
theorem u_st86 {v : Int32} (f : Fr h) (hj : j < 200) : Ex sc D k ((.iastore, z) :: is) ls (.int v :: .int (nI j) :: .ref 86 :: st) h Q = Ex sc D k is ls st (sI h 86 j v) Q := ex_iastN (u_k86 f) (by rw [u_n86 f]; exact hj) (by rw [u_n86 f]; decide)
theorem u_k87 (f : Fr h) : hK h 87 = 20 := kf f (by decide) rfl
theorem u_n87 (f : Fr h) : hN h 87 = 200 := nf f (by decide) rfl
theorem u_al87 (f : Fr h) : Ex sc D k ((.arraylength, z) :: is) ls (.ref 87 :: st) h Q = Ex sc D k is ls (.int (nI 200) :: st) h Q := by rw [ex_alenN (by rw [u_k87 f]; decide), u_n87 f]
theorem u_ld87 (f : Fr h) (hj : j < 200) : Ex sc D k ((.iaload, z) :: is) ls (.int (nI j) :: .ref 87 :: st) h Q = Ex sc D k is ls (.int (hI h 87 j) :: st) h Q := ex_ialdN (u_k87 f) (by rw [u_n87 f]; exact hj) (by rw [u_n87 f]; decide)
theorem u_st87 {v : Int32} (f : Fr h) (hj : j < 200) : Ex sc D k ((.iastore, z) :: is) ls (.int v :: .int (nI j) :: .ref 87 :: st) h Q = Ex sc D k is ls st (sI h 87 j v) Q := ex_iastN (u_k87 f) (by rw [u_n87 f]; exact hj) (by rw [u_n87 f]; decide)
theorem u_k88 (f : Fr h) : hK h 88 = 20 := kf f (by decide) rfl
theorem u_n88 (f : Fr h) : hN h 88 = 40 := nf f (by decide) rfl
theorem u_al88 (f : Fr h) : Ex sc D k ((.arraylength, z) :: is) ls (.ref 88 :: st) h Q = Ex sc D k is ls (.int (nI 40) :: st) h Q := by rw [ex_alenN (by rw [u_k88 f]; decide), u_n88 f]
theorem u_ld88 (f : Fr h) (hj : j < 40) : Ex sc D k ((.iaload, z) :: is) ls (.int (nI j) :: .ref 88 :: st) h Q = Ex sc D k is ls (.int (hI h 88 j) :: st) h Q := ex_ialdN (u_k88 f) (by rw [u_n88 f]; exact hj) (by rw [u_n88 f]; decide)
theorem u_st88 {v : Int32} (f : Fr h) (hj : j < 40) : Ex sc D k ((.iastore, z) :: is) ls (.int v :: .int (nI j) :: .ref 88 :: st) h Q = Ex sc D k is ls st (sI h 88 j v) Q := ex_iastN (u_k88 f) (by rw [u_n88 f]; exact hj) (by rw [u_n88 f]; decide)
theorem u_k89 (f : Fr h) : hK h 89 = 23 := kf f (by decide) rfl
theorem u_n89 (f : Fr h) : hN h 89 = 40 := nf f (by decide) rfl
theorem u_al89 (f : Fr h) : Ex sc D k ((.arraylength, z) :: is) ls (.ref 89 :: st) h Q = Ex sc D k is ls (.int (nI 40) :: st) h Q := by rw [ex_alenN (by rw [u_k89 f]; decide), u_n89 f]
theorem u_ld89 (f : Fr h) (hj : j < 40) : Ex sc D k ((.laload, z) :: is) ls (.int (nI j) :: .ref 89 :: st) h Q = Ex sc D k is ls (.long (hL h 89 j) :: st) h Q := ex_laldN (u_k89 f) (by rw [u_n89 f]; exact hj) (by rw [u_n89 f]; decide)
theorem u_st89 {v : Int64} (f : Fr h) (hj : j < 40) : Ex sc D k ((.lastore, z) :: is) ls (.long v :: .int (nI j) :: .ref 89 :: st) h Q = Ex sc D k is ls st (sL h 89 j v) Q := ex_lastN (u_k89 f) (by rw [u_n89 f]; exact hj) (by rw [u_n89 f]; decide)
theorem u_k90 (f : Fr h) : hK h 90 = 23 := kf f (by decide) rfl
theorem u_n90 (f : Fr h) : hN h 90 = 7776 := nf f (by decide) rfl
theorem u_al90 (f : Fr h) : Ex sc D k ((.arraylength, z) :: is) ls (.ref 90 :: st) h Q = Ex sc D k is ls (.int (nI 7776) :: st) h Q := by rw [ex_alenN (by rw [u_k90 f]; decide), u_n90 f]
theorem u_ld90 (f : Fr h) (hj : j < 7776) : Ex sc D k ((.laload, z) :: is) ls (.int (nI j) :: .ref 90 :: st) h Q = Ex sc D k is ls (.long (hL h 90 j) :: st) h Q := ex_laldN (u_k90 f) (by rw [u_n90 f]; exact hj) (by rw [u_n90 f]; decide)
theorem u_st90 {v : Int64} (f : Fr h) (hj : j < 7776) : Ex sc D k ((.lastore, z) :: is) ls (.long v :: .int (nI j) :: .ref 90 :: st) h Q = Ex sc D k is ls st (sL h 90 j v) Q := ex_lastN (u_k90 f) (by rw [u_n90 f]; exact hj) (by rw [u_n90 f]; decide)
theorem u_k91 (f : Fr h) : hK h 91 = 20 := kf f (by decide) rfl
theorem u_n91 (f : Fr h) : hN h 91 = 60 := nf f (by decide) rfl
theorem u_al91 (f : Fr h) : Ex sc D k ((.arraylength, z) :: is) ls (.ref 91 :: st) h Q = Ex sc D k is ls (.int (nI 60) :: st) h Q := by rw [ex_alenN (by rw [u_k91 f]; decide), u_n91 f]
theorem u_ld91 (f : Fr h) (hj : j < 60) : Ex sc D k ((.iaload, z) :: is) ls (.int (nI j) :: .ref 91 :: st) h Q = Ex sc D k is ls (.int (hI h 91 j) :: st) h Q := ex_ialdN (u_k91 f) (by rw [u_n91 f]; exact hj) (by rw [u_n91 f]; decide)
theorem u_st91 {v : Int32} (f : Fr h) (hj : j < 60) : Ex sc D k ((.iastore, z) :: is) ls (.int v :: .int (nI j) :: .ref 91 :: st) h Q = Ex sc D k is ls st (sI h 91 j v) Q := ex_iastN (u_k91 f) (by rw [u_n91 f]; exact hj) (by rw [u_n91 f]; decide)
theorem u_k92 (f : Fr h) : hK h 92 = 20 := kf f (by decide) rfl
theorem u_n92 (f : Fr h) : hN h 92 = 60 := nf f (by decide) rfl
theorem u_al92 (f : Fr h) : Ex sc D k ((.arraylength, z) :: is) ls (.ref 92 :: st) h Q = Ex sc D k is ls (.int (nI 60) :: st) h Q := by rw [ex_alenN (by rw [u_k92 f]; decide), u_n92 f]
theorem u_ld92 (f : Fr h) (hj : j < 60) : Ex sc D k ((.iaload, z) :: is) ls (.int (nI j) :: .ref 92 :: st) h Q = Ex sc D k is ls (.int (hI h 92 j) :: st) h Q := ex_ialdN (u_k92 f) (by rw [u_n92 f]; exact hj) (by rw [u_n92 f]; decide)
theorem u_st92 {v : Int32} (f : Fr h) (hj : j < 60) : Ex sc D k ((.iastore, z) :: is) ls (.int v :: .int (nI j) :: .ref 92 :: st) h Q = Ex sc D k is ls st (sI h 92 j v) Q := ex_iastN (u_k92 f) (by rw [u_n92 f]; exact hj) (by rw [u_n92 f]; decide)
theorem u_k93 (f : Fr h) : hK h 93 = 20 := kf f (by decide) rfl
theorem u_n93 (f : Fr h) : hN h 93 = 60 := nf f (by decide) rfl
theorem u_al93 (f : Fr h) : Ex sc D k ((.arraylength, z) :: is) ls (.ref 93 :: st) h Q = Ex sc D k is ls (.int (nI 60) :: st) h Q := by rw [ex_alenN (by rw [u_k93 f]; decide), u_n93 f]
theorem u_ld93 (f : Fr h) (hj : j < 60) : Ex sc D k ((.iaload, z) :: is) ls (.int (nI j) :: .ref 93 :: st) h Q = Ex sc D k is ls (.int (hI h 93 j) :: st) h Q := ex_ialdN (u_k93 f) (by rw [u_n93 f]; exact hj) (by rw [u_n93 f]; decide)
theorem u_st93 {v : Int32} (f : Fr h) (hj : j < 60) : Ex sc D k ((.iastore, z) :: is) ls (.int v :: .int (nI j) :: .ref 93 :: st) h Q = Ex sc D k is ls st (sI h 93 j v) Q := ex_iastN (u_k93 f) (by rw [u_n93 f]; exact hj) (by rw [u_n93 f]; decide)
theorem u_k94 (f : Fr h) : hK h 94 = 20 := kf f (by decide) rfl
theorem u_n94 (f : Fr h) : hN h 94 = 680 := nf f (by decide) rfl
theorem u_al94 (f : Fr h) : Ex sc D k ((.arraylength, z) :: is) ls (.ref 94 :: st) h Q = Ex sc D k is ls (.int (nI 680) :: st) h Q := by rw [ex_alenN (by rw [u_k94 f]; decide), u_n94 f]
theorem u_ld94 (f : Fr h) (hj : j < 680) : Ex sc D k ((.iaload, z) :: is) ls (.int (nI j) :: .ref 94 :: st) h Q = Ex sc D k is ls (.int (hI h 94 j) :: st) h Q := ex_ialdN (u_k94 f) (by rw [u_n94 f]; exact hj) (by rw [u_n94 f]; decide)
theorem u_st94 {v : Int32} (f : Fr h) (hj : j < 680) : Ex sc D k ((.iastore, z) :: is) ls (.int v :: .int (nI j) :: .ref 94 :: st) h Q = Ex sc D k is ls st (sI h 94 j v) Q := ex_iastN (u_k94 f) (by rw [u_n94 f]; exact hj) (by rw [u_n94 f]; decide)
theorem u_k95 (f : Fr h) : hK h 95 = 23 := kf f (by decide) rfl
theorem u_n95 (f : Fr h) : hN h 95 = 40 := nf f (by decide) rfl
theorem u_al95 (f : Fr h) : Ex sc D k ((.arraylength, z) :: is) ls (.ref 95 :: st) h Q = Ex sc D k is ls (.int (nI 40) :: st) h Q := by rw [ex_alenN (by rw [u_k95 f]; decide), u_n95 f]
theorem u_ld95 (f : Fr h) (hj : j < 40) : Ex sc D k ((.laload, z) :: is) ls (.int (nI j) :: .ref 95 :: st) h Q = Ex sc D k is ls (.long (hL h 95 j) :: st) h Q := ex_laldN (u_k95 f) (by rw [u_n95 f]; exact hj) (by rw [u_n95 f]; decide)
theorem u_st95 {v : Int64} (f : Fr h) (hj : j < 40) : Ex sc D k ((.lastore, z) :: is) ls (.long v :: .int (nI j) :: .ref 95 :: st) h Q = Ex sc D k is ls st (sL h 95 j v) Q := ex_lastN (u_k95 f) (by rw [u_n95 f]; exact hj) (by rw [u_n95 f]; decide)
theorem u_k96 (f : Fr h) : hK h 96 = 23 := kf f (by decide) rfl
theorem u_n96 (f : Fr h) : hN h 96 = 1 := nf f (by decide) rfl
theorem u_al96 (f : Fr h) : Ex sc D k ((.arraylength, z) :: is) ls (.ref 96 :: st) h Q = Ex sc D k is ls (.int (nI 1) :: st) h Q := by rw [ex_alenN (by rw [u_k96 f]; decide), u_n96 f]
theorem u_ld96 (f : Fr h) (hj : j < 1) : Ex sc D k ((.laload, z) :: is) ls (.int (nI j) :: .ref 96 :: st) h Q = Ex sc D k is ls (.long (hL h 96 j) :: st) h Q := ex_laldN (u_k96 f) (by rw [u_n96 f]; exact hj) (by rw [u_n96 f]; decide)
theorem u_st96 {v : Int64} (f : Fr h) (hj : j < 1) : Ex sc D k ((.lastore, z) :: is) ls (.long v :: .int (nI j) :: .ref 96 :: st) h Q = Ex sc D k is ls st (sL h 96 j v) Q := ex_lastN (u_k96 f) (by rw [u_n96 f]; exact hj) (by rw [u_n96 f]; decide)
theorem u_rf0_0 (f : Fr h) : Ex sc D k ((.checkcast 10, 0) :: is) ls (.ref 0 :: st) h Q = Ex sc D k is ls (.ref 1 :: st) h Q := by rw [ex_getR (u_k0 f), rfk f 0 rfl, rf_some]
theorem u_rf0_1 (f : Fr h) : Ex sc D k ((.checkcast 10, 1) :: is) ls (.ref 0 :: st) h Q = Ex sc D k is ls (.ref 3 :: st) h Q := by rw [ex_getR (u_k0 f), rfk f 1 rfl, rf_some]
theorem u_rf0_3 (f : Fr h) : Ex sc D k ((.checkcast 10, 3) :: is) ls (.ref 0 :: st) h Q = Ex sc D k is ls (.ref 4 :: st) h Q := by rw [ex_getR (u_k0 f), rfk f 2 rfl, rf_some]
theorem u_rf0_4 (f : Fr h) : Ex sc D k ((.checkcast 10, 4) :: is) ls (.ref 0 :: st) h Q = Ex sc D k is ls (.ref 7 :: st) h Q := by rw [ex_getR (u_k0 f), rfk f 3 rfl, rf_some]
theorem u_rf0_5 (f : Fr h) : Ex sc D k ((.checkcast 10, 5) :: is) ls (.ref 0 :: st) h Q = Ex sc D k is ls (.ref 10 :: st) h Q := by rw [ex_getR (u_k0 f), rfk f 4 rfl, rf_some]
theorem u_rf0_6 (f : Fr h) : Ex sc D k ((.checkcast 10, 6) :: is) ls (.ref 0 :: st) h Q = Ex sc D k is ls (.ref 11 :: st) h Q := by rw [ex_getR (u_k0 f), rfk f 5 rfl, rf_some]
theorem u_rf0_7 (f : Fr h) : Ex sc D k ((.checkcast 10, 7) :: is) ls (.ref 0 :: st) h Q = Ex sc D k is ls (.ref 14 :: st) h Q := by rw [ex_getR (u_k0 f), rfk f 6 rfl, rf_some]
theorem u_rf0_8 (f : Fr h) : Ex sc D k ((.checkcast 10, 8) :: is) ls (.ref 0 :: st) h Q = Ex sc D k is ls (.ref 21 :: st) h Q := by rw [ex_getR (u_k0 f), rfk f 7 rfl, rf_some]
theorem u_rf0_9 (f : Fr h) : Ex sc D k ((.checkcast 10, 9) :: is) ls (.ref 0 :: st) h Q = Ex sc D k is ls (.ref 24 :: st) h Q := by rw [ex_getR (u_k0 f), rfk f 8 rfl, rf_some]
theorem u_rf0_11 (f : Fr h) : Ex sc D k ((.checkcast 10, 11) :: is) ls (.ref 0 :: st) h Q = Ex sc D k is ls (.ref 31 :: st) h Q := by rw [ex_getR (u_k0 f), rfk f 9 rfl, rf_some]
theorem u_rf0_12 (f : Fr h) : Ex sc D k ((.checkcast 10, 12) :: is) ls (.ref 0 :: st) h Q = Ex sc D k is ls (.ref 32 :: st) h Q := by rw [ex_getR (u_k0 f), rfk f 10 rfl, rf_some]
theorem u_rf0_13 (f : Fr h) : Ex sc D k ((.checkcast 10, 13) :: is) ls (.ref 0 :: st) h Q = Ex sc D k is ls (.ref 33 :: st) h Q := by rw [ex_getR (u_k0 f), rfk f 11 rfl, rf_some]
theorem u_rf0_14 (f : Fr h) : Ex sc D k ((.checkcast 10, 14) :: is) ls (.ref 0 :: st) h Q = Ex sc D k is ls (.ref 36 :: st) h Q := by rw [ex_getR (u_k0 f), rfk f 12 rfl, rf_some]
theorem u_rf0_15 (f : Fr h) : Ex sc D k ((.checkcast 10, 15) :: is) ls (.ref 0 :: st) h Q = Ex sc D k is ls (.ref 37 :: st) h Q := by rw [ex_getR (u_k0 f), rfk f 13 rfl, rf_some]
theorem u_rf1_0 (f : Fr h) : Ex sc D k ((.checkcast 8, 0) :: is) ls (.ref 1 :: st) h Q = Ex sc D k is ls (.ref 2 :: st) h Q := by rw [ex_getR (u_k1 f), rfk f 14 rfl, rf_some]
theorem u_rf4_0 (f : Fr h) : Ex sc D k ((.checkcast 6, 0) :: is) ls (.ref 4 :: st) h Q = Ex sc D k is ls (.ref 5 :: st) h Q := by rw [ex_getR (u_k4 f), rfk f 19 rfl, rf_some]
theorem u_rf4_1 (f : Fr h) : Ex sc D k ((.checkcast 6, 1) :: is) ls (.ref 4 :: st) h Q = Ex sc D k is ls (.ref 6 :: st) h Q := by rw [ex_getR (u_k4 f), rfk f 20 rfl, rf_some]
theorem u_rf7_0 (f : Fr h) : Ex sc D k ((.checkcast 7, 0) :: is) ls (.ref 7 :: st) h Q = Ex sc D k is ls (.ref 8 :: st) h Q := by rw [ex_getR (u_k7 f), rfk f 21 rfl, rf_some]
theorem u_rf7_1 (f : Fr h) : Ex sc D k ((.checkcast 7, 1) :: is) ls (.ref 7 :: st) h Q = Ex sc D k is ls (.ref 9 :: st) h Q := by rw [ex_getR (u_k7 f), rfk f 22 rfl, rf_some]
theorem u_rf11_1 (f : Fr h) : Ex sc D k ((.checkcast 0, 1) :: is) ls (.ref 11 :: st) h Q = Ex sc D k is ls (.ref 12 :: st) h Q := by rw [ex_getR (u_k11 f), rfk f 23 rfl, rf_some]
theorem u_rf11_2 (f : Fr h) : Ex sc D k ((.checkcast 0, 2) :: is) ls (.ref 11 :: st) h Q = Ex sc D k is ls (.ref 13 :: st) h Q := by rw [ex_getR (u_k11 f), rfk f 24 rfl, rf_some]
theorem u_rf14_4 (f : Fr h) : Ex sc D k ((.checkcast 3, 4) :: is) ls (.ref 14 :: st) h Q = Ex sc D k is ls (.ref 15 :: st) h Q := by rw [ex_getR (u_k14 f), rfk f 25 rfl, rf_some]
theorem u_rf14_5 (f : Fr h) : Ex sc D k ((.checkcast 3, 5) :: is) ls (.ref 14 :: st) h Q = Ex sc D k is ls (.ref 16 :: st) h Q := by rw [ex_getR (u_k14 f), rfk f 26 rfl, rf_some]
theorem u_rf14_6 (f : Fr h) : Ex sc D k ((.checkcast 3, 6) :: is) ls (.ref 14 :: st) h Q = Ex sc D k is ls (.ref 17 :: st) h Q := by rw [ex_getR (u_k14 f), rfk f 27 rfl, rf_some]
theorem u_rf14_7 (f : Fr h) : Ex sc D k ((.checkcast 3, 7) :: is) ls (.ref 14 :: st) h Q = Ex sc D k is ls (.ref 18 :: st) h Q := by rw [ex_getR (u_k14 f), rfk f 28 rfl, rf_some]
theorem u_rf14_8 (f : Fr h) : Ex sc D k ((.checkcast 3, 8) :: is) ls (.ref 14 :: st) h Q = Ex sc D k is ls (.ref 19 :: st) h Q := by rw [ex_getR (u_k14 f), rfk f 29 rfl, rf_some]
theorem u_rf14_9 (f : Fr h) : Ex sc D k ((.checkcast 3, 9) :: is) ls (.ref 14 :: st) h Q = Ex sc D k is ls (.ref 20 :: st) h Q := by rw [ex_getR (u_k14 f), rfk f 30 rfl, rf_some]
theorem u_rf21_1 (f : Fr h) : Ex sc D k ((.checkcast 0, 1) :: is) ls (.ref 21 :: st) h Q = Ex sc D k is ls (.ref 22 :: st) h Q := by rw [ex_getR (u_k21 f), rfk f 31 rfl, rf_some]
theorem u_rf21_2 (f : Fr h) : Ex sc D k ((.checkcast 0, 2) :: is) ls (.ref 21 :: st) h Q = Ex sc D k is ls (.ref 23 :: st) h Q := by rw [ex_getR (u_k21 f), rfk f 32 rfl, rf_some]
theorem u_rf24_4 (f : Fr h) : Ex sc D k ((.checkcast 3, 4) :: is) ls (.ref 24 :: st) h Q = Ex sc D k is ls (.ref 25 :: st) h Q := by rw [ex_getR (u_k24 f), rfk f 33 rfl, rf_some]
theorem u_rf24_5 (f : Fr h) : Ex sc D k ((.checkcast 3, 5) :: is) ls (.ref 24 :: st) h Q = Ex sc D k is ls (.ref 26 :: st) h Q := by rw [ex_getR (u_k24 f), rfk f 34 rfl, rf_some]
theorem u_rf24_6 (f : Fr h) : Ex sc D k ((.checkcast 3, 6) :: is) ls (.ref 24 :: st) h Q = Ex sc D k is ls (.ref 27 :: st) h Q := by rw [ex_getR (u_k24 f), rfk f 35 rfl, rf_some]
theorem u_rf24_7 (f : Fr h) : Ex sc D k ((.checkcast 3, 7) :: is) ls (.ref 24 :: st) h Q = Ex sc D k is ls (.ref 28 :: st) h Q := by rw [ex_getR (u_k24 f), rfk f 36 rfl, rf_some]
theorem u_rf24_8 (f : Fr h) : Ex sc D k ((.checkcast 3, 8) :: is) ls (.ref 24 :: st) h Q = Ex sc D k is ls (.ref 29 :: st) h Q := by rw [ex_getR (u_k24 f), rfk f 37 rfl, rf_some]
theorem u_rf24_9 (f : Fr h) : Ex sc D k ((.checkcast 3, 9) :: is) ls (.ref 24 :: st) h Q = Ex sc D k is ls (.ref 30 :: st) h Q := by rw [ex_getR (u_k24 f), rfk f 38 rfl, rf_some]
theorem u_rf33_0 (f : Fr h) : Ex sc D k ((.checkcast 4, 0) :: is) ls (.ref 33 :: st) h Q = Ex sc D k is ls (.ref 34 :: st) h Q := by rw [ex_getR (u_k33 f), rfk f 39 rfl, rf_some]
theorem u_rf33_1 (f : Fr h) : Ex sc D k ((.checkcast 4, 1) :: is) ls (.ref 33 :: st) h Q = Ex sc D k is ls (.ref 35 :: st) h Q := by rw [ex_getR (u_k33 f), rfk f 40 rfl, rf_some]
theorem u_rf36_0 (f : Fr h) : Ex sc D k ((.checkcast 1, 0) :: is) ls (.ref 36 :: st) h Q = Ex sc D k is ls (.ref 37 :: st) h Q := by rw [ex_getR (u_k36 f), rfk f 41 rfl, rf_some]
theorem u_rf36_1 (f : Fr h) : Ex sc D k ((.checkcast 1, 1) :: is) ls (.ref 36 :: st) h Q = Ex sc D k is ls (.ref 55 :: st) h Q := by rw [ex_getR (u_k36 f), rfk f 42 rfl, rf_some]
theorem u_rf36_2 (f : Fr h) : Ex sc D k ((.checkcast 1, 2) :: is) ls (.ref 36 :: st) h Q = Ex sc D k is ls (.ref 59 :: st) h Q := by rw [ex_getR (u_k36 f), rfk f 43 rfl, rf_some]
theorem u_rf36_3 (f : Fr h) : Ex sc D k ((.checkcast 1, 3) :: is) ls (.ref 36 :: st) h Q = Ex sc D k is ls (.ref 60 :: st) h Q := by rw [ex_getR (u_k36 f), rfk f 44 rfl, rf_some]
theorem u_rf36_4 (f : Fr h) : Ex sc D k ((.checkcast 1, 4) :: is) ls (.ref 36 :: st) h Q = Ex sc D k is ls (.ref 61 :: st) h Q := by rw [ex_getR (u_k36 f), rfk f 45 rfl, rf_some]
theorem u_rf36_5 (f : Fr h) : Ex sc D k ((.checkcast 1, 5) :: is) ls (.ref 36 :: st) h Q = Ex sc D k is ls (.ref 62 :: st) h Q := by rw [ex_getR (u_k36 f), rfk f 46 rfl, rf_some]
theorem u_rf36_6 (f : Fr h) : Ex sc D k ((.checkcast 1, 6) :: is) ls (.ref 36 :: st) h Q = Ex sc D k is ls (.ref 63 :: st) h Q := by rw [ex_getR (u_k36 f), rfk f 47 rfl, rf_some]
theorem u_rf36_7 (f : Fr h) : Ex sc D k ((.checkcast 1, 7) :: is) ls (.ref 36 :: st) h Q = Ex sc D k is ls (.ref 64 :: st) h Q := by rw [ex_getR (u_k36 f), rfk f 48 rfl, rf_some]
theorem u_rf36_8 (f : Fr h) : Ex sc D k ((.checkcast 1, 8) :: is) ls (.ref 36 :: st) h Q = Ex sc D k is ls (.ref 65 :: st) h Q := by rw [ex_getR (u_k36 f), rfk f 49 rfl, rf_some]
theorem u_rf37_1 (f : Fr h) : Ex sc D k ((.checkcast 9, 1) :: is) ls (.ref 37 :: st) h Q = Ex sc D k is ls (.ref 38 :: st) h Q := by rw [ex_getR (u_k37 f), rfk f 50 rfl, rf_some]
theorem u_rf37_2 (f : Fr h) : Ex sc D k ((.checkcast 9, 2) :: is) ls (.ref 37 :: st) h Q = Ex sc D k is ls (.ref 39 :: st) h Q := by rw [ex_getR (u_k37 f), rfk f 51 rfl, rf_some]
theorem u_rf37_3 (f : Fr h) : Ex sc D k ((.checkcast 9, 3) :: is) ls (.ref 37 :: st) h Q = Ex sc D k is ls (.ref 40 :: st) h Q := by rw [ex_getR (u_k37 f), rfk f 52 rfl, rf_some]
theorem u_rf37_5 (f : Fr h) : Ex sc D k ((.checkcast 9, 5) :: is) ls (.ref 37 :: st) h Q = Ex sc D k is ls (.ref 41 :: st) h Q := by rw [ex_getR (u_k37 f), rfk f 53 rfl, rf_some]
theorem u_rf37_6 (f : Fr h) : Ex sc D k ((.checkcast 9, 6) :: is) ls (.ref 37 :: st) h Q = Ex sc D k is ls (.ref 45 :: st) h Q := by rw [ex_getR (u_k37 f), rfk f 54 rfl, rf_some]
theorem u_rf37_7 (f : Fr h) : Ex sc D k ((.checkcast 9, 7) :: is) ls (.ref 37 :: st) h Q = Ex sc D k is ls (.ref 49 :: st) h Q := by rw [ex_getR (u_k37 f), rfk f 55 rfl, rf_some]
theorem u_rf37_8 (f : Fr h) : Ex sc D k ((.checkcast 9, 8) :: is) ls (.ref 37 :: st) h Q = Ex sc D k is ls (.ref 50 :: st) h Q := by rw [ex_getR (u_k37 f), rfk f 56 rfl, rf_some]
theorem u_rf37_9 (f : Fr h) : Ex sc D k ((.checkcast 9, 9) :: is) ls (.ref 37 :: st) h Q = Ex sc D k is ls (.ref 51 :: st) h Q := by rw [ex_getR (u_k37 f), rfk f 57 rfl, rf_some]
theorem u_rf37_10 (f : Fr h) : Ex sc D k ((.checkcast 9, 10) :: is) ls (.ref 37 :: st) h Q = Ex sc D k is ls (.ref 52 :: st) h Q := by rw [ex_getR (u_k37 f), rfk f 58 rfl, rf_some]
theorem u_rf37_11 (f : Fr h) : Ex sc D k ((.checkcast 9, 11) :: is) ls (.ref 37 :: st) h Q = Ex sc D k is ls (.ref 53 :: st) h Q := by rw [ex_getR (u_k37 f), rfk f 59 rfl, rf_some]
theorem u_rf37_12 (f : Fr h) : Ex sc D k ((.checkcast 9, 12) :: is) ls (.ref 37 :: st) h Q = Ex sc D k is ls (.ref 54 :: st) h Q := by rw [ex_getR (u_k37 f), rfk f 60 rfl, rf_some]
theorem u_rf41_0 (f : Fr h) : Ex sc D k ((.checkcast 5, 0) :: is) ls (.ref 41 :: st) h Q = Ex sc D k is ls (.ref 42 :: st) h Q := by rw [ex_getR (u_k41 f), rfk f 61 rfl, rf_some]
theorem u_rf41_1 (f : Fr h) : Ex sc D k ((.checkcast 5, 1) :: is) ls (.ref 41 :: st) h Q = Ex sc D k is ls (.ref 43 :: st) h Q := by rw [ex_getR (u_k41 f), rfk f 62 rfl, rf_some]
theorem u_rf41_2 (f : Fr h) : Ex sc D k ((.checkcast 5, 2) :: is) ls (.ref 41 :: st) h Q = Ex sc D k is ls (.ref 44 :: st) h Q := by rw [ex_getR (u_k41 f), rfk f 63 rfl, rf_some]
theorem u_rf45_0 (f : Fr h) : Ex sc D k ((.checkcast 5, 0) :: is) ls (.ref 45 :: st) h Q = Ex sc D k is ls (.ref 46 :: st) h Q := by rw [ex_getR (u_k45 f), rfk f 64 rfl, rf_some]
theorem u_rf45_1 (f : Fr h) : Ex sc D k ((.checkcast 5, 1) :: is) ls (.ref 45 :: st) h Q = Ex sc D k is ls (.ref 47 :: st) h Q := by rw [ex_getR (u_k45 f), rfk f 65 rfl, rf_some]
theorem u_rf45_2 (f : Fr h) : Ex sc D k ((.checkcast 5, 2) :: is) ls (.ref 45 :: st) h Q = Ex sc D k is ls (.ref 48 :: st) h Q := by rw [ex_getR (u_k45 f), rfk f 66 rfl, rf_some]
theorem u_rf55_0 (f : Fr h) : Ex sc D k ((.checkcast 5, 0) :: is) ls (.ref 55 :: st) h Q = Ex sc D k is ls (.ref 56 :: st) h Q := by rw [ex_getR (u_k55 f), rfk f 67 rfl, rf_some]
theorem u_rf55_1 (f : Fr h) : Ex sc D k ((.checkcast 5, 1) :: is) ls (.ref 55 :: st) h Q = Ex sc D k is ls (.ref 57 :: st) h Q := by rw [ex_getR (u_k55 f), rfk f 68 rfl, rf_some]
theorem u_rf55_2 (f : Fr h) : Ex sc D k ((.checkcast 5, 2) :: is) ls (.ref 55 :: st) h Q = Ex sc D k is ls (.ref 58 :: st) h Q := by rw [ex_getR (u_k55 f), rfk f 69 rfl, rf_some]
theorem u_rf66_0 (f : Fr h) : Ex sc D k ((.checkcast 8, 0) :: is) ls (.ref 66 :: st) h Q = Ex sc D k is ls (.ref 67 :: st) h Q := by rw [ex_getR (u_k66 f), rfk f 70 rfl, rf_some]
theorem u_rf68_0 (f : Fr h) : Ex sc D k ((.checkcast 8, 0) :: is) ls (.ref 68 :: st) h Q = Ex sc D k is ls (.ref 69 :: st) h Q := by rw [ex_getR (u_k68 f), rfk f 71 rfl, rf_some]
theorem u_rf70_0 (f : Fr h) : Ex sc D k ((.checkcast 8, 0) :: is) ls (.ref 70 :: st) h Q = Ex sc D k is ls (.ref 71 :: st) h Q := by rw [ex_getR (u_k70 f), rfk f 72 rfl, rf_some]
theorem u_rf72_0 (f : Fr h) : Ex sc D k ((.checkcast 8, 0) :: is) ls (.ref 72 :: st) h Q = Ex sc D k is ls (.ref 73 :: st) h Q := by rw [ex_getR (u_k72 f), rfk f 73 rfl, rf_some]
theorem u_rf74_1 (f : Fr h) : Ex sc D k ((.checkcast 11, 1) :: is) ls (.ref 74 :: st) h Q = Ex sc D k is ls (.ref 75 :: st) h Q := by rw [ex_getR (u_k74 f), rfk f 74 rfl, rf_some]
theorem u_rf74_2 (f : Fr h) : Ex sc D k ((.checkcast 11, 2) :: is) ls (.ref 74 :: st) h Q = Ex sc D k is ls (.ref 76 :: st) h Q := by rw [ex_getR (u_k74 f), rfk f 75 rfl, rf_some]
theorem u_rf74_3 (f : Fr h) : Ex sc D k ((.checkcast 11, 3) :: is) ls (.ref 74 :: st) h Q = Ex sc D k is ls (.ref 77 :: st) h Q := by rw [ex_getR (u_k74 f), rfk f 76 rfl, rf_some]
theorem u_rf74_4 (f : Fr h) : Ex sc D k ((.checkcast 11, 4) :: is) ls (.ref 74 :: st) h Q = Ex sc D k is ls (.ref 78 :: st) h Q := by rw [ex_getR (u_k74 f), rfk f 77 rfl, rf_some]
theorem u_rf74_15 (f : Fr h) : Ex sc D k ((.checkcast 11, 15) :: is) ls (.ref 74 :: st) h Q = Ex sc D k is ls (.ref 1000001 :: st) h Q := by rw [ex_getR (u_k74 f), rfk f 78 rfl, rf_some]
theorem u_rf74_16 (f : Fr h) : Ex sc D k ((.checkcast 11, 16) :: is) ls (.ref 74 :: st) h Q = Ex sc D k is ls (.ref 1000002 :: st) h Q := by rw [ex_getR (u_k74 f), rfk f 79 rfl, rf_some]
theorem u_rf74_18 (f : Fr h) : Ex sc D k ((.checkcast 11, 18) :: is) ls (.ref 74 :: st) h Q = Ex sc D k is ls (.ref 79 :: st) h Q := by rw [ex_getR (u_k74 f), rfk f 80 rfl, rf_some]
theorem u_rf74_19 (f : Fr h) : Ex sc D k ((.checkcast 11, 19) :: is) ls (.ref 74 :: st) h Q = Ex sc D k is ls (.ref 80 :: st) h Q := by rw [ex_getR (u_k74 f), rfk f 81 rfl, rf_some]
theorem u_rf74_21 (f : Fr h) : Ex sc D k ((.checkcast 11, 21) :: is) ls (.ref 74 :: st) h Q = Ex sc D k is ls (.ref 81 :: st) h Q := by rw [ex_getR (u_k74 f), rfk f 82 rfl, rf_some]
theorem u_rf74_22 (f : Fr h) : Ex sc D k ((.checkcast 11, 22) :: is) ls (.ref 74 :: st) h Q = Ex sc D k is ls (.ref 82 :: st) h Q := by rw [ex_getR (u_k74 f), rfk f 83 rfl, rf_some]
theorem u_rf74_23 (f : Fr h) : Ex sc D k ((.checkcast 11, 23) :: is) ls (.ref 74 :: st) h Q = Ex sc D k is ls (.ref 83 :: st) h Q := by rw [ex_getR (u_k74 f), rfk f 84 rfl, rf_some]
theorem u_rf74_24 (f : Fr h) : Ex sc D k ((.checkcast 11, 24) :: is) ls (.ref 74 :: st) h Q = Ex sc D k is ls (.ref 84 :: st) h Q := by rw [ex_getR (u_k74 f), rfk f 85 rfl, rf_some]
theorem u_rf74_25 (f : Fr h) : Ex sc D k ((.checkcast 11, 25) :: is) ls (.ref 74 :: st) h Q = Ex sc D k is ls (.ref 85 :: st) h Q := by rw [ex_getR (u_k74 f), rfk f 86 rfl, rf_some]
theorem u_rf74_26 (f : Fr h) : Ex sc D k ((.checkcast 11, 26) :: is) ls (.ref 74 :: st) h Q = Ex sc D k is ls (.ref 86 :: st) h Q := by rw [ex_getR (u_k74 f), rfk f 87 rfl, rf_some]
theorem u_rf74_27 (f : Fr h) : Ex sc D k ((.checkcast 11, 27) :: is) ls (.ref 74 :: st) h Q = Ex sc D k is ls (.ref 87 :: st) h Q := by rw [ex_getR (u_k74 f), rfk f 88 rfl, rf_some]
theorem u_rf74_28 (f : Fr h) : Ex sc D k ((.checkcast 11, 28) :: is) ls (.ref 74 :: st) h Q = Ex sc D k is ls (.ref 88 :: st) h Q := by rw [ex_getR (u_k74 f), rfk f 89 rfl, rf_some]
theorem u_rf74_29 (f : Fr h) : Ex sc D k ((.checkcast 11, 29) :: is) ls (.ref 74 :: st) h Q = Ex sc D k is ls (.ref 89 :: st) h Q := by rw [ex_getR (u_k74 f), rfk f 90 rfl, rf_some]
theorem u_rf74_39 (f : Fr h) : Ex sc D k ((.checkcast 11, 39) :: is) ls (.ref 74 :: st) h Q = Ex sc D k is ls (.ref 90 :: st) h Q := by rw [ex_getR (u_k74 f), rfk f 91 rfl, rf_some]
theorem u_rf74_41 (f : Fr h) : Ex sc D k ((.checkcast 11, 41) :: is) ls (.ref 74 :: st) h Q = Ex sc D k is ls (.ref 91 :: st) h Q := by rw [ex_getR (u_k74 f), rfk f 92 rfl, rf_some]
theorem u_rf74_42 (f : Fr h) : Ex sc D k ((.checkcast 11, 42) :: is) ls (.ref 74 :: st) h Q = Ex sc D k is ls (.ref 92 :: st) h Q := by rw [ex_getR (u_k74 f), rfk f 93 rfl, rf_some]
theorem u_rf74_43 (f : Fr h) : Ex sc D k ((.checkcast 11, 43) :: is) ls (.ref 74 :: st) h Q = Ex sc D k is ls (.ref 93 :: st) h Q := by rw [ex_getR (u_k74 f), rfk f 94 rfl, rf_some]
theorem u_rf74_45 (f : Fr h) : Ex sc D k ((.checkcast 11, 45) :: is) ls (.ref 74 :: st) h Q = Ex sc D k is ls (.ref 94 :: st) h Q := by rw [ex_getR (u_k74 f), rfk f 95 rfl, rf_some]
theorem u_rf74_46 (f : Fr h) : Ex sc D k ((.checkcast 11, 46) :: is) ls (.ref 74 :: st) h Q = Ex sc D k is ls (.ref 95 :: st) h Q := by rw [ex_getR (u_k74 f), rfk f 96 rfl, rf_some]
end
