-- ===== bits =====
def ub (w : Int32) (j : Nat) : Bool := w.toBitVec.getLsbD j
theorem b_sh1 : ∀ i, i < 16 → (nI 1 <<< (nI i &&& 31)) = nI (2 ^ i) := by decide +kernel
theorem b_tp : ∀ i, i < 16 → ∀ j, j < 16 → ub (nI (2 ^ i)) j = decide (j = i) := by decide +kernel
theorem b_sm : ∀ j, j < 16 → (nI j &&& 31).toBitVec.smod 32 = BitVec.ofNat 32 j := by decide +kernel
theorem b_um : ∀ j, j < 16 → ((Int32.toUInt32 (nI j) &&& Int32.toUInt32 31).toBitVec % 32) = BitVec.ofNat 32 j := by decide +kernel
theorem ub_0 {j : Nat} : ub (nI 0) j = false := by
  show (0#32).getLsbD j = false
  exact BitVec.getLsbD_zero
theorem ub_or {w : Int32} {i j : Nat} (hi : i < 16) (hj : j < 16) : ub (w ||| (nI 1 <<< (nI i &&& 31))) j = (ub w j || decide (j = i)) := by
  rw [b_sh1 i hi, ← b_tp i hi j hj]
  unfold ub
  rw [Int32.toBitVec_or, BitVec.getLsbD_or]
theorem bv_one (x : BitVec 32) : (x &&& 1#32 = 1#32) ↔ x.getLsbD 0 = true := by
  constructor
  · intro h
    have := congrArg (fun y => y.getLsbD 0) h
    simpa using this
  · intro h
    apply BitVec.eq_of_getLsbD_eq
    intro i hi
    by_cases h0 : i = 0
    · subst h0; simp [h]
    · simp [BitVec.getLsbD_one, h0]
theorem ub_u {w : Int32} {j : Nat} (hj : j < 16) : ((((Int32.toUInt32 w >>> (Int32.toUInt32 (nI j) &&& Int32.toUInt32 31)).toInt32) &&& (nI 1)) = (nI 1)) = (ub w j = true) := by
  refine propext ?_
  rw [← Int32.toBitVec_inj, Int32.toBitVec_and]
  show ((Int32.toUInt32 w >>> (Int32.toUInt32 (nI j) &&& Int32.toUInt32 31)).toBitVec &&& 1#32 = 1#32) ↔ _
  rw [bv_one, UInt32.toBitVec_shiftRight, b_um j hj]
  unfold ub
  show ((w.toBitVec >>> (BitVec.ofNat 32 j)).getLsbD 0 = true) ↔ _
  rw [BitVec.ushiftRight_eq', BitVec.getLsbD_ushiftRight]
  have : (BitVec.ofNat 32 j).toNat = j := by rw [BitVec.toNat_ofNat]; omega
  rw [this, Nat.add_zero]
theorem ub_s {w : Int32} {j : Nat} (hj : j < 16) : (((w >>> (nI j &&& 31)) &&& (nI 1)) = (nI 1)) = (ub w j = true) := by
  refine propext ?_
  rw [← Int32.toBitVec_inj, Int32.toBitVec_and]
  show ((w >>> (nI j &&& 31)).toBitVec &&& 1#32 = 1#32) ↔ _
  rw [bv_one, Int32.toBitVec_shiftRight, b_sm j hj]
  unfold ub
  rw [BitVec.sshiftRight_eq']
  have : (BitVec.ofNat 32 j).toNat = j := by rw [BitVec.toNat_ofNat]; omega
  rw [this, BitVec.getLsbD_sshiftRight]
  simp
  omega
theorem nI_adj {h t : Nat} (ht : t ≤ h) (hh : h < 2147483000) : nI h + (nI 1 - nI t) = nI (h + 1 - t) := by
  rw [show nI h + (nI 1 - nI t) = nI h + nI 1 - nI t from by rw [Int32.sub_eq_add_neg, Int32.sub_eq_add_neg, Int32.add_assoc], nI_add, pk_sub (by omega)]
theorem tkr_at {ρ : Type} {a : Nat} (ha : a ≤ 18) (K : Int32 → Option ρ) : tkr (nI a) K = K (nI (tks a)) := by
  unfold tkr
  rw [nI_clamp (by omega), if_neg (by rintro (h1 | h1); exact nI_pos (by omega) h1; omega)]
  congr 1
  have : a = 0 ∨ a = 1 ∨ a = 2 ∨ a = 3 ∨ a = 4 ∨ a = 5 ∨ a = 6 ∨ a = 7 ∨ a = 8 ∨ a = 9 ∨ a = 10 ∨ a = 11 ∨ a = 12 ∨ a = 13 ∨ a = 14 ∨ a = 15 ∨ a = 16 ∨ a = 17 ∨ a = 18 := by omega
  rcases this with rfl | rfl | rfl | rfl | rfl | rfl | rfl | rfl | rfl | rfl | rfl | rfl | rfl | rfl | rfl | rfl | rfl | rfl | rfl <;> rfl
theorem r_takes (n : Nat) (M : MR) {a : Nat} (ha : a ≤ 18) : fR_takes n (nI a) M = some (nI (tks a), M) := by
  have : a = 0 ∨ a = 1 ∨ a = 2 ∨ a = 3 ∨ a = 4 ∨ a = 5 ∨ a = 6 ∨ a = 7 ∨ a = 8 ∨ a = 9 ∨ a = 10 ∨ a = 11 ∨ a = 12 ∨ a = 13 ∨ a = 14 ∨ a = 15 ∨ a = 16 ∨ a = 17 ∨ a = 18 := by omega
  unfold fR_takes
  rcases this with rfl | rfl | rfl | rfl | rfl | rfl | rfl | rfl | rfl | rfl | rfl | rfl | rfl | rfl | rfl | rfl | rfl | rfl | rfl <;>
  · simp (disch := omega) only [y_lt, y_nlt, y_le, y_nle, y_ne, y_eq, y_n0, y_00, y_l0, y_0l, y_le0, y_m1, y_m1', y_ml, y_m0, y_0m, y_mm, y_lem, y_mle, ↓reduceIte, if_true, if_false]
    rfl
theorem r_hasInt (n : Nat) (M : MR) {a : Nat} (ha : a ≤ 18) : fR_hasInt n (nI a) M = some (if a ≤ 7 then nI 1 else nI 0, M) := by
  unfold fR_hasInt
  by_cases h : a ≤ 7
  · simp (disch := omega) only [y_lt, y_nlt, y_le, y_nle, y_ne, y_eq, y_n0, y_00, y_l0, y_0l, y_le0, y_m1, y_m1', y_ml, y_m0, y_0m, y_mm, y_lem, y_mle, ↓reduceIte, if_true, if_false, zt_1, h]
  · simp (disch := omega) only [y_lt, y_nlt, y_le, y_nle, y_ne, y_eq, y_n0, y_00, y_l0, y_0l, y_le0, y_m1, y_m1', y_ml, y_m0, y_0m, y_mm, y_lem, y_mle, ↓reduceIte, if_true, if_false, zt_0, h]
