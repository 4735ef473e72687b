theorem i_cases (x : Int32) : x < 0 ∨ ∃ m, m < 2147483648 ∧ x = nI m := by
  by_cases h : x < 0
  · exact Or.inl h
  · right
    rw [Int32.lt_iff_toInt_lt] at h
    have h0 : (0 : Int32).toInt = 0 := by decide
    have hl := Int32.toInt_lt x
    refine ⟨x.toInt.toNat, by omega, ?_⟩
    rw [← Int32.toInt_inj, nI_toInt (by omega)]
    omega
-- conditions that are settled
theorem y_lt {a b : Nat} (h : a < b) (hb : b < 2147483648) : (nI a < nI b) = True := eq_true (nI_lt h hb)
theorem y_nlt {a b : Nat} (h : b ≤ a) (hb : a < 2147483648) : (nI a < nI b) = False := eq_false (nI_nlt h hb)
theorem y_le {a b : Nat} (h : a ≤ b) (hb : b < 2147483648) : (nI a ≤ nI b) = True := eq_true (nI_le h hb)
theorem y_nle {a b : Nat} (h : b < a) (hb : a < 2147483648) : (nI a ≤ nI b) = False := eq_false (nI_ge h hb)
theorem y_ne {a b : Nat} (h : a ≠ b) (ha : a < 2147483648) (hb : b < 2147483648) : (nI a = nI b) = False := eq_false (fun e => h ((nI_eq ha hb).mp e))
theorem y_eq {a b : Nat} (h : a = b) : (nI a = nI b) = True := eq_true (by rw [h])
theorem y_n0 {a : Nat} (h : 0 < a) (ha : a < 2147483648) : (nI a = 0) = False := eq_false (fun e => by rw [← nI_0, nI_eq ha (by omega)] at e; omega)
theorem y_00 : (nI 0 = 0) = True := eq_true nI_0
theorem y_l0 {a : Nat} (ha : a < 2147483648) : (nI a < 0) = False := eq_false (nI_pos ha)
theorem y_0l {a : Nat} (ha : a < 2147483648) : (0 ≤ nI a) = True := eq_true (nI_pos' ha)
theorem y_le0 {a : Nat} (h : 0 < a) (ha : a < 2147483648) : (nI a ≤ 0) = False := eq_false (nI_nle h ha)
theorem y_m1 {a : Nat} (ha : a < 2147483648) : (nI a = -1) = False := eq_false (fun e => m1_n a ha e.symm)
theorem y_m1' {a : Nat} (ha : a < 2147483648) : (-1 = nI a) = False := eq_false (m1_n a ha)
theorem y_ml : ((-1 : Int32) < 0) = True := eq_true (by decide)
theorem y_m0 : ((-1 : Int32) = 0) = False := eq_false (by decide)
theorem y_0m : ((0 : Int32) ≤ -1) = False := eq_false (by decide)
theorem y_mm : ((-1 : Int32) = -1) = True := eq_true rfl
theorem s_if {c d : Prop} [Decidable c] [Decidable d] {α : Type} {a b : α} (h : c = d) : (if c then a else b) = (if d then a else b) := by subst h; congr
theorem p1_m1 (x : Int32) : x + nI 1 - nI 1 = x := by
  rw [Int32.add_sub_cancel]
theorem t_of (n c nC : Nat) (M : MR) (hc : c < nC) (hn : nC ≤ 40) (h : M 0 0 = nI nC) : fR_of n (nI c) (nI 4) M = some (M 0 (20 + 180 * c + 7) - nI 1, M) := by
  unfold fR_of
  simp (disch := omega) only [r_isCell n M _ _ h, h, bnd_s, if_pos hc, y_n0, y_ne, y_eq, if_false, if_true, r_cellAt, nI_add, rd_at]
