-- ===== the reference's leaves =====
theorem rd_at {ρ : Type} {M : MR} {j len i : Nat} (h : i < len) (hl : len < 2147483648) (K : Int32 → Option ρ) : rd M j len (nI i) K = K (M j i) := by
  unfold rd
  rw [nI_clamp (by omega), if_neg (by rintro (h1 | h1); exact nI_pos (by omega) h1; omega)]
theorem wr_at {ρ : Type} {M : MR} {j len i : Nat} {v : Int32} (h : i < len) (hl : len < 2147483648) (K : MR → Option ρ) : wr M j len (nI i) v K = K (mS M j i v) := by
  unfold wr
  rw [nI_clamp (by omega), if_neg (by rintro (h1 | h1); exact nI_pos (by omega) h1; omega)]
theorem nar_bo {v : Int32} (h : bo v) : vp_nar .boolean v = v := by
  rcases h with rfl | rfl <;> decide +kernel
theorem wz_at {ρ : Type} {M : MR} {j len i : Nat} {v : Int32} (hv : bo v) (h : i < len) (hl : len < 2147483648) (K : MR → Option ρ) : wz M j len (nI i) v K = K (mS M j i v) := by
  unfold wz
  rw [nI_clamp (by omega), if_neg (by rintro (h1 | h1); exact nI_pos (by omega) h1; omega), nar_bo hv]
theorem bo_0 : bo (nI 0) := Or.inl nI_0
theorem bo_1 : bo (nI 1) := Or.inr (by decide)
theorem zt_b {ρ : Type} {v : Int32} (h : bo v) (F : Option ρ) : zt v F = F := by
  rcases h with rfl | rfl
  · exact zt_0 F
  · exact zt_1 F
theorem n1_0 : ¬ nI 1 = (0 : Int32) := by decide
theorem n0_0 : nI 0 = (0 : Int32) := nI_0
section RL1
variable (n : Nat) (M : MR)
theorem r_cellAt (c : Nat) : fR_cellAt n (nI c) M = some (nI (20 + 180 * c), M) := by
  unfold fR_cellAt
  rw [pk_mul, nI_add]
theorem r_editAt (c : Nat) : fR_editAt n (nI c) M = some (nI (7220 + 70 * c), M) := by
  unfold fR_editAt
  rw [pk_mul, nI_add]
theorem r_objAt (c : Nat) : fR_objAt n (nI c) M = some (nI (17720 + 21 * c), M) := by
  unfold fR_objAt
  rw [pk_mul, nI_add]
theorem r_isName {j : Nat} (hj : j < 2147483648) : fR_isName n (nI j) M = some (if j < 16 then nI 1 else nI 0, M) := by
  unfold fR_isName
  rw [if_neg (nI_pos hj), zt_0, zt_1]
  by_cases h : j < 16
  · rw [if_neg (nI_ge h (by omega)), if_pos h]
  · rw [if_pos (nI_le (a := 16) (by omega) hj), if_neg h]
theorem r_isName_n {x : Int32} (hx : x < 0) : fR_isName n x M = some (nI 0, M) := by
  unfold fR_isName
  rw [if_pos hx, zt_0]
theorem r_isCell {c nC : Nat} (hc : c < 2147483648) (hN : nC < 2147483648) (h : M 0 0 = nI nC) : fR_isCell n (nI c) M = some (if c < nC then nI 1 else nI 0, M) := by
  unfold fR_isCell
  rw [if_neg (nI_pos hc), rd_at (by decide) (by decide)]
  rw [h, zt_0, zt_1]
  by_cases h1 : c < nC
  · rw [if_neg (nI_ge h1 hN), if_pos h1]
  · rw [if_pos (nI_le (a := nC) (by omega) hc), if_neg h1]
theorem r_isCell_n {x : Int32} (hx : x < 0) : fR_isCell n x M = some (nI 0, M) := by
  unfold fR_isCell
  rw [if_pos hx, zt_0]
theorem r_isEdition {c nC : Nat} (hc : c < 2147483648) (hN : nC < 2147483648) (h : M 0 1 = nI nC) : fR_isEdition n (nI c) M = some (if c < nC then nI 1 else nI 0, M) := by
  unfold fR_isEdition
  rw [if_neg (nI_pos hc), rd_at (by decide) (by decide)]
  rw [h, zt_0, zt_1]
  by_cases h1 : c < nC
  · rw [if_neg (nI_ge h1 hN), if_pos h1]
  · rw [if_pos (nI_le (a := nC) (by omega) hc), if_neg h1]
theorem r_isEdition_n {x : Int32} (hx : x < 0) : fR_isEdition n x M = some (nI 0, M) := by
  unfold fR_isEdition
  rw [if_pos hx, zt_0]
theorem r_isObject {c nC : Nat} (hc : c < 2147483648) (hN : nC < 2147483648) (h : M 0 2 = nI nC) : fR_isObject n (nI c) M = some (if c < nC then nI 1 else nI 0, M) := by
  unfold fR_isObject
  rw [if_neg (nI_pos hc), rd_at (by decide) (by decide)]
  rw [h, zt_0, zt_1]
  by_cases h1 : c < nC
  · rw [if_neg (nI_ge h1 hN), if_pos h1]
  · rw [if_pos (nI_le (a := nC) (by omega) hc), if_neg h1]
theorem r_isObject_n {x : Int32} (hx : x < 0) : fR_isObject n x M = some (nI 0, M) := by
  unfold fR_isObject
  rw [if_pos hx, zt_0]
theorem r_newest {j : Nat} (hj : j < 16) : fR_newest n (nI j) M = some (M 0 (4 + j) - nI 1, M) := by
  unfold fR_newest
  rw [r_isName n M (by omega), if_pos hj, bnd_s]
  rw [if_neg n1_0, nI_add, rd_at (by omega) (by decide)]
theorem r_newest_o {x : Int32} (hx : x < 0 ∨ nI 16 ≤ x) : fR_newest n x M = some (-1, M) := by
  unfold fR_newest
  have e : fR_isName n x M = some (nI 0, M) := by
    unfold fR_isName
    by_cases h0 : x < 0
    · rw [if_pos h0, zt_0]
    · rw [if_neg h0, if_pos (hx.resolve_left h0), zt_0]
  rw [e, bnd_s, if_pos n0_0]
theorem r_textOf {e k : Nat} (he : e < 150) (hk : k < 62) : fR_textOf n (nI e) (nI k) M = some (M 0 (7228 + 70 * e + k), M) := by
  unfold fR_textOf
  rw [r_editAt, bnd_s, nI_add, nI_add, rd_at (by omega) (by decide)]
  rw [show 7220 + 70 * e + 8 + k = 7228 + 70 * e + k by omega]
theorem r_parentOf {e : Nat} (he : e < 150) : fR_parentOf n (nI e) M = some (M 0 (7228 + 70 * e), M) := by
  unfold fR_parentOf
  rw [r_textOf n M he (by decide), bnd_s]
  rfl
theorem r_lengthOf {e : Nat} (he : e < 150) : fR_lengthOf n (nI e) M = some (M 0 (7227 + 70 * e), M) := by
  unfold fR_lengthOf
  rw [r_editAt, bnd_s, nI_add, rd_at (by omega) (by decide)]
  rw [show 7220 + 70 * e + 7 = 7227 + 70 * e by omega]
theorem r_isClass {e nE : Nat} (he : e < 150) (hN : nE ≤ 150) (h : M 0 1 = nI nE) : fR_isClass n (nI e) M = some (if e < nE ∧ M 0 (7221 + 70 * e) = nI 1 then nI 1 else nI 0, M) := by
  unfold fR_isClass
  rw [r_isEdition n M (by omega) (by omega) h, bnd_s]
  by_cases h1 : e < nE
  · rw [if_pos h1, if_neg n1_0, r_editAt, bnd_s, nI_add, rd_at (by omega) (by decide), zt_0, zt_1, show 7220 + 70 * e + 1 = 7221 + 70 * e by omega]
    by_cases h2 : M 0 (7221 + 70 * e) = nI 1
    · rw [if_pos h2, if_pos ⟨h1, h2⟩]
    · rw [if_neg h2, if_neg (fun h => h2 h.2)]
  · rw [if_neg h1, if_pos n0_0, zt_0, if_neg (fun h => h1 h.1)]
end RL1
