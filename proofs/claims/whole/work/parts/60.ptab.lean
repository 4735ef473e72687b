-- ===== the Table as a thing with R rows of w ints =====
def tOk (w mo : Nat) (T : CS) (R : Nat) : Prop := T.1 0 0 = nI w ∧ T.1 1 0 = nI mo ∧ T.1 3 0 = nI R ∧ R ≤ mo ∧ R * w ≤ T.2 0 ∧ T.2 0 < 67108864 ∧ 1 ≤ w ∧ w < 1000 ∧ mo * w < 67108864 ∧ mo < 10000
theorem zt_0 {ρ : Type} (F : Option ρ) : zt (nI 0) F = F := by rw [zt, if_pos (by decide)]
theorem zt_1 {ρ : Type} (F : Option ρ) : zt (nI 1) F = F := by rw [zt, if_neg (by decide), if_pos (by decide)]
theorem bnd_s {α β ρ : Type} (a : α) (b : β) (K : α → β → Option ρ) : bnd (some (a, b)) K = K a b := rfl
section PT
variable {w mo R : Nat} {T : CS} (n : Nat)
theorem p_size (h : tOk w mo T R) : f2_size n T = some (nI R, T) := by
  unfold f2_size cg
  dsimp only
  rw [h.2.2.1]
theorem p_has (h : tOk w mo T R) {r : Nat} (hr : r < 2147483648) : f2_has n (nI r) T = some (if r < R then nI 1 else nI 0, T) := by
  have hR : R < 10000 := by have := h.2.2.2.1; have := h.2.2.2.2.2.2.2.2.2; omega
  unfold f2_has cg
  dsimp only
  rw [if_neg (nI_pos hr), h.2.2.1, zt_0, zt_1]
  by_cases hc : r < R
  · rw [if_neg (nI_ge hc (by omega)), if_pos hc]
  · rw [if_pos (nI_le (a := R) (b := r) (by omega) hr), if_neg hc]
theorem p_has_n {x : Int32} (hx : x < 0) : f2_has n x T = some (nI 0, T) := by
  unfold f2_has
  rw [if_pos hx, zt_0]
theorem p_at (h : tOk w mo T R) {r c : Nat} (hr : r < R) (hc : c < w) : r * w + c < T.2 0 ∧ r < 10000 ∧ c < 1000 ∧ r * w < 67108864 := by
  obtain ⟨-, -, -, h4, h5, h6, h7, h8, h9, h10⟩ := h
  have h11 : (r + 1) * w ≤ R * w := Nat.mul_le_mul_right w hr
  rw [Nat.succ_mul] at h11
  exact ⟨by omega, by omega, by omega, by omega⟩
theorem p_get (h : tOk w mo T R) {r c : Nat} (hr : r < R) (hc : c < w) : f2_get n (nI r) (nI c) T = some (T.1 2 (r * w + c), T) := by
  obtain ⟨a1, a2, a3, a4⟩ := p_at h hr hc
  have hR : R < 10000 := by have := h.2.2.2.1; have := h.2.2.2.2.2.2.2.2.2; omega
  have hw := h.2.2.2.2.2.2.2.1
  have hcp := h.2.2.2.2.2.1
  unfold f2_get cg tl cr
  dsimp only
  rw [if_neg (nI_pos (by omega)), h.2.2.1, if_neg (nI_ge hr (by omega)), if_neg (nI_pos (by omega)), h.1, if_pos (nI_lt hc (by omega)), pk_mul, nI_add]
  rw [if_neg (show ¬ Int32.ofNat (T.2 0) ≤ nI (r * w + c) from nI_ge a1 (by omega)), nI_clamp (by omega), if_neg (by rintro (h | h); exact nI_pos (by omega) h; omega)]
theorem p_get_o (h : tOk w mo T R) {x y : Int32} (hx : x < 0 ∨ nI R ≤ x) : f2_get n x y T = some (nI 0, T) := by
  unfold f2_get cg
  dsimp only
  rw [h.2.2.1]
  by_cases h0 : x < 0
  · rw [if_pos h0]
  · rw [if_neg h0, if_pos (hx.resolve_left h0)]
theorem p_set (h : tOk w mo T R) {r c : Nat} (v : Int32) (hr : r < R) (hc : c < w) : f2_set n (nI r) (nI c) v T = some (0, (mS T.1 2 (r * w + c) v, T.2)) := by
  obtain ⟨a1, a2, a3, a4⟩ := p_at h hr hc
  have hR : R < 10000 := by have := h.2.2.2.1; have := h.2.2.2.2.2.2.2.2.2; omega
  have hw := h.2.2.2.2.2.2.2.1
  have hcp := h.2.2.2.2.2.1
  unfold f2_set cg tl cw
  dsimp only
  rw [if_neg (nI_pos (by omega)), h.2.2.1, if_neg (nI_ge hr (by omega)), if_neg (nI_pos (by omega)), h.1, if_pos (nI_lt hc (by omega)), pk_mul, nI_add]
  rw [if_neg (show ¬ Int32.ofNat (T.2 0) ≤ nI (r * w + c) from nI_ge a1 (by omega)), nI_clamp (by omega), if_neg (by rintro (h | h); exact nI_pos (by omega) h; omega)]
theorem p_set_o (h : tOk w mo T R) {x y v : Int32} (hx : x < 0 ∨ nI R ≤ x) : f2_set n x y v T = some (0, T) := by
  unfold f2_set cg
  dsimp only
  rw [h.2.2.1]
  by_cases h0 : x < 0
  · rw [if_pos h0]
  · rw [if_neg h0, if_pos (hx.resolve_left h0)]
theorem tOk_set (h : tOk w mo T R) (i : Nat) (v : Int32) : tOk w mo (mS T.1 2 i v, T.2) R := h
theorem p_clear : f2_clear n T = some (0, (mS T.1 3 0 (nI 0), T.2)) := rfl
theorem tOk_rows (h : tOk w mo T R) {R' : Nat} (h' : R' ≤ R) : tOk w mo (mS T.1 3 0 (nI R'), T.2) R' := by
  obtain ⟨h1, h2, h3, h4, h5, h6, h7, h8, h9, h10⟩ := h
  exact ⟨h1, h2, rfl, Nat.le_trans h' h4, Nat.le_trans (Nat.mul_le_mul_right w h') h5, h6, h7, h8, h9, h10⟩
theorem p_drop (h : tOk w mo T (R + 1)) : f2_dropLast n T = some (0, (mS T.1 3 0 (nI R), T.2)) := by
  have hR : R + 1 < 10000 := by have := h.2.2.2.1; have := h.2.2.2.2.2.2.2.2.2; omega
  unfold f2_dropLast cg cp
  dsimp only
  rw [h.2.2.1, if_neg (nI_nle (by omega) (by omega)), pk_sub (by omega)]
  rfl
theorem p_drop0 (h : tOk w mo T 0) : f2_dropLast n T = some (0, T) := by
  unfold f2_dropLast cg
  dsimp only
  rw [h.2.2.1, if_pos (by decide)]
end PT
