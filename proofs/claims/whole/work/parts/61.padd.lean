-- ===== Table.add =====
def adN (w mo : Nat) (T : CS) (R : Nat) : Nat := max ((R + 1) * w) (min (2 * T.2 0) (mo * w))
def ad1 (w mo : Nat) (T : CS) (R : Nat) : CS := if (R + 1) * w ≤ T.2 0 then T else gr T (nI (adN w mo T R))
def adT (w mo : Nat) (T : CS) (R : Nat) : CS := (mS (fl (ad1 w mo T R) (R * w) ((R + 1) * w) 0).1 3 0 (nI (R + 1)), (ad1 w mo T R).2)
theorem aIn_fl (S : CS) (lo hi : Nat) (v : Int32) : aIn S (fl S lo hi v) = fl S lo hi v := by
  unfold aIn fl
  refine Prod.ext ?_ ?_
  · funext a b
    dsimp only
    by_cases ha : a = 2
    · subst ha; simp
    · simp [ha]
  · funext i
    dsimp only
    by_cases h0 : i = 0
    · subst h0; simp
    · by_cases h1 : i = 1
      · subst h1; simp
      · by_cases h2 : i = 2
        · subst h2; simp
        · simp [h0, h1, h2]
theorem nI_mn {a b : Nat} (ha : a < 2 ^ 31) (hb : b < 2 ^ 31) : (if nI a < nI b then nI a else nI b) = nI (min b a) := by
  by_cases h : a < b
  · rw [if_pos (nI_lt h hb), Nat.min_eq_right (by omega)]
  · rw [if_neg (nI_nlt (by omega) ha), Nat.min_eq_left (by omega)]
theorem nI_mx {a b : Nat} (ha : a < 2 ^ 31) (hb : b < 2 ^ 31) : (if nI a < nI b then nI b else nI a) = nI (max a b) := by
  by_cases h : a < b
  · rw [if_pos (nI_lt h hb), Nat.max_eq_right (by omega)]
  · rw [if_neg (nI_nlt (by omega) ha), Nat.max_eq_left (by omega)]
section PA
variable {w mo R : Nat} {T : CS} (n : Nat)
theorem p_add73 (h3 : T.1 3 0 = nI R) (hc : R * w + w ≤ T.2 0) (hcp : T.2 0 < 67108864) (hn : w < n) : f2_add_b73 n (nI (R * w)) (nI (R * w + w)) T = some (nI R, (mS (fl T (R * w) (R * w + w) 0).1 3 0 (nI (R + 1)), T.2)) := by
  unfold f2_add_b73
  rw [show nI 0 = (0 : Int32) from nI_0, fill_part n (R * w) (R * w + w) 0 T (by omega) hc (by omega) (by omega)]
  unfold bA
  dsimp only
  rw [aIn_fl]
  unfold cg cp
  dsimp only
  have e : (fl T (R * w) (R * w + w) 0).1 3 0 = nI R := h3
  rw [e, nI_add]
  have e2 : (mS (fl T (R * w) (R * w + w) 0).1 3 0 (nI (R + 1))) 3 0 = nI (R + 1) := rfl
  rw [e2, pk_sub (by omega)]
  rfl
theorem p_adN (h : tOk w mo T R) (hR : R < mo) : adN w mo T R ≤ mo * w ∧ (R + 1) * w ≤ adN w mo T R ∧ (R + 1) * w ≤ mo * w := by
  have h1 : (R + 1) * w ≤ mo * w := Nat.mul_le_mul_right w hR
  unfold adN
  refine ⟨Nat.max_le.mpr ⟨h1, Nat.min_le_right _ _⟩, Nat.le_max_left _ _, h1⟩
theorem p_add (h : tOk w mo T R) (hR : R < mo) (hn : w < n) : f2_add n T = some (nI R, adT w mo T R) := by
  obtain ⟨b1, b2, b3⟩ := p_adN h hR
  obtain ⟨h1, h2, h3, h4, h5, h6, h7, h8, h9, h10⟩ := id h
  have hs : (R + 1) * w = R * w + w := Nat.succ_mul R w
  unfold f2_add cg tl
  dsimp only
  rw [h3, h2, if_pos (nI_lt hR (by omega)), h1, pk_mul, nI_add]
  unfold adT ad1
  by_cases hf : (R + 1) * w ≤ T.2 0
  · rw [if_pos (show nI (R * w + w) ≤ Int32.ofNat (T.2 0) from nI_le (by omega) (by omega)), if_pos hf, hs]
    exact p_add73 n h3 (by omega) h6 hn
  · rw [if_neg (show ¬ nI (R * w + w) ≤ Int32.ofNat (T.2 0) from nI_ge (b := R * w + w) (a := T.2 0) (by omega) (by omega)), if_neg hf, pk_mul, show nI 2 * Int32.ofNat (T.2 0) = nI (2 * T.2 0) from pk_mul 2 (T.2 0)]
    rw [nI_mn (by omega) (by omega), nI_mx (by omega) (by omega)]
    have hN : max (R * w + w) (min (2 * T.2 0) (mo * w)) = adN w mo T R := by unfold adN; rw [hs]
    rw [hN]
    unfold cpo
    rw [if_pos ⟨show Int32.ofNat (T.2 0) < nI (adN w mo T R) from nI_lt (a := T.2 0) (by omega) (by omega), by rw [nI_clamp (by omega)]; omega, by omega⟩]
    have e3 : (gr T (nI (adN w mo T R))).2 0 = adN w mo T R := nI_clamp (by omega)
    rw [hs]
    exact p_add73 n (T := gr T (nI (adN w mo T R))) h3 (by rw [e3]; omega) (by rw [e3]; omega) hn
theorem p_addF (h : tOk w mo T mo) : f2_add n T = some (-1, T) := by
  obtain ⟨h1, h2, h3, h4, h5, h6, h7, h8, h9, h10⟩ := id h
  unfold f2_add cg
  dsimp only
  rw [h3, h2, if_neg (nI_nlt (Nat.le_refl mo) (by omega))]
theorem tOk_add (h : tOk w mo T R) (hR : R < mo) : tOk w mo (adT w mo T R) (R + 1) := by
  obtain ⟨b1, b2, b3⟩ := p_adN h hR
  obtain ⟨h1, h2, h3, h4, h5, h6, h7, h8, h9, h10⟩ := id h
  have hs : (R + 1) * w = R * w + w := Nat.succ_mul R w
  have hcap : (R + 1) * w ≤ (ad1 w mo T R).2 0 ∧ (ad1 w mo T R).2 0 < 67108864 ∧ (ad1 w mo T R).1 0 0 = nI w ∧ (ad1 w mo T R).1 1 0 = nI mo := by
    unfold ad1
    by_cases hf : (R + 1) * w ≤ T.2 0
    · rw [if_pos hf]; exact ⟨hf, h6, h1, h2⟩
    · rw [if_neg hf]
      have e3 : (gr T (nI (adN w mo T R))).2 0 = adN w mo T R := nI_clamp (by omega)
      rw [e3]
      exact ⟨b2, by omega, h1, h2⟩
  exact ⟨hcap.2.2.1, hcap.2.2.2, rfl, hR, hcap.1, hcap.2.1, h7, h8, h9, h10⟩
/-- what a row of the grown table holds: the old rows, and a row of noughts -/
theorem adT_at (h : tOk w mo T R) (hR : R < mo) {r c : Nat} (hc : c < w) (hr : r ≤ R) : (adT w mo T R).1 2 (r * w + c) = if r < R then T.1 2 (r * w + c) else 0 := by
  obtain ⟨h1, h2, h3, h4, h5, h6, h7, h8, h9, h10⟩ := id h
  have hs : (R + 1) * w = R * w + w := Nat.succ_mul R w
  show (fl (ad1 w mo T R) (R * w) ((R + 1) * w) 0).1 2 (r * w + c) = _
  show (if R * w ≤ r * w + c ∧ r * w + c < (R + 1) * w then (0 : Int32) else (ad1 w mo T R).1 2 (r * w + c)) = _
  by_cases hrR : r < R
  · have h11 : (r + 1) * w ≤ R * w := Nat.mul_le_mul_right w hrR
    rw [Nat.succ_mul] at h11
    rw [if_neg (by omega), if_pos hrR]
    unfold ad1
    by_cases hf : (R + 1) * w ≤ T.2 0
    · rw [if_pos hf]
    · rw [if_neg hf]
      show cpf T (r * w + c) = _
      unfold cpf
      rw [pk_cpy_in (Nat.zero_le _) (by omega)]
      simp
  · have : r = R := by omega
    subst this
    rw [if_pos (by omega), if_neg hrR]
end PA
