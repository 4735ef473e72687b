-- ===== the class's leaves =====
theorem cr_at {ρ : Type} {S : CS} {j len i : Nat} (h : i < len) (hl : len < 2147483648) (K : Int32 → Option ρ) : cr S j len (nI i) K = K (S.1 j i) := by
  unfold cr
  rw [nI_clamp (by omega), if_neg (by rintro (h1 | h1); exact nI_pos (by omega) h1; omega)]
theorem cw_at {ρ : Type} {S : CS} {j len i : Nat} {v : Int32} (h : i < len) (hl : len < 2147483648) (K : CS → Option ρ) : cw S j len (nI i) v K = K (mS S.1 j i v, S.2) := by
  unfold cw
  rw [nI_clamp (by omega), if_neg (by rintro (h1 | h1); exact nI_pos (by omega) h1; omega)]
section CL1
variable (n : Nat) (S : CS)
theorem k_isName' {j : Nat} (hj : j < 2147483648) : f4_isName n (nI j) S = some (if j < 16 then nI 1 else nI 0, S) := by
  unfold f4_isName
  rw [if_neg (nI_pos hj), zt_0, zt_1]
  by_cases h : j < 16
  · rw [if_neg (nI_ge h (by omega)), if_pos h]
  · rw [if_pos (nI_le (a := 16) (by omega) hj), if_neg h]
theorem q_isName_o {x : Int32} (hx : x < 0 ∨ nI 16 ≤ x) : f4_isName n x S = some (nI 0, S) := by
  unfold f4_isName
  by_cases h0 : x < 0
  · rw [if_pos h0, zt_0]
  · rw [if_neg h0, if_pos (hx.resolve_left h0), zt_0]
theorem q_newestOf {j : Nat} (hj : j < 16) : f0_newestOf n (nI j) S = some (S.1 20 j, S) := by
  unfold f0_newestOf
  rw [k_isName' n S (by omega), if_pos hj, bnd_s, if_neg n1_0, cr_at hj (by decide)]
theorem q_newestOf_o {x : Int32} (hx : x < 0 ∨ nI 16 ≤ x) : f0_newestOf n x S = some (-1, S) := by
  unfold f0_newestOf
  rw [q_isName_o n S hx, bnd_s, if_pos n0_0]
theorem q_dropNewest {j : Nat} (hj : j < 16) : f0_dropNewest n (nI j) S = some (if S.1 20 j = -1 then nI 0 else nI 1, if S.1 20 j = -1 then S else (mS S.1 20 j (-1), S.2)) := by
  unfold f0_dropNewest
  rw [q_newestOf n S hj, bnd_s]
  by_cases h : S.1 20 j = -1
  · rw [if_pos h, if_pos h, if_pos h, zt_0]
  · rw [if_neg h, if_neg h, if_neg h, k_isName' n S (by omega), if_pos hj, bnd_s, if_neg n1_0, cw_at hj (by decide), zt_1]
variable {S} {nC nE nO : Nat}
theorem q_isFull (h : sOk S 6 nE) : f0_isFullOfEditions n S = some (if nE < 150 then nI 0 else nI 1, S) := by
  have hE : nE ≤ 150 := (sOk_iff.mp h).2.2.2.1
  unfold f0_isFullOfEditions
  rw [b_size n (by decide) h, zt_0, zt_1]
  by_cases h1 : nE < 150
  · rw [if_pos (nI_lt h1 (by decide)), if_pos h1]
  · rw [if_neg (nI_nlt (by omega) (by omega)), if_neg h1]
theorem q_isClass (h : sOk S 6 nE) {e : Nat} (he : e < 2147483648) : f0_isClass n (nI e) S = some (if e < nE ∧ tv S 6 e 2 = nI 1 then nI 1 else nI 0, S) := by
  unfold f0_isClass
  rw [b_has n (by decide) h he]
  by_cases h1 : e < nE
  · rw [if_pos h1, if_neg n1_0, b_get n (by decide) h h1 (by decide), zt_0, zt_1]
    by_cases h2 : tv S 6 e 2 = nI 1
    · rw [if_pos h2, if_pos ⟨h1, h2⟩]
    · rw [if_neg h2, if_neg (fun h => h2 h.2)]
  · rw [if_neg h1, if_pos n0_0, zt_0, if_neg (fun h => h1 h.1)]
theorem q_isNewest (h : sOk S 6 nE) {e j : Nat} (he : e < nE) (hj : j < 16) (hn : tv S 6 e 0 = nI j) : f0_isNewest n (nI e) S = some (if S.1 20 j = nI e then nI 1 else nI 0, S) := by
  have hE : nE ≤ 150 := (sOk_iff.mp h).2.2.2.1
  unfold f0_isNewest
  rw [b_has n (by decide) h (by omega), if_pos he, if_neg n1_0, b_get n (by decide) h he (by decide), hn, q_newestOf n S hj, bnd_s, zt_0, zt_1]
  by_cases h2 : S.1 20 j = nI e
  · rw [if_pos h2, if_pos h2]
  · rw [if_neg h2, if_neg h2]
theorem q_leanOf (h : sOk S 5 nC) {c i : Nat} (hc : c < nC) (hi : i < 56) : f0_leanOf n (nI c) (nI i) S = some (tv S 5 c (69 + i), S) := by
  unfold f0_leanOf
  rw [nI_add, b_get n (by decide) h hc (show 69 + i < 125 by omega)]
theorem q_hasField (h : sOk S 7 nO) {o f : Nat} (ho : o < 2147483648) (hf : f < 20) : f0_hasField n (nI o) (nI f) S = some (if o < nO ∧ ¬ tv S 7 o (1 + f) = -1 then nI 1 else nI 0, S) := by
  unfold f0_hasField
  rw [b_has n (by decide) h ho]
  by_cases h1 : o < nO
  · rw [if_pos h1, if_neg n1_0, nI_add, b_get n (by decide) h h1 (show 1 + f < 21 by omega), zt_0, zt_1]
    by_cases h2 : tv S 7 o (1 + f) = -1
    · rw [if_pos h2, if_neg (fun h => h.2 h2)]
    · rw [if_neg h2, if_pos ⟨h1, h2⟩]
  · rw [if_neg h1, if_pos n0_0, zt_0, if_neg (fun h => h1 h.1)]
theorem q_setField (h : sOk S 7 nO) {o f : Nat} {a b : Int32} (ho : o < nO) (hf : f < 10) : f0_setField n (nI o) (nI f) a b S = some (0, tset (tset S 7 o (1 + f) a) 7 o (11 + f) b) := by
  unfold f0_setField
  rw [nI_add, b_set n (by decide) h ho (show 1 + f < 21 by omega), nI_add, b_set n (by decide) (sOk_set (by decide) (by decide) h) ho (show 11 + f < 21 by omega)]
end CL1
