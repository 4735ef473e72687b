section RNOTE
variable (n : Nat)
theorem r_vals {M0 : MR} {c w : Nat} (hc : c < 40) (hw : w ≤ 1000) (h25 : M0 25 0 = nI w) (h26 : ∀ i, i < min w 20 → M0 26 i = nI 0 ∨ M0 26 i = nI 1) : ∀ d q k (M : MR), q + d = 20 → d < k → (∀ a, a ≠ 0 → M a = M0 a) → (∀ i, (i < 20 + 180 * c + 71 ∨ 20 + 180 * c + 111 ≤ i) → M 0 i = M0 0 i) → (∀ i, i < q → i < w → M 0 (20 + 180 * c + 71 + 2 * i) = M0 26 i ∧ M 0 (20 + 180 * c + 72 + 2 * i) = M0 27 i) → ∃ M', fR_run_l203 n k (nI c) (nI (20 + 180 * c)) (nI q) M = fR_run_l203 n 1 (nI c) (nI (20 + 180 * c)) (nI 20) M' ∧ (∀ a, a ≠ 0 → M' a = M0 a) ∧ (∀ i, (i < 20 + 180 * c + 71 ∨ 20 + 180 * c + 111 ≤ i) → M' 0 i = M0 0 i) ∧ (∀ i, i < 20 → i < w → M' 0 (20 + 180 * c + 71 + 2 * i) = M0 26 i ∧ M' 0 (20 + 180 * c + 72 + 2 * i) = M0 27 i)
  | 0, q, k, M, hq, hk, h1, h2, h3 => by
    obtain ⟨k, rfl⟩ : ∃ q, k = q + 1 := ⟨k - 1, by omega⟩
    obtain rfl : q = 20 := by omega
    refine ⟨M, ?_, h1, h2, h3⟩
    rw [fR_run_l203, fR_run_l203, if_pos (Int32.le_refl _), if_pos (Int32.le_refl _)]
  | d + 1, q, k, M, hq, hk, h1, h2, h3 => by
    obtain ⟨k, rfl⟩ : ∃ q, k = q + 1 := ⟨k - 1, by omega⟩
    have hq20 : q < 20 := by omega
    have h25' : ∀ N : MR, (∀ a, a ≠ 0 → N a = M0 a) → N 25 0 = nI w := fun N hN => by rw [hN 25 (by omega)]; exact h25
    have go : ∀ (u v : Int32), (q < w → u = M0 26 q ∧ v = M0 27 q) → ∃ M', fR_run_l203 n k (nI c) (nI (20 + 180 * c)) (nI (q + 1)) (mS (mS M 0 (20 + 180 * c + 71 + 2 * q) u) 0 (20 + 180 * c + 71 + 2 * q + 1) v) = fR_run_l203 n 1 (nI c) (nI (20 + 180 * c)) (nI 20) M' ∧ (∀ a, a ≠ 0 → M' a = M0 a) ∧ (∀ i, (i < 20 + 180 * c + 71 ∨ 20 + 180 * c + 111 ≤ i) → M' 0 i = M0 0 i) ∧ (∀ i, i < 20 → i < w → M' 0 (20 + 180 * c + 71 + 2 * i) = M0 26 i ∧ M' 0 (20 + 180 * c + 72 + 2 * i) = M0 27 i) := by
      intro u v huv
      refine r_vals hc hw h25 h26 d (q + 1) k _ (by omega) (by omega) (fun a ha => by rw [mS_o ha, mS_o ha]; exact h1 a ha) (fun i hi => by rw [mS_ne2 (by omega), mS_ne2 (by omega)]; exact h2 i hi) (fun i hi hiw => ?_)
      by_cases hiq : i = q
      · subst hiq
        rw [mS_ne2 (by omega), mS_eq, show 20 + 180 * c + 72 + 2 * i = 20 + 180 * c + 71 + 2 * i + 1 by omega, mS_eq]
        exact huv hiw
      · rw [mS_ne2 (by omega), mS_ne2 (by omega), mS_ne2 (by omega), mS_ne2 (by omega)]
        exact h3 i (by omega) hiw
    rw [fR_run_l203, if_neg (nI_ge hq20 (by omega)), gf_e (h25' M h1)]
    unfold fR_run_b246 fR_run_b247 fR_run_b283
    rw [pk_mul, nI_add, nI_add]
    by_cases hqw : q < w
    · rw [if_neg (nI_ge hqw (by omega)), rd_at hq20 (by decide), h1 26 (by omega)]
      have w26 := h26 q (by omega)
      have fin : ∀ u, u = M0 26 q → ∃ M', (wr M 0 62610 (nI (20 + 180 * c + 71 + 2 * q)) u fun M1 => gf M1 25 fun v2 => if v2 ≤ nI q then wr M1 0 62610 (nI (20 + 180 * c + 71 + 2 * q) + nI 1) (nI 0) fun M1 => fR_run_l203 n k (nI c) (nI (20 + 180 * c)) (nI q + nI 1) M1 else rd M1 27 20 (nI q) fun v3 => wr M1 0 62610 (nI (20 + 180 * c + 71 + 2 * q) + nI 1) v3 fun M1 => fR_run_l203 n k (nI c) (nI (20 + 180 * c)) (nI q + nI 1) M1) = fR_run_l203 n 1 (nI c) (nI (20 + 180 * c)) (nI 20) M' ∧ (∀ a, a ≠ 0 → M' a = M0 a) ∧ (∀ i, (i < 20 + 180 * c + 71 ∨ 20 + 180 * c + 111 ≤ i) → M' 0 i = M0 0 i) ∧ (∀ i, i < 20 → i < w → M' 0 (20 + 180 * c + 71 + 2 * i) = M0 26 i ∧ M' 0 (20 + 180 * c + 72 + 2 * i) = M0 27 i) := by
        intro u hu
        rw [wr_at (by omega) (by decide), gf_e (h25' _ (fun a ha => by rw [mS_o ha]; exact h1 a ha)), if_neg (nI_ge hqw (by omega)), rd_at hq20 (by decide), mS_ne (by omega), h1 27 (by omega), nI_add, wr_at (by omega) (by decide), nI_add]
        exact go _ _ (fun _ => ⟨hu, rfl⟩)
      rcases w26 with w0 | w0
      · rw [w0, if_pos n0_0]; exact fin _ w0.symm
      · rw [w0, if_neg n1_0]; exact fin _ w0.symm
    · rw [if_pos (nI_le (by omega) (by omega)), wr_at (by omega) (by decide), gf_e (h25' _ (fun a ha => by rw [mS_o ha]; exact h1 a ha)), if_pos (nI_le (by omega) (by omega)), nI_add, wr_at (by omega) (by decide), nI_add]
      exact go _ _ (fun w' => absurd w' hqw)
/-- the text of a new edition -/
theorem r_newEd_l {M0 : MR} {E L j : Nat} {x2 : Int32} (hE : E < 150) (hL : L ≤ 60) (h6 : M0 6 0 = nI L) (hj : j < 16) : ∀ d q k (M : MR), q + d = L → d < k → (∀ a, a ≠ 0 → M a = M0 a) → (∀ i, (i < 7220 + 70 * E + 8 ∨ 7220 + 70 * E + 68 ≤ i) → M 0 i = M0 0 i) → M0 0 (7220 + 70 * E) = nI j → (∀ i, i < q → M 0 (7220 + 70 * E + 8 + i) = M0 5 i) → ∃ M', fR_newEdition_l122 n k x2 (nI (7220 + 70 * E)) (nI q) M = some (x2, mS M' 0 (4 + j) (x2 + nI 1)) ∧ (∀ a, a ≠ 0 → M' a = M0 a) ∧ (∀ i, (i < 7220 + 70 * E + 8 ∨ 7220 + 70 * E + 68 ≤ i) → M' 0 i = M0 0 i) ∧ (∀ i, i < L → M' 0 (7220 + 70 * E + 8 + i) = M0 5 i)
  | 0, q, k, M, hq, hk, h1, h2, h0, h3 => by
    obtain ⟨k, rfl⟩ : ∃ q, k = q + 1 := ⟨k - 1, by omega⟩
    obtain rfl : q = L := by omega
    refine ⟨M, ?_, h1, h2, h3⟩
    rw [fR_newEdition_l122, gf_e (show M 6 0 = nI q by rw [h1 6 (by omega)]; exact h6), if_pos (Int32.le_refl _), nI_add, rd_at (by omega) (by decide), Nat.add_zero, h2 _ (by omega), h0, nI_add, wr_at (by omega) (by decide)]
  | d + 1, q, k, M, hq, hk, h1, h2, h0, h3 => by
    obtain ⟨k, rfl⟩ : ∃ q, k = q + 1 := ⟨k - 1, by omega⟩
    obtain ⟨M', r1, r2⟩ := r_newEd_l (M0 := M0) (x2 := x2) hE hL h6 hj d (q + 1) k (mS M 0 (7220 + 70 * E + 8 + q) (M0 5 q)) (by omega) (by omega) (fun a ha => by rw [mS_o ha]; exact h1 a ha) (fun i hi => by rw [mS_ne2 (by omega)]; exact h2 i hi) h0 (fun i hi => by
      by_cases hiq : i = q
      · subst hiq; rw [mS_eq]
      · rw [mS_ne2 (by omega)]; exact h3 i (by omega))
    refine ⟨M', ?_, r2⟩
    rw [fR_newEdition_l122, gf_e (show M 6 0 = nI L by rw [h1 6 (by omega)]; exact h6), if_neg (nI_ge (by omega) (by omega)), rd_at (by omega) (by decide), h1 5 (by omega), nI_add, nI_add, wr_at (by omega) (by decide), nI_add, r1]
/-- a new edition of the reference, before its kind and value -/
theorem r_newEd (hn : 1000 ≤ n) {M : MR} {E L j c : Nat} {s : Int32} (hE : E < 150) (hL : L ≤ 60) (h6 : M 6 0 = nI L) (hj : j < 16) (hc : c < 40) (h1 : M 0 1 = nI E) (hcn : M 0 (20 + 180 * c) = nI j) (hcs : M 0 (20 + 180 * c + 1) = s) : ∃ M', fR_newEdition n (nI c) M = some (nI E, M') ∧ (∀ a, a ≠ 0 → M' a = M a) ∧ (∀ i, i ≠ 1 → i ≠ 4 + j → (i < 7220 + 70 * E ∨ 7220 + 70 * E + 70 ≤ i) → M' 0 i = M 0 i) ∧ M' 0 1 = nI (E + 1) ∧ M' 0 (4 + j) = nI E + nI 1 ∧ (M' 0 (7220 + 70 * E) = nI j ∧ M' 0 (7220 + 70 * E + 1) = s ∧ M' 0 (7220 + 70 * E + 2) = nI c ∧ M' 0 (7220 + 70 * E + 3) = nI 0 ∧ M' 0 (7220 + 70 * E + 4) = nI 0 ∧ M' 0 (7220 + 70 * E + 5) = nI 0 ∧ M' 0 (7220 + 70 * E + 6) = nI 0 ∧ M' 0 (7220 + 70 * E + 7) = nI L) ∧ ∀ i, i < L → M' 0 (7220 + 70 * E + 8 + i) = M 5 i := by
  obtain ⟨N, hN⟩ : ∃ N, N = mS (mS (mS (mS (mS (mS (mS (mS (mS M 0 1 (nI (E + 1))) 0 (7220 + 70 * E) (nI j)) 0 (7220 + 70 * E + 1) s) 0 (7220 + 70 * E + 2) (nI c)) 0 (7220 + 70 * E + 3) (nI 0)) 0 (7220 + 70 * E + 4) (nI 0)) 0 (7220 + 70 * E + 5) (nI 0)) 0 (7220 + 70 * E + 6) (nI 0)) 0 (7220 + 70 * E + 7) (nI L) := ⟨_, rfl⟩
  have hNa : ∀ a, a ≠ 0 → N a = M a := fun a ha => by rw [hN, mS_o ha, mS_o ha, mS_o ha, mS_o ha, mS_o ha, mS_o ha, mS_o ha, mS_o ha, mS_o ha]
  have hNo : ∀ i, i ≠ 1 → (i < 7220 + 70 * E ∨ 7220 + 70 * E + 8 ≤ i) → N 0 i = M 0 i := fun i h1 h2 => by rw [hN, mS_ne2 (by omega), mS_ne2 (by omega), mS_ne2 (by omega), mS_ne2 (by omega), mS_ne2 (by omega), mS_ne2 (by omega), mS_ne2 (by omega), mS_ne2 (by omega), mS_ne2 (by omega)]
  have n1 : N 0 1 = nI (E + 1) := by rw [hN, mS_ne2 (by omega), mS_ne2 (by omega), mS_ne2 (by omega), mS_ne2 (by omega), mS_ne2 (by omega), mS_ne2 (by omega), mS_ne2 (by omega), mS_ne2 (by omega), mS_eq]
  have e0 : N 0 (7220 + 70 * E) = nI j := by rw [hN, mS_ne2 (by omega), mS_ne2 (by omega), mS_ne2 (by omega), mS_ne2 (by omega), mS_ne2 (by omega), mS_ne2 (by omega), mS_ne2 (by omega), mS_eq]
  have e1 : N 0 (7220 + 70 * E + 1) = s := by rw [hN, mS_ne2 (by omega), mS_ne2 (by omega), mS_ne2 (by omega), mS_ne2 (by omega), mS_ne2 (by omega), mS_ne2 (by omega), mS_eq]
  have e2 : N 0 (7220 + 70 * E + 2) = nI c := by rw [hN, mS_ne2 (by omega), mS_ne2 (by omega), mS_ne2 (by omega), mS_ne2 (by omega), mS_ne2 (by omega), mS_eq]
  have e3 : N 0 (7220 + 70 * E + 3) = nI 0 := by rw [hN, mS_ne2 (by omega), mS_ne2 (by omega), mS_ne2 (by omega), mS_ne2 (by omega), mS_eq]
  have e4 : N 0 (7220 + 70 * E + 4) = nI 0 := by rw [hN, mS_ne2 (by omega), mS_ne2 (by omega), mS_ne2 (by omega), mS_eq]
  have e5 : N 0 (7220 + 70 * E + 5) = nI 0 := by rw [hN, mS_ne2 (by omega), mS_ne2 (by omega), mS_eq]
  have e6 : N 0 (7220 + 70 * E + 6) = nI 0 := by rw [hN, mS_ne2 (by omega), mS_eq]
  have e7 : N 0 (7220 + 70 * E + 7) = nI L := by rw [hN, mS_eq]
  obtain ⟨M', r1, r2, r3, r4⟩ := r_newEd_l n (M0 := N) (x2 := nI E) hE hL (by rw [hNa 6 (by omega)]; exact h6) hj L 0 n N (by omega) (by omega) (fun _ _ => rfl) (fun _ _ => rfl) e0 (fun i hi => by omega)
  have hk : ∀ i, i ≠ 4 + j → mS M' 0 (4 + j) (nI E + nI 1) 0 i = M' 0 i := fun i hi => mS_ne2 hi
  refine ⟨mS M' 0 (4 + j) (nI E + nI 1), ?_, fun a ha => by rw [mS_o ha, r2 a ha, hNa a ha], fun i z1 z2 z3 => by rw [hk i z2, r3 i (by omega), hNo i z1 (by omega)], by rw [hk 1 (by omega), r3 1 (by omega)]; exact n1, mS_eq, ⟨?_, ?_, ?_, ?_, ?_, ?_, ?_, ?_⟩, fun i hi => by rw [hk _ (by omega), r4 i hi, hNa 5 (by omega)]⟩
  · unfold fR_newEdition
    rw [rd_at (by omega) (by decide), h1, rd_at (by omega) (by decide), h1, show nI E + nI 1 = nI (E + 1) from nI_add _ _, wr_at (by omega) (by decide), r_editAt, bnd_s, r_cellAt, bnd_s, show nI (20 + 180 * c) + nI 0 = nI (20 + 180 * c) by rw [nI_add, Nat.add_zero], rd_at (by omega) (by decide), mS_ne2 (by omega), hcn, show nI (7220 + 70 * E) + nI 0 = nI (7220 + 70 * E) by rw [nI_add, Nat.add_zero], wr_at (by omega) (by decide), r_cellAt, bnd_s, nI_add, rd_at (by omega) (by decide), mS_ne2 (by omega), mS_ne2 (by omega), hcs, nI_add, wr_at (by omega) (by decide), nI_add, wr_at (by omega) (by decide), nI_add, wr_at (by omega) (by decide), nI_add, wr_at (by omega) (by decide), nI_add, wr_at (by omega) (by decide), nI_add, wr_at (by omega) (by decide)]
    rw [gf_e (v := nI L) (by rw [mS_ne (by omega), mS_ne (by omega), mS_ne (by omega), mS_ne (by omega), mS_ne (by omega), mS_ne (by omega), mS_ne (by omega), mS_ne (by omega)]; exact h6), nI_add, wr_at (by omega) (by decide), ← hN]
    first | exact r1 | (rw [nI_add] at r1; exact r1)
  · rw [hk _ (by omega), r3 _ (by omega)]; exact e0
  · rw [hk _ (by omega), r3 _ (by omega)]; exact e1
  · rw [hk _ (by omega), r3 _ (by omega)]; exact e2
  · rw [hk _ (by omega), r3 _ (by omega)]; exact e3
  · rw [hk _ (by omega), r3 _ (by omega)]; exact e4
  · rw [hk _ (by omega), r3 _ (by omega)]; exact e5
  · rw [hk _ (by omega), r3 _ (by omega)]; exact e6
  · rw [hk _ (by omega), r3 _ (by omega)]; exact e7
end RNOTE
