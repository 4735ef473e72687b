-- ===== what a cell leans on =====
theorem cnt_le_of {P Q : Nat → Bool} : ∀ m, (∀ i, i < m → P i = true → Q i = true) → cnt P m ≤ cnt Q m
  | 0, _ => Nat.le_refl _
  | m + 1, h => by
    have ih := cnt_le_of m (fun i hi => h i (by omega))
    rw [cnt, cnt]
    by_cases hp : P m = true
    · rw [if_pos hp, if_pos (h m (by omega) hp)]; omega
    · rw [if_neg hp]; omega
theorem lnd_16 {B : Im} (hW : WF B) (u : Int32) : ∀ m, m ≤ 150 → cnt (lnd B u) m ≤ cnt (fun j => decide ((bnw B j).toNatClampNeg < m) && lnd B u (bnw B j).toNatClampNeg && decide (nmn B (bnw B j).toNatClampNeg = j)) 16
  | 0, _ => Nat.zero_le _
  | m + 1, hm => by
    have hB := hW.1
    have ih := lnd_16 hW u m (by omega)
    by_cases hl : lnd B u m = true
    · have h0 := hl
      unfold lnd at h0
      rw [Bool.and_eq_true, Bool.and_eq_true, decide_eq_true_iff, decide_eq_true_iff] at h0
      have hn : nmn B m < 16 := by
        obtain ⟨⟨j, h1, h2⟩, _⟩ := hW.2.2.1 m h0.1.1
        unfold nmn
        rw [h2, nI_clamp (by omega)]; exact h1
      have he : (bnw B (nmn B m)).toNatClampNeg = m := by rw [h0.1.2, nI_clamp (by omega)]
      have := cnt_dec (P := fun j => decide ((bnw B j).toNatClampNeg < m + 1) && lnd B u (bnw B j).toNatClampNeg && decide (nmn B (bnw B j).toNatClampNeg = j)) (P' := fun j => decide ((bnw B j).toNatClampNeg < m) && lnd B u (bnw B j).toNatClampNeg && decide (nmn B (bnw B j).toNatClampNeg = j)) (s := nmn B m) (by simp [he, hl]) (by simp [he]) (fun i hi => by
        by_cases hq : (bnw B i).toNatClampNeg = m
        · have : ¬ nmn B m = i := fun w => hi w.symm
          simp [hq, this]
        · have e : decide ((bnw B i).toNatClampNeg < m) = decide ((bnw B i).toNatClampNeg < m + 1) := by
            by_cases w : (bnw B i).toNatClampNeg < m
            · rw [decide_eq_true w, decide_eq_true (by omega)]
            · rw [decide_eq_false w, decide_eq_false (by omega)]
          simp only [e]) 16 hn
      rw [cnt_t hl]
      omega
    · rw [cnt_f hl]
      refine Nat.le_trans ih (cnt_le_of 16 (fun i _ h => ?_))
      rw [Bool.and_eq_true, Bool.and_eq_true, decide_eq_true_iff] at h ⊢
      exact ⟨⟨by omega, h.1.2⟩, h.2⟩
theorem lnd_le {B : Im} (hW : WF B) (u : Int32) {m : Nat} (hm : m ≤ 150) : cnt (lnd B u) m ≤ 16 := Nat.le_trans (lnd_16 hW u m hm) (cnt_le _ _)
def lnY (x : X) (c m : Nat) (f : Nat → Int32) : X := (x.1, x.2.1, uf x.2.2.1 5 (fun r k => if r = c ∧ 69 ≤ k ∧ k < 69 + m then f (k - 69) else x.2.2.1 5 r k), x.2.2.2)
section LEAN
variable (n : Nat)
theorem j_leans {x : X} {M0 : MR} {c : Nat} {u : Int32} (hW : WF (im x)) (hc : c < bC (im x)) : ∀ d e k k' (S : CS) (f : Nat → Int32) (M : MR), e + d = bE (im x) → d < k → d < k' → CR S (lnY x c (cnt (lnd (im x) u) e) f) → (∀ i, i < cnt (lnd (im x) u) e → (∃ e', e' < bE (im x) ∧ f i = nI e') ∧ M 0 (20 + 180 * c + 10 + i) = f i) → (∀ i, (i < 20 + 180 * c + 10 ∨ 20 + 180 * c + 26 ≤ i) → M 0 i = M0 0 i) → (∀ a, a ≠ 0 → M a = M0 a) → (∀ q, q < 150 → M0 9 q = if lnd (im x) u q = true then nI 1 else nI 0) → ∃ S' f' M' k2, f0_noteLeans_l5 n k (nI c) u (nI (cnt (lnd (im x) u) e)) (nI e) S = some (0, S') ∧ CR S' (st (lnY x c (cnt (lnd (im x) u) (bE (im x))) f') 5 c 7 (nI (cnt (lnd (im x) u) (bE (im x))))) ∧ k' = k2 + d ∧ fR_run_l10 n k' (nI c) (nI (20 + 180 * c)) (nI (cnt (lnd (im x) u) e)) (nI e) M = fR_run_l10 n k2 (nI c) (nI (20 + 180 * c)) (nI (cnt (lnd (im x) u) (bE (im x)))) (nI (bE (im x))) M' ∧ (∀ i, i < cnt (lnd (im x) u) (bE (im x)) → (∃ e', e' < bE (im x) ∧ f' i = nI e') ∧ M' 0 (20 + 180 * c + 10 + i) = f' i) ∧ (∀ i, (i < 20 + 180 * c + 10 ∨ 20 + 180 * c + 26 ≤ i) → M' 0 i = M0 0 i) ∧ (∀ a, a ≠ 0 → M' a = M0 a)
  | 0, e, k, k', S, f, M, hd, hk, hk', hC, hf, hM, hMa, h9 => by
    obtain ⟨k, rfl⟩ : ∃ q, k = q + 1 := ⟨k - 1, by omega⟩
    have hB := hW.1
    have hl := lnd_le hW u (show e ≤ 150 by omega)
    have hcr : c < (lnY x c (cnt (lnd (im x) u) e) f).2.1 5 := hc
    obtain rfl : e = bE (im x) := by omega
    refine ⟨tset S 5 c 7 (nI (cnt (lnd (im x) u) (bE (im x)))), f, M, k', ?_, CR_st (by decide) (show 7 < 125 by decide) hC, by omega, rfl, hf, hM, hMa⟩
    rw [f0_noteLeans_l5, xz6 n hC, show bE (im (lnY x c (cnt (lnd (im x) u) (bE (im x))) f)) = bE (im x) from rfl, if_pos (Int32.le_refl _)]
    unfold f0_noteLeans_b73
    rw [b_set n (by decide) (hC.2.1 5 (by decide)) hcr (show 7 < 125 by decide)]
  | d + 1, e, k, k', S, f, M, hd, hk, hk', hC, hf, hM, hMa, h9 => by
    obtain ⟨k, rfl⟩ : ∃ q, k = q + 1 := ⟨k - 1, by omega⟩
    obtain ⟨k', rfl⟩ : ∃ q, k' = q + 1 := ⟨k' - 1, by omega⟩
    have hB := hW.1
    have he : e < bE (im x) := by omega
    have hcr : c < (lnY x c (cnt (lnd (im x) u) e) f).2.1 5 := hc
    have hl := lnd_le hW u (show e ≤ 150 by omega)
    have hl1 := lnd_le hW u (show e + 1 ≤ 150 by omega)
    obtain ⟨⟨j, hj, hj2⟩, _⟩ := hW.2.2.1 e he
    have hnm : nmn (im x) e = j := by unfold nmn; rw [hj2, nI_clamp (by omega)]
    have hnw : bnw (im (lnY x c (cnt (lnd (im x) u) e) f)) = bnw (im x) := rfl
    have hbd : bed (im (lnY x c (cnt (lnd (im x) u) e) f)) = bed (im x) := rfl
    have hWy : ∀ K : Int32 → CS → Option (Int32 × CS), bnd (f0_isNewest n (nI e) S) K = K (if bnw (im x) j = nI e then nI 1 else nI 0) S := fun K => by
      unfold f0_isNewest
      rw [xh6 n hC (by omega), show bE (im (lnY x c (cnt (lnd (im x) u) e) f)) = bE (im x) from rfl, if_pos he, if_neg n1_0, xg6 n hC he (by omega), hbd, hj2, q_newestOf n S hj, bnd_s, hC.1 20 (by decide)]
      show bnd (if bnw (im x) j = nI e then _ else _) K = _
      by_cases w : bnw (im x) j = nI e
      · rw [if_pos w, zt_1, bnd_s, if_pos w]
      · rw [if_neg w, zt_0, bnd_s, if_neg w]
    by_cases hln : lnd (im x) u e = true
    · have h0 := hln
      unfold lnd at h0
      rw [Bool.and_eq_true, Bool.and_eq_true, decide_eq_true_iff, decide_eq_true_iff, hnm] at h0
      have hcnt := cnt_t hln
      have hC1 : CR (tset S 5 c (69 + cnt (lnd (im x) u) e) (nI e)) (lnY x c (cnt (lnd (im x) u) (e + 1)) (uf f (cnt (lnd (im x) u) e) (nI e))) := by
        refine CR_ext (CR_st (r := c) (w := nI e) (by decide) (show 69 + cnt (lnd (im x) u) e < 125 by omega) hC) (fun _ _ => rfl) (fun _ _ => rfl) (fun q r k' hq hr hk => ?_) rfl
        by_cases hq5 : q = 5
        · subst hq5
          show (if r = c ∧ 69 ≤ k' ∧ k' < 69 + cnt (lnd (im x) u) (e + 1) then uf f (cnt (lnd (im x) u) e) (nI e) (k' - 69) else x.2.2.1 5 r k') = st2 (fun r k => if r = c ∧ 69 ≤ k ∧ k < 69 + cnt (lnd (im x) u) e then f (k - 69) else x.2.2.1 5 r k) c (69 + cnt (lnd (im x) u) e) (nI e) r k'
          rw [hcnt]
          by_cases h1 : r = c ∧ k' = 69 + cnt (lnd (im x) u) e
          · obtain ⟨rfl, rfl⟩ := h1
            rw [st2_eq, if_pos (by omega), show 69 + cnt (lnd (im x) u) e - 69 = cnt (lnd (im x) u) e by omega, uf_eq]
          · rw [show st2 _ c (69 + cnt (lnd (im x) u) e) (nI e) r k' = _ from if_neg h1]
            by_cases h2 : r = c ∧ 69 ≤ k' ∧ k' < 69 + cnt (lnd (im x) u) e
            · rw [if_pos h2, if_pos (by omega), uf_ne (by omega)]
            · rw [if_neg h2, if_neg (by omega)]
        · show uf x.2.2.1 5 _ q r k' = uf (uf x.2.2.1 5 _) 5 _ q r k'
          rw [uf_ne hq5, uf_ne hq5, uf_ne hq5]
      obtain ⟨S', f', M', k2, r1, r2, r3, r4, r5, r6, r7⟩ := j_leans (M0 := M0) hW hc d (e + 1) k k' _ _ (mS M 0 (20 + 180 * c + 10 + cnt (lnd (im x) u) e) (nI e)) (by omega) (by omega) (by omega) hC1 (fun i hi => by
        rw [hcnt] at hi
        by_cases hi' : i = cnt (lnd (im x) u) e
        · subst hi'
          rw [uf_eq, mS_eq]
          exact ⟨⟨e, he, rfl⟩, rfl⟩
        · rw [uf_ne hi', mS_ne2 (by omega)]
          exact hf i (by omega)) (fun i hi => by rw [mS_ne2 (by omega)]; exact hM i hi) (fun a ha => by rw [mS_o ha]; exact hMa a ha) h9
      refine ⟨S', f', M', k2, ?_, r2, by omega, ?_, r5, r6, r7⟩
      · rw [f0_noteLeans_l5, xz6 n hC, show bE (im (lnY x c (cnt (lnd (im x) u) e) f)) = bE (im x) from rfl, if_neg (nI_ge he (by omega)), if_neg (nI_ge (by omega) (by omega)), hWy, if_pos h0.1.2, if_neg n1_0, xg6 n hC he (by omega), hbd, hj2, if_pos (by rw [ub_u hj]; exact h0.2), nI_add, b_set n (by decide) (hC.2.1 5 (by decide)) hcr (show 69 + cnt (lnd (im x) u) e < 125 by omega)]
        unfold f0_noteLeans_b67
        rw [nI_add, nI_add, ← hcnt]
        exact r1
      · rw [fR_run_l10, if_neg (nI_ge (show e < 150 by omega) (by omega)), rd_at (by omega) (by decide), hMa 9 (by omega), h9 e (by omega), if_pos hln, if_neg n1_0, nI_add, nI_add, wr_at (by omega) (by decide)]
        unfold fR_run_b44
        rw [nI_add, nI_add, ← hcnt]
        exact r4
    · have hcnt := cnt_f hln
      have hC1 : CR S (lnY x c (cnt (lnd (im x) u) (e + 1)) f) := by rw [hcnt]; exact hC
      obtain ⟨S', f', M', k2, r1, r2, r3, r4, r5, r6, r7⟩ := j_leans (M0 := M0) hW hc d (e + 1) k k' S f M (by omega) (by omega) (by omega) hC1 (by rw [hcnt]; exact hf) hM hMa h9
      rw [hcnt] at r1 r4
      refine ⟨S', f', M', k2, ?_, r2, by omega, ?_, r5, r6, r7⟩
      · have hlt : cnt (lnd (im x) u) e < 16 ∨ cnt (lnd (im x) u) e = 16 := by omega
        rcases hlt with hlt | hlt
        · rw [f0_noteLeans_l5, xz6 n hC, show bE (im (lnY x c (cnt (lnd (im x) u) e) f)) = bE (im x) from rfl, if_neg (nI_ge he (by omega)), if_neg (nI_ge hlt (by omega)), hWy]
          unfold f0_noteLeans_b67
          rw [nI_add]
          by_cases w : bnw (im x) j = nI e
          · rw [if_pos w, if_neg n1_0, xg6 n hC he (by omega), hbd, hj2, if_neg (by
              rw [ub_u hj]
              intro w2
              refine hln ?_
              unfold lnd
              rw [hnm, decide_eq_true he, decide_eq_true w, w2]
              rfl)]
            exact r1
          · rw [if_neg w, if_pos n0_0]
            exact r1
        · -- sixteen names, and no more
          have key : ∀ m, e ≤ m → m ≤ bE (im x) → cnt (lnd (im x) u) m = 16 := by
            intro m h1 h2
            have := lnd_le hW u (show m ≤ 150 by omega)
            have h3 : cnt (lnd (im x) u) e ≤ cnt (lnd (im x) u) m := by
              induction h1 with
              | refl => exact Nat.le_refl _
              | step h ih =>
                have := ih (by omega) (lnd_le hW u (by omega))
                rw [cnt]; omega
            omega
          -- the class stops here; the state is the same
          have e16 : cnt (lnd (im x) u) (bE (im x)) = 16 := key _ (by omega) (Nat.le_refl _)
          have r2' := r2
          rw [f0_noteLeans_l5, xz6 n hC, show bE (im (lnY x c (cnt (lnd (im x) u) e) f)) = bE (im x) from rfl, if_neg (nI_ge he (by omega)), if_pos (by rw [hlt]; exact Int32.le_refl _)]
          rw [hlt] at r1
          obtain ⟨k, rfl⟩ : ∃ q, k = q + 1 := ⟨k - 1, by omega⟩
          rw [f0_noteLeans_l5, xz6 n hC, show bE (im (lnY x c (cnt (lnd (im x) u) e) f)) = bE (im x) from rfl, if_pos (Int32.le_refl (nI 16))] at r1
          rw [hlt]
          split at r1
          · exact r1
          · exact r1
      · rw [fR_run_l10, if_neg (nI_ge (show e < 150 by omega) (by omega)), rd_at (by omega) (by decide), hMa 9 (by omega), h9 e (by omega), if_neg hln, if_pos n0_0]
        unfold fR_run_b44
        rw [nI_add]
        exact r4
/-- behind the last edition nothing is leaned on -/
theorem r_leans_o {M : MR} {x1 x2 x3 : Int32} : ∀ d e k, e + d = 150 → d < k → (∀ q, e ≤ q → q < 150 → M 9 q = nI 0) → fR_run_l10 n k x1 x2 x3 (nI e) M = fR_run_l10 n 1 x1 x2 x3 (nI 150) M
  | 0, e, k, hd, hk, h => by
    obtain ⟨k, rfl⟩ : ∃ q, k = q + 1 := ⟨k - 1, by omega⟩
    obtain rfl : e = 150 := by omega
    rw [fR_run_l10, fR_run_l10, if_pos (Int32.le_refl _), if_pos (Int32.le_refl _)]
  | d + 1, e, k, hd, hk, h => by
    obtain ⟨k, rfl⟩ : ∃ q, k = q + 1 := ⟨k - 1, by omega⟩
    rw [fR_run_l10, if_neg (nI_ge (show e < 150 by omega) (by omega)), rd_at (by omega) (by decide), h e (Nat.le_refl _) (by omega), if_pos n0_0]
    unfold fR_run_b44
    rw [nI_add]
    exact r_leans_o d (e + 1) k (by omega) (by omega) (fun q h1 h2 => h q (by omega) h2)
end LEAN
