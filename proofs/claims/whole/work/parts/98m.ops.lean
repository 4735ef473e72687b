section OPS
variable (n : Nat)
theorem x_full {S : CS} {x : X} (h : CR S x) (hE : bE (im x) ≤ 150) : f0_isFullOfEditions n S = some (if bE (im x) < 150 then nI 0 else nI 1, S) := by
  unfold f0_isFullOfEditions
  rw [xz6 n h]
  by_cases hl : bE (im x) < 150
  · rw [if_pos (nI_lt hl (by omega)), if_pos hl, zt_0]
  · rw [if_neg (nI_nlt (by omega) (by omega)), if_neg hl, zt_1]
theorem m100 {f : Nat} (hf : f ≤ 60) : ¬ nI f = -1 := fun w => m1_n f (by omega) w.symm
theorem op_rerun (hn : 600000 ≤ n) (a : Int32) : OpS (f4_rerun n a) (fR_rerun n a) := by
  intro S x M hC hM
  obtain ⟨hW, hR, hT, hCm, hF⟩ := id hM
  have hB := hW.1
  have hs : ∀ r, f4_rerun n a S = some (r, S) → fR_rerun n a M = some (r, M) → ∃ r S' x' M', f4_rerun n a S = some (r, S') ∧ fR_rerun n a M = some (r, M') ∧ CR S' x' ∧ Mn x' M' ∧ x'.2.2.2 = x.2.2.2 ∧ M' 1 = M 1 ∧ ∀ i, 20870 ≤ i → M' 0 i = M 0 i := fun r h1 h2 => ⟨r, S, x, M, h1, h2, hC, hM, rfl, rfl, fun _ _ => rfl⟩
  rcases i_cases a with ha | ⟨c, hc0, rfl⟩
  · refine hs (-1) ?_ ?_
    · unfold f4_rerun; rw [b_has_n n (by decide) ha, if_pos n0_0]
    · unfold fR_rerun; rw [r_isCell_n n M ha, bnd_s, if_pos n0_0]
  by_cases hc : ¬ c < bC (im x)
  · refine hs (-1) ?_ ?_
    · unfold f4_rerun; rw [xh5 n hC hc0, if_neg hc, if_pos n0_0]
    · unfold fR_rerun; rw [r_isCell n M hc0 (by omega) hR.1.1, if_neg hc, bnd_s, if_pos n0_0]
  have hc : c < bC (im x) := Decidable.not_not.mp hc
  by_cases hE : ¬ bE (im x) < 150
  · refine hs (-2) ?_ ?_
    · unfold f4_rerun; rw [xh5 n hC hc0, if_pos hc, if_neg n1_0, x_full n hC hB.2.1, bnd_s, if_neg hE, if_neg n1_0]
    · unfold fR_rerun; rw [r_isCell n M hc0 (by omega) hR.1.1, if_pos hc, bnd_s, if_neg n1_0, rd_at (by omega) (by decide), hR.1.2.1, if_pos (by rw [show bE (im x) = 150 by omega])]
  have hE : bE (im x) < 150 := Decidable.not_not.mp hE
  obtain ⟨_, h6, ⟨L, hL, h8⟩, _⟩ := hW.2.1 c hc
  obtain ⟨s, hs2, h6⟩ : ∃ s, s < 2 ∧ bce (im x) c 6 = nI s := by rcases h6 with h6 | h6; exact ⟨0, by omega, h6⟩; exact ⟨1, by omega, h6⟩
  obtain ⟨r, S1, x1, M1, k1, k2, k3, k4, k5, k6⟩ := j_cell n (by omega) hc hC hW hR hL h8 hs2 h6
  have hi := FX3_im k4
  obtain ⟨m1, m2, m3, m4⟩ := Lk_Mn hM k4 k5
  have eC : f4_rerun n (nI c) S = if r = -1 then (bnd (f4_runCell n (nI c) S1) fun v4 S4 => some (v4, S4)) else some ((-100 : Int32) - r, S1) := by
    unfold f4_rerun; rw [xh5 n hC hc0, if_pos hc, if_neg n1_0, x_full n hC hB.2.1, bnd_s, if_pos hE, if_pos n0_0, k1, bnd_s]
  have eR : fR_rerun n (nI c) M = if r < 0 then (bnd (fR_run n (nI c) M1) fun v4 M4 => some (v4, M4)) else some ((-100 : Int32) - r, M1) := by
    unfold fR_rerun; rw [r_isCell n M hc0 (by omega) hR.1.1, if_pos hc, bnd_s, if_neg n1_0, rd_at (by omega) (by decide), hR.1.2.1, if_neg (fun w => by rw [nI_eq (by omega) (by omega)] at w; omega), k2, bnd_s]
  rcases k6 with ⟨rfl, k6⟩ | ⟨f, f1, rfl⟩
  · have hrun := j_run n hn k3 m1.1 m1.2.1 (c := c) (by rw [hi]; exact hc) (by rw [hi]; exact hE) (show s = 0 ∨ s = 1 by omega) (by rw [hi]; exact h6) k6
    obtain ⟨r, S', x', M', e1, e2, e3, e4, e5, e6, e7, _⟩ := Run_fin hrun m1.2.2.1 m1.2.2.2.1 (fun q hq _ => m1.2.2.2.2 q hq)
    refine ⟨nI r, S', x', M', ?_, ?_, e3, e4, e5.trans m2, e6.trans m3, fun i hi => (e7 i hi).trans (m4 i hi)⟩
    · rw [eC, if_pos rfl, e1, bnd_s]
    · rw [eR, if_pos m1_lt, e2, bnd_s]
  · refine ⟨(-100 : Int32) - nI f, S1, x1, M1, ?_, ?_, k3, m1, m2, m3, m4⟩
    · rw [eC, if_neg (m100 f1)]
    · rw [eR, if_neg (nI_pos (by omega))]
theorem tkX_c {x : X} {c q t r k : Nat} : bce (im (pv (tkX x c q t) 1 0 (nI 0))) r k = if r = c ∧ k = 8 then nI t else if r = c ∧ 9 ≤ k ∧ k < 9 + q then x.1 0 (k - 9) else bce (im x) r k := rfl
theorem tkX_same {x : X} {c t : Nat} : SameC (im x) (im (pv (tkX x c t t) 1 0 (nI 0))) c := by
  refine ⟨rfl, rfl, rfl, rfl, rfl, ?_, fun r hr => funext fun k => ?_⟩
  · show mS x.1 1 0 (nI 0) 20 = x.1 20
    rw [mS_o (by omega)]
  · rw [tkX_c, if_neg (fun w => hr w.1), if_neg (fun w => hr w.1)]
theorem tkX_k {x : X} {c t k : Nat} (hk : k ≠ 5) : (pv (tkX x c t t) 1 0 (nI 0)).2.1 k = x.2.1 k ∧ (pv (tkX x c t t) 1 0 (nI 0)).2.2.1 k = x.2.2.1 k := by
  refine ⟨rfl, ?_⟩
  show uf x.2.2.1 5 _ k = _
  rw [uf_ne hk]
/-- the tape is laid into a cell that stands -/
theorem j_lay (hn : 1000 ≤ n) {S : CS} {x : X} {M : MR} {c t s : Nat} (hC : CR S x) (hM : Mn x M) (hc : c < bC (im x)) (ht : t ≤ 60) (h1 : x.1 1 0 = nI t) (hk : LkOk x M s t (x.1 0)) : ∃ S' x' M', f4_takeTape n (nI c) S = some (0, S') ∧ fR_layText n (nI c) M = some (0, M') ∧ CR S' x' ∧ Mn x' M' ∧ LkOk x' M' s t (x.1 0) ∧ bC (im x') = bC (im x) ∧ bE (im x') = bE (im x) ∧ bce (im x') c 6 = bce (im x) c 6 ∧ x'.2.2.2 = x.2.2.2 ∧ M' 1 = M 1 ∧ ∀ i, 20870 ≤ i → M' 0 i = M 0 i := by
  obtain ⟨hW, hR, hT, ⟨g0, g1, g2, g3⟩, hF⟩ := hM
  have hB := hW.1
  obtain ⟨S', e1, e2⟩ := x_take n hn hC hc ht h1
  obtain ⟨M', r1, r2, r3, r4, r5, r6⟩ := r_lay n hn (M := M) (c := c) (L := t) (by omega) ht hk.1.1.2.2
  have hs := @tkX_same x c t
  obtain ⟨y, hy⟩ : ∃ y, y = pv (tkX x c t t) 1 0 (nI 0) := ⟨_, rfl⟩
  have yc : ∀ r k, bce (im y) r k = if r = c ∧ k = 8 then nI t else if r = c ∧ 9 ≤ k ∧ k < 9 + t then x.1 0 (k - 9) else bce (im x) r k := fun r k => by rw [hy]; exact tkX_c
  have y1 : ∀ a, a ≠ 1 → y.1 a = x.1 a := fun a ha => by rw [hy]; show mS x.1 1 0 (nI 0) a = _; rw [mS_o ha]
  have yk : ∀ k, k ≠ 5 → y.2.1 k = x.2.1 k ∧ y.2.2.1 k = x.2.2.1 k := fun k hk => by rw [hy]; exact tkX_k hk
  have y11 : y.1 1 0 = nI 0 := by rw [hy]; exact pv_e
  rw [← hy] at e2 hs
  have yo : ∀ k, k ≠ 8 → (k < 9 ∨ 69 ≤ k) → bce (im y) c k = bce (im x) c k := fun k z1 z2 => by rw [yc, if_neg (fun w => z1 w.2), if_neg (by omega)]
  have y8 : bce (im y) c 8 = nI t := by rw [yc, if_pos ⟨rfl, rfl⟩]
  have hrc : ∀ i, i ≠ 2 → (i < 112 ∨ 172 ≤ i) → M' 0 (20 + 180 * c + i) = M 0 (20 + 180 * c + i) := fun i z1 z2 => r6 _ (by omega) (by omega)
  obtain ⟨a0, a1, a2, a3, a4, a5⟩ := hR.2.1 c hc
  have hRy : RelI (im y) (M' 0) := by
    refine RelI_cell hR hB hc hs (fun i hi => r6 i (by omega) (by omega)) ⟨?_, ?_, ?_, fun i hi hl => ?_, fun w => ?_, fun w => ?_⟩
    · rw [yo 5 (by omega) (by omega)]; exact (hrc 0 (by omega) (by omega)).trans a0
    · rw [yo 6 (by omega) (by omega)]; exact (hrc 1 (by omega) (by omega)).trans a1
    · rw [y8]; exact r4
    · rw [y8] at hl
      have hit : i < t := Nat.lt_of_not_le (fun q => nI_nlt q (by omega) hl)
      rw [yc, if_neg (by omega), if_pos (by omega), show 9 + i - 9 = i by omega]
      show M' 0 (20 + 180 * c + (112 + i)) = _
      rw [← Nat.add_assoc, r5 i hit, hk.1.2.1 i hit, hk.2.1 i hit]
    · rw [yo 125 (by omega) (by omega)] at w
      obtain ⟨b1, b2⟩ := a4 w
      refine ⟨by rw [yo 7 (by omega) (by omega)]; exact (hrc 8 (by omega) (by omega)).trans b1, fun i hi hl => ?_⟩
      rw [yo 7 (by omega) (by omega)] at hl
      rw [yo (69 + i) (by omega) (by omega)]
      exact (hrc _ (by omega) (by omega)).trans (b2 i hi hl)
    · rw [yo 125 (by omega) (by omega)] at w
      obtain ⟨b3, b4, b5, b6, b7, b8⟩ := a5 w
      refine ⟨?_, ?_, ?_, ?_, ?_, fun i hi hl => ?_⟩
      · rw [yo 0 (by omega) (by omega)]; exact (hrc 3 (by omega) (by omega)).trans b3
      · rw [yo 1 (by omega) (by omega)]; exact (hrc 4 (by omega) (by omega)).trans b4
      · rw [yo 2 (by omega) (by omega)]; exact (hrc 5 (by omega) (by omega)).trans b5
      · rw [yo 3 (by omega) (by omega)]; exact (hrc 6 (by omega) (by omega)).trans b6
      · rw [yo 4 (by omega) (by omega)]; exact (hrc 7 (by omega) (by omega)).trans b7
      · rw [yo 3 (by omega) (by omega)] at hl
        rw [yo (85 + i) (by omega) (by omega), yo (105 + i) (by omega) (by omega)]
        obtain ⟨c1, c2⟩ := b8 i hi hl
        exact ⟨(hrc _ (by omega) (by omega)).trans c1, (hrc _ (by omega) (by omega)).trans c2⟩
  have hWy : WF (im y) := by
    refine WF_cell hW hs ?_
    obtain ⟨c1, c2, _, q, c3, c4, c5⟩ := hW.2.1 c hc
    unfold CelOk
    rw [yo 5 (by omega) (by omega), yo 6 (by omega) (by omega), yo 7 (by omega) (by omega)]
    refine ⟨c1, c2, ⟨t, ht, y8⟩, q, c3, c4, fun i hi => ?_⟩
    rw [yo (69 + i) (by omega) (by omega), hs.2.1]
    exact c5 i hi
  refine ⟨S', y, M', e1, r1, e2, ⟨hWy, hRy, ⟨0, by omega, y11, r3, fun i hi => by omega⟩, ⟨?_, ?_, ?_, ?_⟩, fun r hr => ?_⟩, LkOk_t hk (fun a z1 z2 => y1 a (by omega)) (fun k hk => yk k (by omega)) hs.2.1 hs.2.2.2.1 hs.2.2.2.2.2.1 (fun a ha => r2 a (by omega) (by omega)), hs.1, hs.2.1, yo 6 (by omega) (by omega), by rw [hy]; rfl, r2 1 (by omega) (by omega), fun i hi => r6 i (by omega) (by omega)⟩
  · rw [r2 30 (by omega) (by omega), y1 2 (by omega)]; exact g0
  · rw [r2 31 (by omega) (by omega), y1 3 (by omega)]; exact g1
  · rw [r2 32 (by omega) (by omega), y1 4 (by omega)]; exact g2
  · rw [r2 33 (by omega) (by omega), y1 5 (by omega)]; exact g3
  · rw [yc, if_neg (by omega), if_neg (by omega)]
    exact hF r (by rw [← hs.1]; exact hr)
theorem op_redo (hn : 600000 ≤ n) (a : Int32) : OpS (f4_redo n a) (fR_redo n a) := by
  intro S x M hC hM
  obtain ⟨hW, hR, hT, hCm, hF⟩ := id hM
  have hB := hW.1
  have hs : ∀ r, f4_redo n a S = some (r, S) → fR_redo n a M = some (r, M) → ∃ r S' x' M', f4_redo n a S = some (r, S') ∧ fR_redo n a M = some (r, M') ∧ CR S' x' ∧ Mn x' M' ∧ x'.2.2.2 = x.2.2.2 ∧ M' 1 = M 1 ∧ ∀ i, 20870 ≤ i → M' 0 i = M 0 i := fun r h1 h2 => ⟨r, S, x, M, h1, h2, hC, hM, rfl, rfl, fun _ _ => rfl⟩
  rcases i_cases a with ha | ⟨c, hc0, rfl⟩
  · refine hs (-1) ?_ ?_
    · unfold f4_redo; rw [b_has_n n (by decide) ha, if_pos n0_0]
    · unfold fR_redo; rw [r_isCell_n n M ha, bnd_s, if_pos n0_0]
  by_cases hc : ¬ c < bC (im x)
  · refine hs (-1) ?_ ?_
    · unfold f4_redo; rw [xh5 n hC hc0, if_neg hc, if_pos n0_0]
    · unfold fR_redo; rw [r_isCell n M hc0 (by omega) hR.1.1, if_neg hc, bnd_s, if_pos n0_0]
  have hc : c < bC (im x) := Decidable.not_not.mp hc
  by_cases hE : ¬ bE (im x) < 150
  · refine hs (-2) ?_ ?_
    · unfold f4_redo; rw [xh5 n hC hc0, if_pos hc, if_neg n1_0, x_full n hC hB.2.1, bnd_s, if_neg hE, if_neg n1_0]
    · unfold fR_redo; rw [r_isCell n M hc0 (by omega) hR.1.1, if_pos hc, bnd_s, if_neg n1_0, rd_at (by omega) (by decide), hR.1.2.1, if_pos (by rw [show bE (im x) = 150 by omega])]
  have hE : bE (im x) < 150 := Decidable.not_not.mp hE
  obtain ⟨_, h6, _, _⟩ := hW.2.1 c hc
  obtain ⟨s, hs2, h6⟩ : ∃ s, s < 2 ∧ bce (im x) c 6 = nI s := by rcases h6 with h6 | h6; exact ⟨0, by omega, h6⟩; exact ⟨1, by omega, h6⟩
  obtain ⟨t, ht, t1, t2, t3⟩ := hT
  obtain ⟨r, S1, x1, M1, k1, k2, k3, k4, k5, k6⟩ := j_tape n (by omega) hs2 hC hW hR ht t1 t2 t3
  have hi := FX3_im k4
  obtain ⟨m1, m2, m3, m4⟩ := Lk_Mn hM k4 k5
  have eC : f4_redo n (nI c) S = if r = -1 then (bnd (f4_takeTape n (nI c) S1) fun _ S5 => bnd (f4_runCell n (nI c) S5) fun v6 S6 => some (v6, S6)) else some ((-100 : Int32) - r, S1) := by
    unfold f4_redo; rw [xh5 n hC hc0, if_pos hc, if_neg n1_0, x_full n hC hB.2.1, bnd_s, if_pos hE, if_pos n0_0, x_get n hC (by decide) hc (by decide), show x.2.2.1 5 c 6 = nI s from h6, k1, bnd_s]
  have eR : fR_redo n (nI c) M = if r < 0 then (bnd (fR_layText n (nI c) M1) fun _ M6 => bnd (fR_run n (nI c) M6) fun v7 M7 => some (v7, M7)) else some ((-100 : Int32) - r, M1) := by
    unfold fR_redo; rw [r_isCell n M hc0 (by omega) hR.1.1, if_pos hc, bnd_s, if_neg n1_0, rd_at (by omega) (by decide), hR.1.2.1, if_neg (fun w => by rw [nI_eq (by omega) (by omega)] at w; omega), r_cellAt, bnd_s, nI_add, rd_at (by omega) (by decide), ri_c1 hR hc, h6, k2, bnd_s]
  rcases k6 with ⟨rfl, k6⟩ | ⟨f, f1, rfl⟩
  · have e0 : x1.1 0 = x.1 0 := k4.1 0 (by omega)
    obtain ⟨S2, x2, M2, l1, l2, l3, l4, l5, l6, l7, l8, l9, l10, l11⟩ := j_lay n (by omega) k3 m1 (c := c) (by rw [hi]; exact hc) ht (by rw [k4.1 1 (by omega)]; exact t1) (by rw [e0]; exact k6)
    rw [hi] at l6 l7 l8
    have hrun := j_run n hn l3 l4.1 l4.2.1 (c := c) (by rw [l6]; exact hc) (by rw [l7]; exact hE) (show s = 0 ∨ s = 1 by omega) (by rw [l8]; exact h6) l5
    obtain ⟨r, S', x', M', e1, e2, e3, e4, e5, e6, e7, _⟩ := Run_fin hrun l4.2.2.1 l4.2.2.2.1 (fun q hq _ => l4.2.2.2.2 q hq)
    refine ⟨nI r, S', x', M', ?_, ?_, e3, e4, e5.trans (l9.trans m2), e6.trans (l10.trans m3), fun i hi => (e7 i hi).trans ((l11 i hi).trans (m4 i hi))⟩
    · rw [eC, if_pos rfl, l1, bnd_s, e1, bnd_s]
    · rw [eR, if_pos m1_lt, l2, bnd_s, e2, bnd_s]
  · refine ⟨(-100 : Int32) - nI f, S1, x1, M1, ?_, ?_, k3, m1, m2, m3, m4⟩
    · rw [eC, if_neg (m100 f1)]
    · rw [eR, if_neg (nI_pos (by omega))]
end OPS
