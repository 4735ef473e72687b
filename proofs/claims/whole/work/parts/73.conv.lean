-- ===== put, wipe, forget, convert =====
def pp (x : X) (t : Nat) (v : Int32) : X := pv (pv x 0 t v) 1 0 (nI (t + 1))
def pR (M : MR) (t : Nat) (v : Int32) : MR := mS (mS M 2 t v) 3 0 (nI (t + 1))
def TpN (x0 : X) (M0 : MR) (x : X) (M : MR) (t : Nat) : Prop := (x.1 1 0 = nI t ∧ M 3 0 = nI t ∧ ∀ i, i < t → M 2 i = x.1 0 i) ∧ (im x = im x0 ∧ x.2.2.2 = x0.2.2.2 ∧ ∀ a, 2 ≤ a → x.1 a = x0.1 a) ∧ ∀ a, a ≠ 2 → a ≠ 3 → M a = M0 a
theorem TpN_step {x0 x : X} {M0 M : MR} {t : Nat} (v : Int32) (h : TpN x0 M0 x M t) : TpN x0 M0 (pp x t v) (pR M t v) (t + 1) := by
  obtain ⟨⟨h1, h2, h3⟩, ⟨h4, h5, h6⟩, h7⟩ := h
  refine ⟨⟨show mS (mS x.1 0 t v) 1 0 (nI (t + 1)) 1 0 = _ from mS_eq, show mS (mS M 2 t v) 3 0 (nI (t + 1)) 3 0 = _ from mS_eq, fun i hi => ?_⟩, ⟨?_, h5, fun a ha => ?_⟩, fun a a1 a2 => ?_⟩
  · show mS (mS M 2 t v) 3 0 (nI (t + 1)) 2 i = mS (mS x.1 0 t v) 1 0 (nI (t + 1)) 0 i
    rw [mS_ne (show (2 : Nat) ≠ 3 by decide), mS_ne (show (0 : Nat) ≠ 1 by decide)]
    by_cases hit : i = t
    · subst hit; rw [mS_eq, mS_eq]
    · rw [mS_ne2 hit, mS_ne2 hit]; exact h3 i (by omega)
  · unfold pp
    rw [im_pv (by omega), im_pv (by omega), h4]
  · show mS (mS x.1 0 t v) 1 0 (nI (t + 1)) a = _
    rw [mS_o (by omega), mS_o (by omega), h6 a ha]
  · unfold pR
    rw [mS_o a2, mS_o a1, h7 a a1 a2]
theorem TpN_end {x0 x : X} {M0 M : MR} {t : Nat} (hM : Mn x0 M0) (h : TpN x0 M0 x M t) (ht : t ≤ 60) : Mn x M ∧ x.2.2.2 = x0.2.2.2 ∧ M 1 = M0 1 ∧ ∀ i, 20870 ≤ i → M 0 i = M0 0 i := by
  obtain ⟨⟨h1, h2, h3⟩, ⟨h4, h5, h6⟩, h7⟩ := h
  obtain ⟨hW, hR, hT, ⟨g0, g1, g2, g3⟩, hF⟩ := hM
  refine ⟨⟨by rw [h4]; exact hW, by rw [h4, h7 0 (by omega) (by omega)]; exact hR, ⟨t, ht, h1, h2, h3⟩, ⟨?_, ?_, ?_, ?_⟩, by rw [h4]; exact hF⟩, h5, h7 1 (by omega) (by omega), fun i _ => by rw [h7 0 (by omega) (by omega)]⟩
  · rw [h6 _ (by omega), h7 _ (by omega) (by omega)]; exact g0
  · rw [h6 _ (by omega), h7 _ (by omega) (by omega)]; exact g1
  · rw [h6 _ (by omega), h7 _ (by omega) (by omega)]; exact g2
  · rw [h6 _ (by omega), h7 _ (by omega) (by omega)]; exact g3
section PUT
variable (n : Nat)
theorem xk_putOne {S : CS} {x : X} {t : Nat} {v : Int32} (h : CR S x) (ht : x.1 1 0 = nI t) (h60 : t < 60) : Ru (f4_putOne n v S) 0 (fun S' => CR S' (pp x t v)) := by
  unfold f4_putOne
  simp (disch := omega) only [bnd_s, xg0 _ h, xg1 _ h, xg2 _ h, xg3 _ h, xg4 _ h, xg5 _ h, xg6 _ h, xg7 _ h, xz0 _ h, xz1 _ h, xz2 _ h, xz3 _ h, xz4 _ h, xz5 _ h, xz6 _ h, xz7 _ h, xh5 _ h, xh6 _ h, xh7 _ h, xcg h, xcr h, nI_add, pk_mul, Nat.add_zero, zt_0, zt_1, ht, y_lt, y_nlt, y_le, y_nle, y_ne, y_eq, y_n0, y_00, y_l0, y_0l, y_le0, y_m1, y_m1', y_ml, y_m0, y_0m, y_mm, y_lem, y_mle, ↓reduceIte, if_true, if_false]
  refine Rc_cw (by decide) (by decide) h h60 (fun S1 h1 => ?_)
  refine Rc_cg (by decide) h1 ?_
  rw [show (pv x 0 t v).1 1 0 = nI t by show mS x.1 0 t v 1 0 = _; rw [mS_ne (by omega), ht], nI_add]
  exact Rc_cp (by decide) h1 (fun S2 h2 => Ru_some h2)
theorem r_put_step {M : MR} {t c k : Nat} {a b d e : Int32} (ht : M 3 0 = nI t) (h60 : t < 60) (i i' : Nat) (v : Int32) (hi' : i' = i + 1) (hv : v = (if i = 0 then a else if i = 1 then b else if i = 2 then d else e)) (hi : i < c) (hc : c ≤ 4) : fR_put_l29 n (k + 1) (nI c) a b d e (nI i) M = fR_put_l29 n k (nI c) a b d e (nI i') (pR M t v) := by
  subst hi' hv
  have g : mS M 2 t (if i = 0 then a else if i = 1 then b else if i = 2 then d else e) 3 0 = nI t := by rw [mS_ne (by omega), ht]
  rw [fR_put_l29]
  have hh : i = 0 ∨ i = 1 ∨ i = 2 ∨ i = 3 := by omega
  unfold pR
  rcases hh with rfl | rfl | rfl | rfl
  · simp (disch := omega) only [bnd_s, gf, pf, rd_at, wr_at, nI_add, pk_mul, Nat.add_zero, zt_0, zt_1, r_cellAt, r_editAt, r_objAt, y_lt, y_nlt, y_le, y_nle, y_ne, y_eq, y_n0, y_00, y_l0, y_0l, y_le0, y_m1, y_m1', y_ml, y_m0, y_0m, y_mm, y_lem, y_mle, ↓reduceIte, if_true, if_false, ht, fR_put_b75]
    rw [show mS M 2 t a 3 0 = nI t from g, nI_add]
  · simp (disch := omega) only [bnd_s, gf, pf, rd_at, wr_at, nI_add, pk_mul, Nat.add_zero, zt_0, zt_1, r_cellAt, r_editAt, r_objAt, y_lt, y_nlt, y_le, y_nle, y_ne, y_eq, y_n0, y_00, y_l0, y_0l, y_le0, y_m1, y_m1', y_ml, y_m0, y_0m, y_mm, y_lem, y_mle, ↓reduceIte, if_true, if_false, ht, fR_put_b75]
    rw [show mS M 2 t b 3 0 = nI t from g, nI_add]
    rfl
  · simp (disch := omega) only [bnd_s, gf, pf, rd_at, wr_at, nI_add, pk_mul, Nat.add_zero, zt_0, zt_1, r_cellAt, r_editAt, r_objAt, y_lt, y_nlt, y_le, y_nle, y_ne, y_eq, y_n0, y_00, y_l0, y_0l, y_le0, y_m1, y_m1', y_ml, y_m0, y_0m, y_mm, y_lem, y_mle, ↓reduceIte, if_true, if_false, ht, fR_put_b75]
    rw [show mS M 2 t d 3 0 = nI t from g, nI_add]
    rfl
  · simp (disch := omega) only [bnd_s, gf, pf, rd_at, wr_at, nI_add, pk_mul, Nat.add_zero, zt_0, zt_1, r_cellAt, r_editAt, r_objAt, y_lt, y_nlt, y_le, y_nle, y_ne, y_eq, y_n0, y_00, y_l0, y_0l, y_le0, y_m1, y_m1', y_ml, y_m0, y_0m, y_mm, y_lem, y_mle, ↓reduceIte, if_true, if_false, ht, fR_put_b75]
    rw [show mS M 2 t e 3 0 = nI t from g, nI_add]
    rfl
theorem r_put_end {M : MR} {t c k : Nat} {a b d e : Int32} (ht : M 3 0 = nI t) (hc : c ≤ 4) : fR_put_l29 n (k + 1) (nI c) a b d e (nI c) M = some (nI t, M) := by
  rw [fR_put_l29]
  simp (disch := omega) only [bnd_s, gf, pf, rd_at, wr_at, nI_add, pk_mul, Nat.add_zero, zt_0, zt_1, r_cellAt, r_editAt, r_objAt, y_lt, y_nlt, y_le, y_nle, y_ne, y_eq, y_n0, y_00, y_l0, y_0l, y_le0, y_m1, y_m1', y_ml, y_m0, y_0m, y_mm, y_lem, y_mle, ↓reduceIte, if_true, if_false, ht]
theorem op_put (hn : 1000 ≤ n) (c a b d e : Int32) : OpS (f4_put n c a b d e) (fR_put n c a b d e) := by
  intro S x M h hM
  obtain ⟨t, ht, t1, t2, t3⟩ := id hM.2.2.1
  have hs : ∀ r, f4_put n c a b d e S = some (r, S) → fR_put n c a b d e M = some (r, M) → ∃ r S' x' M', f4_put n c a b d e S = some (r, S') ∧ fR_put n c a b d e M = some (r, M') ∧ CR S' x' ∧ Mn x' M' ∧ x'.2.2.2 = x.2.2.2 ∧ M' 1 = M 1 ∧ ∀ i, 20870 ≤ i → M' 0 i = M 0 i := fun r h1 h2 => ⟨r, S, x, M, h1, h2, h, hM, rfl, rfl, fun _ _ => rfl⟩
  rcases i_cases c with hc | ⟨c, hc, rfl⟩
  · refine hs (-1) ?_ ?_
    · unfold f4_put; simp (disch := first | omega | assumption) only [y_nlt', if_true]
    · unfold fR_put; simp (disch := first | omega | assumption) only [y_nlt', if_true]
  · by_cases hc4 : 1 ≤ c ∧ c ≤ 4
    · by_cases htc : t + c ≤ 60
      · have b0 : TpN x M x M t := ⟨⟨t1, t2, t3⟩, ⟨rfl, rfl, fun _ _ => rfl⟩, fun _ _ _ => rfl⟩
        have b1 := TpN_step a b0
        have b2 := TpN_step b b1
        have b3 := TpN_step d b2
        have b4 := TpN_step e b3
        have hn1 : ∃ m, n = m + 5 := ⟨n - 5, by omega⟩
        obtain ⟨m, hm⟩ := hn1
        have hc' : c = 1 ∨ c = 2 ∨ c = 3 ∨ c = 4 := by omega
        have fin : ∀ x' M' j, t + j ≤ 60 → TpN x M x' M' (t + j) → fR_put n (nI c) a b d e M = some (nI (t + j), M') → Ru (f4_put n (nI c) a b d e S) (nI (t + j)) (fun S' => CR S' x') → ∃ r S' x' M', f4_put n (nI c) a b d e S = some (r, S') ∧ fR_put n (nI c) a b d e M = some (r, M') ∧ CR S' x' ∧ Mn x' M' ∧ x'.2.2.2 = x.2.2.2 ∧ M' 1 = M 1 ∧ ∀ i, 20870 ≤ i → M' 0 i = M 0 i := by
          intro x' M' j hj hb h2 ⟨S', h1, h3⟩
          obtain ⟨q1, q2, q3, q4⟩ := TpN_end hM hb hj
          exact ⟨_, S', x', M', h1, h2, h3, q1, q2, q3, q4⟩
        rcases hc' with rfl | rfl | rfl | rfl
        · refine fin _ _ 1 htc b1 ?_ ?_
          · unfold fR_put
            simp (disch := omega) only [bnd_s, gf, pf, rd_at, wr_at, nI_add, pk_mul, Nat.add_zero, zt_0, zt_1, r_cellAt, r_editAt, r_objAt, y_lt, y_nlt, y_le, y_nle, y_ne, y_eq, y_n0, y_00, y_l0, y_0l, y_le0, y_m1, y_m1', y_ml, y_m0, y_0m, y_mm, y_lem, y_mle, ↓reduceIte, if_true, if_false, t2]
            rw [show fR_put_l29 n n = fR_put_l29 n (m + 3 + 1 + 1) by rw [hm], r_put_step n t2 (by omega) 0 1 a rfl rfl (by omega) (by omega), r_put_end n b1.1.2.1 (by omega)]
          · unfold f4_put f4_put_b41 f4_put_b52
            simp (disch := omega) only [bnd_s, xg0 _ h, xg1 _ h, xg2 _ h, xg3 _ h, xg4 _ h, xg5 _ h, xg6 _ h, xg7 _ h, xz0 _ h, xz1 _ h, xz2 _ h, xz3 _ h, xz4 _ h, xz5 _ h, xz6 _ h, xz7 _ h, xh5 _ h, xh6 _ h, xh7 _ h, xcg h, xcr h, nI_add, pk_mul, Nat.add_zero, zt_0, zt_1, y_lt, y_nlt, y_le, y_nle, y_ne, y_eq, y_n0, y_00, y_l0, y_0l, y_le0, y_m1, y_m1', y_ml, y_m0, y_0m, y_mm, y_lem, y_mle, ↓reduceIte, if_true, if_false, t1]
            refine Ru_bnd (xk_putOne n h t1 (by omega)) (fun S1 h1 => ?_)
            refine Rc_cg (by decide) h1 ?_
            rw [b1.1.1]
            exact Ru_some h1
        · refine fin _ _ 2 htc b2 ?_ ?_
          · unfold fR_put
            simp (disch := omega) only [bnd_s, gf, pf, rd_at, wr_at, nI_add, pk_mul, Nat.add_zero, zt_0, zt_1, r_cellAt, r_editAt, r_objAt, y_lt, y_nlt, y_le, y_nle, y_ne, y_eq, y_n0, y_00, y_l0, y_0l, y_le0, y_m1, y_m1', y_ml, y_m0, y_0m, y_mm, y_lem, y_mle, ↓reduceIte, if_true, if_false, t2]
            rw [show fR_put_l29 n n = fR_put_l29 n (m + 2 + 1 + 1 + 1) by rw [hm], r_put_step n t2 (by omega) 0 1 a rfl rfl (by omega) (by omega), r_put_step n b1.1.2.1 (by omega) 1 2 b rfl rfl (by omega) (by omega), r_put_end n b2.1.2.1 (by omega)]
          · unfold f4_put f4_put_b41 f4_put_b52
            simp (disch := omega) only [bnd_s, xg0 _ h, xg1 _ h, xg2 _ h, xg3 _ h, xg4 _ h, xg5 _ h, xg6 _ h, xg7 _ h, xz0 _ h, xz1 _ h, xz2 _ h, xz3 _ h, xz4 _ h, xz5 _ h, xz6 _ h, xz7 _ h, xh5 _ h, xh6 _ h, xh7 _ h, xcg h, xcr h, nI_add, pk_mul, Nat.add_zero, zt_0, zt_1, y_lt, y_nlt, y_le, y_nle, y_ne, y_eq, y_n0, y_00, y_l0, y_0l, y_le0, y_m1, y_m1', y_ml, y_m0, y_0m, y_mm, y_lem, y_mle, ↓reduceIte, if_true, if_false, t1]
            refine Ru_bnd (xk_putOne n h t1 (by omega)) (fun S1 h1 => ?_)
            refine Ru_bnd (xk_putOne n h1 b1.1.1 (by omega)) (fun S2 h2 => ?_)
            refine Rc_cg (by decide) h2 ?_
            rw [b2.1.1]
            exact Ru_some h2
        · refine fin _ _ 3 htc b3 ?_ ?_
          · unfold fR_put
            simp (disch := omega) only [bnd_s, gf, pf, rd_at, wr_at, nI_add, pk_mul, Nat.add_zero, zt_0, zt_1, r_cellAt, r_editAt, r_objAt, y_lt, y_nlt, y_le, y_nle, y_ne, y_eq, y_n0, y_00, y_l0, y_0l, y_le0, y_m1, y_m1', y_ml, y_m0, y_0m, y_mm, y_lem, y_mle, ↓reduceIte, if_true, if_false, t2]
            rw [show fR_put_l29 n n = fR_put_l29 n (m + 1 + 1 + 1 + 1 + 1) by rw [hm], r_put_step n t2 (by omega) 0 1 a rfl rfl (by omega) (by omega), r_put_step n b1.1.2.1 (by omega) 1 2 b rfl rfl (by omega) (by omega), r_put_step n b2.1.2.1 (by omega) 2 3 d rfl rfl (by omega) (by omega), r_put_end n b3.1.2.1 (by omega)]
          · unfold f4_put f4_put_b41 f4_put_b52
            simp (disch := omega) only [bnd_s, xg0 _ h, xg1 _ h, xg2 _ h, xg3 _ h, xg4 _ h, xg5 _ h, xg6 _ h, xg7 _ h, xz0 _ h, xz1 _ h, xz2 _ h, xz3 _ h, xz4 _ h, xz5 _ h, xz6 _ h, xz7 _ h, xh5 _ h, xh6 _ h, xh7 _ h, xcg h, xcr h, nI_add, pk_mul, Nat.add_zero, zt_0, zt_1, y_lt, y_nlt, y_le, y_nle, y_ne, y_eq, y_n0, y_00, y_l0, y_0l, y_le0, y_m1, y_m1', y_ml, y_m0, y_0m, y_mm, y_lem, y_mle, ↓reduceIte, if_true, if_false, t1]
            refine Ru_bnd (xk_putOne n h t1 (by omega)) (fun S1 h1 => ?_)
            refine Ru_bnd (xk_putOne n h1 b1.1.1 (by omega)) (fun S2 h2 => ?_)
            refine Ru_bnd (xk_putOne n h2 b2.1.1 (by omega)) (fun S3 h3 => ?_)
            refine Rc_cg (by decide) h3 ?_
            rw [b3.1.1]
            exact Ru_some h3
        · refine fin _ _ 4 htc b4 ?_ ?_
          · unfold fR_put
            simp (disch := omega) only [bnd_s, gf, pf, rd_at, wr_at, nI_add, pk_mul, Nat.add_zero, zt_0, zt_1, r_cellAt, r_editAt, r_objAt, y_lt, y_nlt, y_le, y_nle, y_ne, y_eq, y_n0, y_00, y_l0, y_0l, y_le0, y_m1, y_m1', y_ml, y_m0, y_0m, y_mm, y_lem, y_mle, ↓reduceIte, if_true, if_false, t2]
            rw [show fR_put_l29 n n = fR_put_l29 n (m + 1 + 1 + 1 + 1 + 1) by rw [hm], r_put_step n t2 (by omega) 0 1 a rfl rfl (by omega) (by omega), r_put_step n b1.1.2.1 (by omega) 1 2 b rfl rfl (by omega) (by omega), r_put_step n b2.1.2.1 (by omega) 2 3 d rfl rfl (by omega) (by omega), r_put_step n b3.1.2.1 (by omega) 3 4 e rfl rfl (by omega) (by omega), r_put_end n b4.1.2.1 (by omega)]
          · unfold f4_put f4_put_b41 f4_put_b52
            simp (disch := omega) only [bnd_s, xg0 _ h, xg1 _ h, xg2 _ h, xg3 _ h, xg4 _ h, xg5 _ h, xg6 _ h, xg7 _ h, xz0 _ h, xz1 _ h, xz2 _ h, xz3 _ h, xz4 _ h, xz5 _ h, xz6 _ h, xz7 _ h, xh5 _ h, xh6 _ h, xh7 _ h, xcg h, xcr h, nI_add, pk_mul, Nat.add_zero, zt_0, zt_1, y_lt, y_nlt, y_le, y_nle, y_ne, y_eq, y_n0, y_00, y_l0, y_0l, y_le0, y_m1, y_m1', y_ml, y_m0, y_0m, y_mm, y_lem, y_mle, ↓reduceIte, if_true, if_false, t1]
            refine Ru_bnd (xk_putOne n h t1 (by omega)) (fun S1 h1 => ?_)
            refine Ru_bnd (xk_putOne n h1 b1.1.1 (by omega)) (fun S2 h2 => ?_)
            refine Ru_bnd (xk_putOne n h2 b2.1.1 (by omega)) (fun S3 h3 => ?_)
            refine Ru_bnd (xk_putOne n h3 b3.1.1 (by omega)) (fun S4 h4 => ?_)
            refine Rc_cg (by decide) h4 ?_
            rw [b4.1.1]
            exact Ru_some h4
      · refine hs (-2) ?_ ?_
        · unfold f4_put; simp (disch := omega) only [bnd_s, xg0 _ h, xg1 _ h, xg2 _ h, xg3 _ h, xg4 _ h, xg5 _ h, xg6 _ h, xg7 _ h, xz0 _ h, xz1 _ h, xz2 _ h, xz3 _ h, xz4 _ h, xz5 _ h, xz6 _ h, xz7 _ h, xh5 _ h, xh6 _ h, xh7 _ h, xcg h, xcr h, nI_add, pk_mul, Nat.add_zero, zt_0, zt_1, y_lt, y_nlt, y_le, y_nle, y_ne, y_eq, y_n0, y_00, y_l0, y_0l, y_le0, y_m1, y_m1', y_ml, y_m0, y_0m, y_mm, y_lem, y_mle, ↓reduceIte, if_true, if_false, t1]
        · unfold fR_put; simp (disch := omega) only [bnd_s, gf, pf, rd_at, wr_at, nI_add, pk_mul, Nat.add_zero, zt_0, zt_1, r_cellAt, r_editAt, r_objAt, y_lt, y_nlt, y_le, y_nle, y_ne, y_eq, y_n0, y_00, y_l0, y_0l, y_le0, y_m1, y_m1', y_ml, y_m0, y_0m, y_mm, y_lem, y_mle, ↓reduceIte, if_true, if_false, t2]
    · have hc' : c = 0 ∨ 5 ≤ c := by omega
      rcases hc' with rfl | hc'
      · refine hs (-1) ?_ ?_
        · unfold f4_put; simp (disch := omega) only [y_lt, y_nlt, y_le, y_nle, y_ne, y_eq, y_n0, y_00, y_l0, y_0l, y_le0, y_m1, y_m1', y_ml, y_m0, y_0m, y_mm, y_lem, y_mle, ↓reduceIte, if_true, if_false]
        · unfold fR_put; simp (disch := omega) only [y_lt, y_nlt, y_le, y_nle, y_ne, y_eq, y_n0, y_00, y_l0, y_0l, y_le0, y_m1, y_m1', y_ml, y_m0, y_0m, y_mm, y_lem, y_mle, ↓reduceIte, if_true, if_false]
      · refine hs (-1) ?_ ?_
        · unfold f4_put; simp (disch := omega) only [y_lt, y_nlt, y_le, y_nle, y_ne, y_eq, y_n0, y_00, y_l0, y_0l, y_le0, y_m1, y_m1', y_ml, y_m0, y_0m, y_mm, y_lem, y_mle, ↓reduceIte, if_true, if_false]
        · unfold fR_put; simp (disch := omega) only [y_lt, y_nlt, y_le, y_nle, y_ne, y_eq, y_n0, y_00, y_l0, y_0l, y_le0, y_m1, y_m1', y_ml, y_m0, y_0m, y_mm, y_lem, y_mle, ↓reduceIte, if_true, if_false]
theorem op_wipe : OpS (f4_wipe n) (fR_wipe n) := by
  intro S x M h hM
  obtain ⟨hW, hR, ⟨t, ht, t1, t2, t3⟩, ⟨g0, g1, g2, g3⟩, hF⟩ := hM
  refine ⟨nI t, (mS S.1 1 0 (nI 0), S.2), pv x 1 0 (nI 0), mS M 3 0 (nI 0), ?_, ?_, CR_pv (by decide) h, ⟨?_, ?_, ⟨0, by omega, show mS x.1 1 0 (nI 0) 1 0 = _ from mS_eq, mS_eq, fun i hi => by omega⟩, ⟨?_, ?_, ?_, ?_⟩, by rw [im_pv (by omega)]; exact hF⟩, rfl, mS_o (by omega), fun i _ => by rw [mS_ne (by omega)]⟩
  · unfold f4_wipe
    simp (disch := omega) only [bnd_s, xg0 _ h, xg1 _ h, xg2 _ h, xg3 _ h, xg4 _ h, xg5 _ h, xg6 _ h, xg7 _ h, xz0 _ h, xz1 _ h, xz2 _ h, xz3 _ h, xz4 _ h, xz5 _ h, xz6 _ h, xz7 _ h, xh5 _ h, xh6 _ h, xh7 _ h, xcg h, xcr h, nI_add, pk_mul, Nat.add_zero, zt_0, zt_1, t1, cp]
  · unfold fR_wipe
    simp (disch := omega) only [bnd_s, gf, pf, rd_at, wr_at, nI_add, pk_mul, Nat.add_zero, zt_0, zt_1, r_cellAt, r_editAt, r_objAt, t2]
  · rw [im_pv (by omega)]; exact hW
  · rw [im_pv (by omega), mS_o (by omega)]; exact hR
  · show mS M 3 0 (nI 0) 30 0 = mS x.1 1 0 (nI 0) 2 0
    rw [mS_ne (by omega), mS_ne (by omega)]; exact g0
  · show mS M 3 0 (nI 0) 31 0 = mS x.1 1 0 (nI 0) 3 0
    rw [mS_ne (by omega), mS_ne (by omega)]; exact g1
  · show mS M 3 0 (nI 0) 32 0 = mS x.1 1 0 (nI 0) 4 0
    rw [mS_ne (by omega), mS_ne (by omega)]; exact g2
  · show mS M 3 0 (nI 0) 33 0 = mS x.1 1 0 (nI 0) 5 0
    rw [mS_ne (by omega), mS_ne (by omega)]; exact g3
theorem op_forget (a : Int32) : OpS (f4_forget n a) (fR_forget n a) := by
  intro S x M h hM
  by_cases ho : a < 0 ∨ nI 16 ≤ a
  · have e1 : fR_isName n a M = some (nI 0, M) := by
      unfold fR_isName
      by_cases h0 : a < 0
      · rw [if_pos h0, zt_0]
      · rw [if_neg h0, if_pos (ho.resolve_left h0), zt_0]
    refine ⟨-1, S, x, M, ?_, ?_, h, hM, rfl, rfl, fun _ _ => rfl⟩
    · unfold f4_forget
      rw [q_isName_o n S ho, bnd_s, if_pos n0_0]
    · unfold fR_forget
      rw [e1, bnd_s, if_pos n0_0]
  · rcases i_cases a with ha | ⟨j, hj0, rfl⟩
    · exact absurd (Or.inl ha) ho
    have hj : j < 16 := Nat.lt_of_not_le (fun hh => ho (Or.inr (nI_le hh hj0)))
    obtain ⟨hW, hR, hT, hCm, hF⟩ := hM
    have hnw := hR.1.2.2.2 j hj
    have hb : bnw (im x) j = S.1 20 j := by rw [h.1 20 (by decide)]; rfl
    by_cases hm : bnw (im x) j = -1
    · have e0 : M 0 (4 + j) = nI 0 := by rw [hnw, hm]; decide
      have e2 : mS M 0 (4 + j) (nI 0) = M := by
        funext p q
        by_cases hp : p = 0
        · subst hp
          by_cases hq : q = 4 + j
          · subst hq; rw [mS_eq, e0]
          · rw [mS_ne2 hq]
        · rw [mS_ne hp]
      refine ⟨nI 0, S, x, M, ?_, ?_, h, ⟨hW, hR, hT, hCm, hF⟩, rfl, rfl, fun _ _ => rfl⟩
      · unfold f4_forget
        rw [k_isName' n S (by omega), if_pos hj, bnd_s, if_neg n1_0, q_dropNewest n S hj, bnd_s, if_pos (show S.1 20 j = -1 by rw [← hb]; exact hm), if_pos n0_0, if_pos (show S.1 20 j = -1 by rw [← hb]; exact hm)]
      · unfold fR_forget fR_forget_b22
        rw [r_isName n M (by omega), if_pos hj, bnd_s, if_neg n1_0, r_newest n M hj, bnd_s, e0, show nI 0 - nI 1 = (-1 : Int32) by decide]
        simp (disch := omega) only [bnd_s, gf, pf, rd_at, wr_at, nI_add, pk_mul, Nat.add_zero, zt_0, zt_1, r_cellAt, r_editAt, r_objAt, y_lt, y_nlt, y_le, y_nle, y_ne, y_eq, y_n0, y_00, y_l0, y_0l, y_le0, y_m1, y_m1', y_ml, y_m0, y_0m, y_mm, y_lem, y_mle, ↓reduceIte, if_true, if_false, e2]
    · obtain ⟨e, he, he2, _⟩ := (hW.2.2.2.2 j hj).resolve_left hm
      have hE := hW.1
      refine ⟨nI 1, (mS S.1 20 j (-1), S.2), pv x 20 j (-1), mS M 0 (4 + j) (nI 0), ?_, ?_, CR_pv (by decide) h, ⟨?_, ?_, ?_, ?_, hF⟩, rfl, mS_o (by omega), fun i _ => by rw [mS_ne2 (by omega)]⟩
      · unfold f4_forget
        rw [k_isName' n S (by omega), if_pos hj, bnd_s, if_neg n1_0, q_dropNewest n S hj, bnd_s, if_neg (show ¬ S.1 20 j = -1 by rw [← hb]; exact hm), if_neg n1_0, if_neg (show ¬ S.1 20 j = -1 by rw [← hb]; exact hm)]
      · unfold fR_forget fR_forget_b22
        rw [r_isName n M (by omega), if_pos hj, bnd_s, if_neg n1_0, r_newest n M hj, bnd_s, hnw, p1_m1, he2]
        simp (disch := omega) only [bnd_s, gf, pf, rd_at, wr_at, nI_add, pk_mul, Nat.add_zero, zt_0, zt_1, r_cellAt, r_editAt, r_objAt, y_lt, y_nlt, y_le, y_nle, y_ne, y_eq, y_n0, y_00, y_l0, y_0l, y_le0, y_m1, y_m1', y_ml, y_m0, y_0m, y_mm, y_lem, y_mle, ↓reduceIte, if_true, if_false]
      · rw [im_pn]; exact WF_forget hW
      · rw [im_pn, mS_uf]
        exact RelI_newest hR hW.1 hj (w := -1)
      · obtain ⟨t, ht, t1, t2, t3⟩ := hT
        refine ⟨t, ht, ?_, ?_, fun i hi => ?_⟩
        · show mS x.1 20 j (-1) 1 0 = _; rw [mS_ne (by omega)]; exact t1
        · rw [mS_ne (by omega)]; exact t2
        · show _ = mS x.1 20 j (-1) 0 i
          rw [mS_ne (by omega), mS_ne (by omega)]; exact t3 i hi
      · obtain ⟨g0, g1, g2, g3⟩ := hCm
        refine ⟨?_, ?_, ?_, ?_⟩
        · show _ = mS x.1 20 j (-1) 2 0
          rw [mS_ne (by omega), mS_ne (by omega)]; exact g0
        · show _ = mS x.1 20 j (-1) 3 0
          rw [mS_ne (by omega), mS_ne (by omega)]; exact g1
        · show _ = mS x.1 20 j (-1) 4 0
          rw [mS_ne (by omega), mS_ne (by omega)]; exact g2
        · show _ = mS x.1 20 j (-1) 5 0
          rw [mS_ne (by omega), mS_ne (by omega)]; exact g3
/-- both sides set one field of an object -/
theorem j_carry {S : CS} {x : X} {M : MR} {o t : Nat} : ∀ d f k k' (S : CS) (x : X) (M : MR), f + d = 10 → d < k → d < k' → CR S x → WF (im x) → RelI (im x) (M 0) → o < bO (im x) → t < bO (im x) → ∃ S' x' M', f0_carryFields_l2 n k (nI o) (nI t) (nI f) S = some (0, S') ∧ fR_convert_l49 n k' (nI o) (nI t) (nI f) M = some (nI t, M') ∧ CR S' x' ∧ WF (im x') ∧ RelI (im x') (M' 0) ∧ x'.1 = x.1 ∧ (x'.2.2.2 = x.2.2.2 ∧ bC (im x') = bC (im x) ∧ bce (im x') = bce (im x)) ∧ (∀ a, a ≠ 0 → M' a = M a) ∧ ∀ i, 20870 ≤ i → M' 0 i = M 0 i
  | 0, f, k, k', S, x, M, hf, hk, hk', h, hW, hR, ho, ht => by
    obtain ⟨k, rfl⟩ : ∃ q, k = q + 1 := ⟨k - 1, by omega⟩
    obtain ⟨k', rfl⟩ : ∃ q, k' = q + 1 := ⟨k' - 1, by omega⟩
    obtain rfl : f = 10 := by omega
    rw [f0_carryFields_l2, fR_convert_l49]
    simp (disch := omega) only [y_lt, y_nlt, y_le, y_nle, y_ne, y_eq, y_n0, y_00, y_l0, y_0l, y_le0, y_m1, y_m1', y_ml, y_m0, y_0m, y_mm, y_lem, y_mle, ↓reduceIte, if_true, if_false]
    exact ⟨S, x, M, rfl, rfl, h, hW, hR, rfl, ⟨rfl, rfl, rfl⟩, fun _ _ => rfl, fun _ _ => rfl⟩
  | d + 1, f, k, k', S, x, M, hf, hk, hk', h, hW, hR, ho, ht => by
    obtain ⟨k, rfl⟩ : ∃ q, k = q + 1 := ⟨k - 1, by omega⟩
    obtain ⟨k', rfl⟩ : ∃ q, k' = q + 1 := ⟨k' - 1, by omega⟩
    have hB := hW.1
    have hf' : f < 10 := by omega
    rw [f0_carryFields_l2, fR_convert_l49]
    have c1 := ri_ok hR ho hf'
    have c2 := ri_ok hR ht hf'
    have c3 := ri_ov hR ho hf'
    by_cases h1 : bob (im x) o (1 + f) = -1
    · obtain ⟨S', x', M', q1, q2, q⟩ := j_carry (S := S) (x := x) (M := M) d (f + 1) k k' S x M (by omega) (by omega) (by omega) h hW hR ho ht
      refine ⟨S', x', M', ?_, ?_, q⟩
      · simp (disch := omega) only [bnd_s, xg0 _ h, xg1 _ h, xg2 _ h, xg3 _ h, xg4 _ h, xg5 _ h, xg6 _ h, xg7 _ h, xz0 _ h, xz1 _ h, xz2 _ h, xz3 _ h, xz4 _ h, xz5 _ h, xz6 _ h, xz7 _ h, xh5 _ h, xh6 _ h, xh7 _ h, xcg h, xcr h, nI_add, pk_mul, Nat.add_zero, zt_0, zt_1, y_lt, y_nlt, y_le, y_nle, y_ne, y_eq, y_n0, y_00, y_l0, y_0l, y_le0, y_m1, y_m1', y_ml, y_m0, y_0m, y_mm, y_lem, y_mle, ↓reduceIte, if_true, if_false, f0_hasField, ho, h1, f0_carryFields_b55, q1]
      · by_cases h2 : bob (im x) t (1 + f) = -1
        · simp (disch := omega) only [bnd_s, gf, pf, rd_at, wr_at, nI_add, pk_mul, Nat.add_zero, zt_0, zt_1, r_cellAt, r_editAt, r_objAt, y_lt, y_nlt, y_le, y_nle, y_ne, y_eq, y_n0, y_00, y_l0, y_0l, y_le0, y_m1, y_m1', y_ml, y_m0, y_0m, y_mm, y_lem, y_mle, ↓reduceIte, if_true, if_false, c1, c2, h1, h2, m1_p1, fR_convert_b151, q2]
        · simp (disch := omega) only [bnd_s, gf, pf, rd_at, wr_at, nI_add, pk_mul, Nat.add_zero, zt_0, zt_1, r_cellAt, r_editAt, r_objAt, y_lt, y_nlt, y_le, y_nle, y_ne, y_eq, y_n0, y_00, y_l0, y_0l, y_le0, y_m1, y_m1', y_ml, y_m0, y_0m, y_mm, y_lem, y_mle, ↓reduceIte, if_true, if_false, c1, c2, h1, h2, m1_p1, fR_convert_b151, q2]
    · by_cases h2 : bob (im x) t (1 + f) = -1
      · obtain ⟨S', x', M', q1, q2, q⟩ := j_carry (S := S) (x := x) (M := M) d (f + 1) k k' S x M (by omega) (by omega) (by omega) h hW hR ho ht
        refine ⟨S', x', M', ?_, ?_, q⟩
        · simp (disch := omega) only [bnd_s, xg0 _ h, xg1 _ h, xg2 _ h, xg3 _ h, xg4 _ h, xg5 _ h, xg6 _ h, xg7 _ h, xz0 _ h, xz1 _ h, xz2 _ h, xz3 _ h, xz4 _ h, xz5 _ h, xz6 _ h, xz7 _ h, xh5 _ h, xh6 _ h, xh7 _ h, xcg h, xcr h, nI_add, pk_mul, Nat.add_zero, zt_0, zt_1, y_lt, y_nlt, y_le, y_nle, y_ne, y_eq, y_n0, y_00, y_l0, y_0l, y_le0, y_m1, y_m1', y_ml, y_m0, y_0m, y_mm, y_lem, y_mle, ↓reduceIte, if_true, if_false, f0_hasField, ho, ht, h1, h2, f0_carryFields_b55, q1]
        · simp (disch := omega) only [bnd_s, gf, pf, rd_at, wr_at, nI_add, pk_mul, Nat.add_zero, zt_0, zt_1, r_cellAt, r_editAt, r_objAt, y_lt, y_nlt, y_le, y_nle, y_ne, y_eq, y_n0, y_00, y_l0, y_0l, y_le0, y_m1, y_m1', y_ml, y_m0, y_0m, y_mm, y_lem, y_mle, ↓reduceIte, if_true, if_false, c1, c2, h1, h2, m1_p1, fR_convert_b151, q2]
      · have hv := ((hW.2.2.2.1 o ho).2 f hf').resolve_left h1
        have hS : f0_setField n (nI t) (nI f) (bob (im x) o (1 + f)) (bob (im x) o (11 + f)) S = some (0, tset (tset S 7 t (1 + f) (bob (im x) o (1 + f))) 7 t (11 + f) (bob (im x) o (11 + f))) := q_setField n (h.2.1 7 (by decide)) ht hf'
        have h' : CR (tset (tset S 7 t (1 + f) (bob (im x) o (1 + f))) 7 t (11 + f) (bob (im x) o (11 + f))) (st (st x 7 t (1 + f) (bob (im x) o (1 + f))) 7 t (11 + f) (bob (im x) o (11 + f))) := CR_st (by decide) (show 11 + f < 21 by omega) (CR_st (by decide) (show 1 + f < 21 by omega) h)
        have hR' := RelI_field hR hW.1 ht hf' (a := bob (im x) o (1 + f)) (b := bob (im x) o (11 + f))
        obtain ⟨S', x', M', q1, q2, q3, q4, q5, q6, q7, q8, q9⟩ := j_carry (S := S) (x := x) (M := M) d (f + 1) k k' _ _ (mS (mS M 0 (17720 + 21 * t + 1 + f) (bob (im x) o (1 + f) + nI 1)) 0 (17720 + 21 * t + 11 + f) (bob (im x) o (11 + f))) (by omega) (by omega) (by omega) h' (WF_field hW ht hf' hv) hR' ho ht
        refine ⟨S', x', M', ?_, ?_, q3, q4, q5, q6, q7, fun a ha => by rw [q8 a ha, mS_o ha, mS_o ha], fun i hi => by rw [q9 i hi, mS_ne2 (by omega), mS_ne2 (by omega)]⟩
        · simp (disch := omega) only [bnd_s, xg0 _ h, xg1 _ h, xg2 _ h, xg3 _ h, xg4 _ h, xg5 _ h, xg6 _ h, xg7 _ h, xz0 _ h, xz1 _ h, xz2 _ h, xz3 _ h, xz4 _ h, xz5 _ h, xz6 _ h, xz7 _ h, xh5 _ h, xh6 _ h, xh7 _ h, xcg h, xcr h, nI_add, pk_mul, Nat.add_zero, zt_0, zt_1, y_lt, y_nlt, y_le, y_nle, y_ne, y_eq, y_n0, y_00, y_l0, y_0l, y_le0, y_m1, y_m1', y_ml, y_m0, y_0m, y_mm, y_lem, y_mle, ↓reduceIte, if_true, if_false, f0_hasField, ho, ht, h1, h2, f0_carryFields_b55, hS, q1]
        · have c4 : mS M 0 (17720 + 21 * t + 1 + f) (bob (im x) o (1 + f) + nI 1) 0 (17720 + 21 * o + 11 + f) = bob (im x) o (11 + f) := by rw [mS_ne2 (by omega), c3]
          simp (disch := omega) only [bnd_s, gf, pf, rd_at, wr_at, nI_add, pk_mul, Nat.add_zero, zt_0, zt_1, r_cellAt, r_editAt, r_objAt, y_lt, y_nlt, y_le, y_nle, y_ne, y_eq, y_n0, y_00, y_l0, y_0l, y_le0, y_m1, y_m1', y_ml, y_m0, y_0m, y_mm, y_lem, y_mle, ↓reduceIte, if_true, if_false, c1, c2, h1, h2, m1_p1, fR_convert_b151, c4, q2]
theorem op_convert (hn : 1000 ≤ n) (a b : Int32) : OpS (f4_convert n a b) (fR_convert n a b) := by
  intro S x M h hM
  obtain ⟨hW, hR, hT, hCm, hF⟩ := id hM
  have hB := hW.1
  have hs : ∀ r, f4_convert n a b S = some (r, S) → fR_convert n a b M = some (r, M) → ∃ r S' x' M', f4_convert n a b S = some (r, S') ∧ fR_convert n a b M = some (r, M') ∧ CR S' x' ∧ Mn x' M' ∧ x'.2.2.2 = x.2.2.2 ∧ M' 1 = M 1 ∧ ∀ i, 20870 ≤ i → M' 0 i = M 0 i := fun r h1 h2 => ⟨r, S, x, M, h1, h2, h, hM, rfl, rfl, fun _ _ => rfl⟩
  obtain ⟨v, hv1, hv2, hv3⟩ : ∃ v, f0_newestOf n b S = some (v, S) ∧ fR_newest n b M = some (v, M) ∧ (v = -1 ∨ ∃ e, e < bE (im x) ∧ v = nI e) := by
    by_cases ho : b < 0 ∨ nI 16 ≤ b
    · exact ⟨-1, q_newestOf_o n S ho, r_newest_o n M ho, Or.inl rfl⟩
    · rcases i_cases b with hb | ⟨j, hj0, rfl⟩
      · exact absurd (Or.inl hb) ho
      have hj : j < 16 := Nat.lt_of_not_le (fun hh => ho (Or.inr (nI_le hh hj0)))
      refine ⟨bnw (im x) j, ?_, ?_, ?_⟩
      · rw [q_newestOf n S hj, h.1 20 (by decide)]; rfl
      · rw [r_newest n M hj, hR.1.2.2.2 j hj, p1_m1]
      · rcases hW.2.2.2.2 j hj with q | ⟨e, q1, q2, _⟩
        · exact Or.inl q
        · exact Or.inr ⟨e, q1, q2⟩
  rcases i_cases a with ha | ⟨o, ho0, rfl⟩
  · refine hs (-1) ?_ ?_
    · unfold f4_convert
      simp (disch := omega) only [hv1, bnd_s, b_has_n n (show 7 < 8 by decide) ha, y_lt, y_nlt, y_le, y_nle, y_ne, y_eq, y_n0, y_00, y_l0, y_0l, y_le0, y_m1, y_m1', y_ml, y_m0, y_0m, y_mm, y_lem, y_mle, ↓reduceIte, if_true, if_false]
    · unfold fR_convert
      simp (disch := omega) only [hv2, bnd_s, r_isObject_n n M ha, y_lt, y_nlt, y_le, y_nle, y_ne, y_eq, y_n0, y_00, y_l0, y_0l, y_le0, y_m1, y_m1', y_ml, y_m0, y_0m, y_mm, y_lem, y_mle, ↓reduceIte, if_true, if_false]
  · by_cases ho : o < bO (im x)
    · rcases hv3 with rfl | ⟨e, he, rfl⟩
      · refine hs (-1) ?_ ?_
        · unfold f4_convert
          simp (disch := omega) only [hv1, bnd_s, xg0 _ h, xg1 _ h, xg2 _ h, xg3 _ h, xg4 _ h, xg5 _ h, xg6 _ h, xg7 _ h, xz0 _ h, xz1 _ h, xz2 _ h, xz3 _ h, xz4 _ h, xz5 _ h, xz6 _ h, xz7 _ h, xh5 _ h, xh6 _ h, xh7 _ h, xcg h, xcr h, nI_add, pk_mul, Nat.add_zero, zt_0, zt_1, ho, y_lt, y_nlt, y_le, y_nle, y_ne, y_eq, y_n0, y_00, y_l0, y_0l, y_le0, y_m1, y_m1', y_ml, y_m0, y_0m, y_mm, y_lem, y_mle, ↓reduceIte, if_true, if_false]
        · unfold fR_convert fR_isClass
          simp (disch := omega) only [hv2, bnd_s, r_isObject n M _ _ hR.1.2.2.1, ho, r_isEdition_n n M m1_lt, zt_0, y_lt, y_nlt, y_le, y_nle, y_ne, y_eq, y_n0, y_00, y_l0, y_0l, y_le0, y_m1, y_m1', y_ml, y_m0, y_0m, y_mm, y_lem, y_mle, ↓reduceIte, if_true, if_false]
      · by_cases hc : bed (im x) e 2 = nI 1
        · by_cases hO : bO (im x) < 150
          · obtain ⟨S1, k1, h1⟩ := xk_addObject n hn h he hB.2.1 hO
            obtain ⟨M1, r1, r2, r3, r4⟩ := r_newObject n hn hW hR he hc hO
            obtain ⟨S', x', M', q1, q2, q3, q4, q5, q6, q7, q8, q9⟩ := j_carry n (S := S) (x := x) (M := M) 10 0 n n S1 (pO x e 10) M1 (by omega) (by omega) (by omega) h1 (WF_newO hW he hc hO) r4 (show o < bO (im x) + 1 by omega) (show bO (im x) < bO (im x) + 1 by omega)
            refine ⟨nI (bO (im x)), S', x', M', ?_, ?_, q3, ⟨q4, q5, ?_, ?_, by unfold Fz; rw [q7.2.1, q7.2.2]; exact hF⟩, q7.1, by rw [q8 1 (by omega), r2 1 (by omega)], fun i hi => by rw [q9 i hi, r3 i hi]⟩
            · unfold f4_convert f0_carryFields
              simp (disch := omega) only [hv1, bnd_s, xg0 _ h, xg1 _ h, xg2 _ h, xg3 _ h, xg4 _ h, xg5 _ h, xg6 _ h, xg7 _ h, xz0 _ h, xz1 _ h, xz2 _ h, xz3 _ h, xz4 _ h, xz5 _ h, xz6 _ h, xz7 _ h, xh5 _ h, xh6 _ h, xh7 _ h, xcg h, xcr h, nI_add, pk_mul, Nat.add_zero, zt_0, zt_1, ho, y_lt, y_nlt, y_le, y_nle, y_ne, y_eq, y_n0, y_00, y_l0, y_0l, y_le0, y_m1, y_m1', y_ml, y_m0, y_0m, y_mm, y_lem, y_mle, ↓reduceIte, if_true, if_false, xk_isClass n h he, hc, k1]
              rw [show f0_carryFields_l2 n n (nI o) (nI (x.2.1 7)) (nI 0) S1 = some (0, S') from q1, bnd_s]
              rw [if_neg (fun q => m1_n (x.2.1 7) (Nat.lt_trans hO (by decide)) q.symm)]
              rfl
            · unfold fR_convert
              simp (disch := omega) only [hv2, bnd_s, gf, pf, rd_at, wr_at, nI_add, pk_mul, Nat.add_zero, zt_0, zt_1, r_cellAt, r_editAt, r_objAt, r_isObject n M _ _ hR.1.2.2.1, ho, y_lt, y_nlt, y_le, y_nle, y_ne, y_eq, y_n0, y_00, y_l0, y_0l, y_le0, y_m1, y_m1', y_ml, y_m0, y_0m, y_mm, y_lem, y_mle, ↓reduceIte, if_true, if_false, r_isClass' n hR he, hc, hR.1.2.2.1, r1, q2]
            · obtain ⟨t, ht, t1, t2, t3⟩ := hT
              refine ⟨t, ht, by rw [q6]; exact t1, by rw [q8 3 (by omega), r2 3 (by omega)]; exact t2, fun i hi => by rw [q8 2 (by omega), r2 2 (by omega), q6]; exact t3 i hi⟩
            · unfold Cm
              rw [q6, q8 30 (by omega), r2 30 (by omega), q8 31 (by omega), r2 31 (by omega), q8 32 (by omega), r2 32 (by omega), q8 33 (by omega), r2 33 (by omega)]
              exact hCm
          · have hO' : bO (im x) = 150 := by omega
            refine hs (-2) ?_ ?_
            · unfold f4_convert
              simp (disch := omega) only [hv1, bnd_s, xg0 _ h, xg1 _ h, xg2 _ h, xg3 _ h, xg4 _ h, xg5 _ h, xg6 _ h, xg7 _ h, xz0 _ h, xz1 _ h, xz2 _ h, xz3 _ h, xz4 _ h, xz5 _ h, xz6 _ h, xz7 _ h, xh5 _ h, xh6 _ h, xh7 _ h, xcg h, xcr h, nI_add, pk_mul, Nat.add_zero, zt_0, zt_1, ho, y_lt, y_nlt, y_le, y_nle, y_ne, y_eq, y_n0, y_00, y_l0, y_0l, y_le0, y_m1, y_m1', y_ml, y_m0, y_0m, y_mm, y_lem, y_mle, ↓reduceIte, if_true, if_false, xk_isClass n h he, hc, xk_addObjectF n hn h he hB.2.1 hO']
            · unfold fR_convert
              simp (disch := omega) only [hv2, bnd_s, gf, pf, rd_at, wr_at, nI_add, pk_mul, Nat.add_zero, zt_0, zt_1, r_cellAt, r_editAt, r_objAt, r_isObject n M _ _ hR.1.2.2.1, ho, y_lt, y_nlt, y_le, y_nle, y_ne, y_eq, y_n0, y_00, y_l0, y_0l, y_le0, y_m1, y_m1', y_ml, y_m0, y_0m, y_mm, y_lem, y_mle, ↓reduceIte, if_true, if_false, r_isClass' n hR he, hc, hR.1.2.2.1]
        · refine hs (-1) ?_ ?_
          · unfold f4_convert
            simp (disch := omega) only [hv1, bnd_s, xg0 _ h, xg1 _ h, xg2 _ h, xg3 _ h, xg4 _ h, xg5 _ h, xg6 _ h, xg7 _ h, xz0 _ h, xz1 _ h, xz2 _ h, xz3 _ h, xz4 _ h, xz5 _ h, xz6 _ h, xz7 _ h, xh5 _ h, xh6 _ h, xh7 _ h, xcg h, xcr h, nI_add, pk_mul, Nat.add_zero, zt_0, zt_1, ho, y_lt, y_nlt, y_le, y_nle, y_ne, y_eq, y_n0, y_00, y_l0, y_0l, y_le0, y_m1, y_m1', y_ml, y_m0, y_0m, y_mm, y_lem, y_mle, ↓reduceIte, if_true, if_false, xk_isClass n h he, hc]
          · unfold fR_convert
            simp (disch := omega) only [hv2, bnd_s, gf, pf, rd_at, wr_at, nI_add, pk_mul, Nat.add_zero, zt_0, zt_1, r_cellAt, r_editAt, r_objAt, r_isObject n M _ _ hR.1.2.2.1, ho, y_lt, y_nlt, y_le, y_nle, y_ne, y_eq, y_n0, y_00, y_l0, y_0l, y_le0, y_m1, y_m1', y_ml, y_m0, y_0m, y_mm, y_lem, y_mle, ↓reduceIte, if_true, if_false, r_isClass' n hR he, hc]
    · refine hs (-1) ?_ ?_
      · unfold f4_convert
        simp (disch := omega) only [hv1, bnd_s, xg0 _ h, xg1 _ h, xg2 _ h, xg3 _ h, xg4 _ h, xg5 _ h, xg6 _ h, xg7 _ h, xz0 _ h, xz1 _ h, xz2 _ h, xz3 _ h, xz4 _ h, xz5 _ h, xz6 _ h, xz7 _ h, xh5 _ h, xh6 _ h, xh7 _ h, xcg h, xcr h, nI_add, pk_mul, Nat.add_zero, zt_0, zt_1, ho, y_lt, y_nlt, y_le, y_nle, y_ne, y_eq, y_n0, y_00, y_l0, y_0l, y_le0, y_m1, y_m1', y_ml, y_m0, y_0m, y_mm, y_lem, y_mle, ↓reduceIte, if_true, if_false]
      · unfold fR_convert
        simp (disch := omega) only [hv2, bnd_s, r_isObject n M _ _ hR.1.2.2.1, ho, y_lt, y_nlt, y_le, y_nle, y_ne, y_eq, y_n0, y_00, y_l0, y_0l, y_le0, y_m1, y_m1', y_ml, y_m0, y_0m, y_mm, y_lem, y_mle, ↓reduceIte, if_true, if_false]
end PUT
