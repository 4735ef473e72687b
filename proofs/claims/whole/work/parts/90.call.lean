section CALL
variable {S : CS} {x : X} {M : MR} {q : Nat} (n : Nat)
theorem x_addPairF {k : Nat} {ρ : Type} {a b : Int32} {K : Int32 → CS → Option ρ} (hk : k < 8) (h : CR S x) (hR : x.2.1 k = mk k) : bT k S (f2_addPair n a b (tOf k S)) K = K 0 S := by
  have hs := h.2.1 k hk
  rw [hR] at hs
  unfold f2_addPair
  rw [p_addF n hs, bnd_s, p_set_o n hs (Or.inl m1_lt), bnd_s, p_set_o n hs (Or.inl m1_lt), bnd_s, bT_s, tIn_tOf k hk]
theorem a_15 (hn : 1000 ≤ n) (hC : CR S x) (hW : WF (im x)) (hR : RelI (im x) (M 0)) (hP : PlR x M) (hWr : WriS x M) (hp : x.2.1 3 = q + 1) (hq : q < 1241) (t k : Int32) : PA n x M S q (actC n t (nI 15) k S) (actR n t (nI 15) k M) := by
  have hB := hW.1
  have h12 : M 12 0 = nI (q + 1) := by rw [hP.1, hp]
  obtain ⟨g1, g2, g3⟩ := hP.2 q (by omega)
  obtain ⟨s, w, hs, hw, x16, m23, x15, m25, x2, hwr⟩ := hWr
  have eC : actC n t (nI 15) k S = f3_write n S := by
    unfold actC
    simp (disch := omega) only [y_lt, y_nlt, y_le, y_nle, y_ne, y_eq, y_n0, y_00, y_l0, y_0l, y_le0, y_m1, y_m1', y_ml, y_m0, y_0m, y_mm, y_lem, y_mle, ↓reduceIte, if_true, if_false]
    exact bnd_eta
  have eR : actR n t (nI 15) k M = bnd (fR_write n M) (fun _ M17 => some (0, M17)) := by
    unfold actR
    rw [if_neg (by decide), if_neg (by decide), if_pos (by decide), if_pos (by decide), if_pos (by decide), if_neg (by decide), if_neg (by decide), if_pos rfl]
  rw [eC, eR]
  have hC1 : CR (mS S.1 15 0 (nI (w + 1)), S.2) (pv x 15 0 (nI (w + 1))) := CR_pv (by decide) hC
  have hp1 : (pv x 15 0 (nI (w + 1))).2.1 3 = q + 1 := hp
  have hi1 : im (pv x 15 0 (nI (w + 1))) = im x := im_pv (by omega)
  have eC2 : f3_write n S = bT 2 (mS S.1 15 0 (nI (w + 1)), S.2) (f2_addPair n (x.2.2.1 3 q 0) (x.2.2.1 3 q 1) (tOf 2 (mS S.1 15 0 (nI (w + 1)), S.2))) fun _ S5 => some (nI 0, S5) := by
    unfold f3_write
    rw [xcg hC (by decide), x15, nI_add, cp_e, x_kind n hC1 hp1 (show 0 < q + 1 by omega), bnd_s, x_num n hC1 hp1 (show 0 < q + 1 by omega), bnd_s, show q + 1 - 1 - 0 = q by omega]
    rfl
  rw [eC2]
  have eR2 : ∀ M', M' 25 0 = nI w → fR_write_b49 n M' = some (0, mS M' 25 0 (nI (w + 1))) := fun M' h => by
    unfold fR_write_b49
    rw [gf_e h, nI_add]; rfl
  unfold fR_write
  rw [gf_e m25]
  by_cases hw20 : w < 20
  · have hR2 : (pv x 15 0 (nI (w + 1))).2.1 2 < 20 := by show x.2.1 2 < 20; omega
    have hx2 : (pv x 15 0 (nI (w + 1))).2.1 2 = w := by show x.2.1 2 = w; omega
    obtain ⟨S2, e1, c2⟩ := Rc_addPair n (k := 2) (a := x.2.2.1 3 q 0) (b := x.2.2.1 3 q 1) (K := fun _ S13 => some (nI 0, S13)) (by decide) hC1 hR2 (by omega) (r := nI 0) (Q := fun S' => CR S' (tpx (pv x 15 0 (nI (w + 1))) 2 w (x.2.2.1 3 q 0) (x.2.2.1 3 q 1))) (fun S' h' => Ru_some (by rw [hx2] at h'; exact h'))
    rw [e1, if_neg (nI_ge hw20 (by omega)), gf_e m25, gf_e h12, pk_sub (by omega), Nat.add_sub_cancel, rd_at (by omega) (by decide), g1, wz_at (VOk_bo g3) hw20 (by decide), gf_e (show mS M 26 w (x.2.2.1 3 q 0) 25 0 = nI w by rw [mS_ne (by omega)]; exact m25), gf_e (show mS M 26 w (x.2.2.1 3 q 0) 12 0 = nI (q + 1) by rw [mS_ne (by omega)]; exact h12), pk_sub (by omega), Nat.add_sub_cancel, rd_at (by omega) (by decide), mS_ne (by omega), g2, wr_at hw20 (by decide), eR2 _ (by rw [mS_ne (by omega), mS_ne (by omega)]; exact m25), bnd_s]
    have hi2 : im (tpx (pv x 15 0 (nI (w + 1))) 2 w (x.2.2.1 3 q 0) (x.2.2.1 3 q 1)) = im x := by
      unfold tpx
      rw [im_st0 (by decide), im_st0 (by decide), im_ad0 (by decide), hi1]
    have hc := fun i c => @tpx_c (pv x 15 0 (nI (w + 1))) 2 i c (x.2.2.1 3 q 0) (x.2.2.1 3 q 1)
    rw [hx2] at hc
    have h3 : (tpx (pv x 15 0 (nI (w + 1))) 2 w (x.2.2.1 3 q 0) (x.2.2.1 3 q 1)).2.2.1 3 = x.2.2.1 3 := tpx_cn (by decide)
    refine Or.inl ⟨x.2.2.1 3 q 0, x.2.2.1 3 q 1, S2, _, _, rfl, rfl, c2, ⟨(tpx_rn (by decide)).trans hp, by rw [h3], by rw [h3], fun i _ => by rw [h3]; exact ⟨rfl, rfl⟩, tpx_rn (by decide), tpx_cn (by decide), fun a ha => pv_o ha, rfl⟩, ⟨by rw [mS_ne (by omega), mS_ne (by omega), mS_ne (by omega)]; exact h12, by rw [mS_ne (by omega), mS_ne (by omega), mS_ne (by omega)]; exact g1, by rw [mS_ne (by omega), mS_ne (by omega), mS_ne (by omega)]; exact g2, fun i _ => by rw [mS_ne (by omega), mS_ne (by omega), mS_ne (by omega), mS_ne (by omega), mS_ne (by omega), mS_ne (by omega)]; exact ⟨rfl, rfl⟩, fun a a0 a1 a2 a3 a4 a5 a6 => by rw [mS_o a4, mS_o a6, mS_o a5], fun i _ => by rw [mS_ne (by omega), mS_ne (by omega), mS_ne (by omega)]⟩, by rw [hi2]; exact g3, by rw [hi2]; exact hW, by rw [hi2, mS_o (by omega), mS_o (by omega), mS_o (by omega)]; exact hR, ⟨s, w + 1, hs, by omega, ?_, ?_, ?_, mS_eq, ?_, fun i hi => ?_⟩, by rw [hi2]; exact Ims_refl _⟩
    · show (pv x 15 0 (nI (w + 1))).1 16 0 = _; rw [pv_o (by omega)]; exact x16
    · rw [mS_ne (by omega), mS_ne (by omega), mS_ne (by omega)]; exact m23
    · show (pv x 15 0 (nI (w + 1))).1 15 0 = _; exact pv_e
    · rw [tpx_r, hx2]; omega
    · rw [hc, hc]
      by_cases hiw : i = w
      · subst hiw
        rw [if_pos rfl, if_pos rfl, if_pos rfl, if_neg (by decide), if_pos rfl, mS_ne (by omega), mS_ne (by omega), mS_eq, mS_ne (by omega), mS_eq]
        exact ⟨rfl, rfl, VOk_01 g3⟩
      · rw [if_neg hiw, if_neg hiw, mS_ne (by omega), mS_ne (by omega), mS_ne2 hiw, mS_ne (by omega), mS_ne2 hiw, mS_ne (by omega)]
        exact hwr i (by omega)
  · have hR2 : (pv x 15 0 (nI (w + 1))).2.1 2 = mk 2 := by show x.2.1 2 = 20; omega
    rw [x_addPairF n (by decide) hC1 hR2, if_pos (nI_le (by omega) (by omega)), eR2 _ m25, bnd_s]
    refine Or.inl ⟨x.2.2.1 3 q 0, x.2.2.1 3 q 1, _, _, _, rfl, rfl, hC1, ⟨hp, rfl, rfl, fun _ _ => ⟨rfl, rfl⟩, rfl, rfl, fun a ha => pv_o ha, rfl⟩, ⟨by rw [mS_ne (by omega)]; exact h12, by rw [mS_ne (by omega)]; exact g1, by rw [mS_ne (by omega)]; exact g2, fun i _ => by rw [mS_ne (by omega), mS_ne (by omega)]; exact ⟨rfl, rfl⟩, fun a a0 a1 a2 a3 a4 a5 a6 => mS_o a4, fun i _ => mS_ne (by omega)⟩, by rw [hi1]; exact g3, by rw [hi1]; exact hW, by rw [hi1, mS_o (by omega)]; exact hR, ⟨s, w + 1, hs, by omega, ?_, ?_, ?_, mS_eq, ?_, fun i hi => ?_⟩, by rw [hi1]; exact Ims_refl _⟩
    · rw [pv_o (by omega)]; exact x16
    · rw [mS_ne (by omega)]; exact m23
    · exact pv_e
    · show x.2.1 2 = _; omega
    · rw [mS_ne (by omega), mS_ne (by omega)]
      exact hwr i (by omega)
-- ===== frames come =====
def opf (x : X) (f : Nat) (r a b : Int32) : X := st (st (st (st (ad x 4) 4 f 0 r) 4 f 1 a) 4 f 2 b) 4 f 6 (-1)
theorem x_openFrame (hn : 1000 ≤ n) (hC : CR S x) {f : Nat} (hf : x.2.1 4 = f) (hf2 : f < 21) {r a b : Int32} : Ru (f3_openFrame n r a b S) (nI f) (fun S' => CR S' (opf x f r a b)) := by
  unfold f3_openFrame
  refine Rc_add n (by decide) hC (by rw [hf]; exact hf2) (by omega) (fun S1 h1 => ?_)
  have hr : f < (ad x 4).2.1 4 := by show f < uf x.2.1 4 (x.2.1 4 + 1) 4; rw [uf_eq, hf]; omega
  rw [hf]
  exact Rc_set n (by decide) h1 hr (show 0 < 8 by decide) (fun S2 h2 => Rc_set n (by decide) h2 hr (show 1 < 8 by decide) (fun S3 h3 => Rc_set n (by decide) h3 hr (show 2 < 8 by decide) (fun S4 h4 => Rc_set n (by decide) h4 hr (show 6 < 8 by decide) (fun S5 h5 => Ru_some h5))))
theorem opf_c {f : Nat} (hf : x.2.1 4 = f) {r a b : Int32} {i c : Nat} : (opf x f r a b).2.2.1 4 i c = if i = f then (if c = 6 then -1 else if c = 2 then b else if c = 1 then a else if c = 0 then r else 0) else x.2.2.1 4 i c := by
  show st2 (st2 (st2 (st2 (fun r c => if r = x.2.1 4 then 0 else x.2.2.1 4 r c) f 0 r) f 1 a) f 2 b) f 6 (-1) i c = _
  rw [hf]
  unfold st2
  by_cases hi : i = f
  · by_cases c6 : c = 6
    · simp [hi, c6]
    · by_cases c2 : c = 2
      · simp [hi, c2]
      · by_cases c1 : c = 1
        · simp [hi, c1]
        · by_cases c0 : c = 0
          · simp [hi, c0]
          · simp [hi, c6, c2, c1, c0]
  · simp [hi]
def frM (M : MR) (f : Nat) (e a b o s : Int32) (k : Nat) : MR := mS (mS (mS (mS (mS (mS (mS (mS (mS M 13 f e) 14 f a) 15 f b) 16 f o) 19 f s) 17 f (nI 0)) 18 f (nI 0)) 20 0 (nI (f + 1))) 21 0 (nI k)
theorem r_frame {f k : Nat} {e a b o s : Int32} (h20 : M 20 0 = nI f) (hf : f < 22) (h21 : M 21 0 = nI k) (hk : k < 100) : fR_frame n e a b o s M = some (0, frM M f e a b o s (if e < 0 then k else k + 1)) := by
  have e20 : ∀ (M' : MR), M' 20 0 = nI f → ∀ K : Int32 → Option (Int32 × MR), gf M' 20 K = K (nI f) := fun M' h K => gf_e h
  unfold fR_frame frM
  rw [gf_e h20, wr_at hf (by decide), gf_e (v := nI f) (by rw [mS_ne (by omega)]; exact h20), wr_at hf (by decide), gf_e (v := nI f) (by rw [mS_ne (by omega), mS_ne (by omega)]; exact h20), wr_at hf (by decide), gf_e (v := nI f) (by rw [mS_ne (by omega), mS_ne (by omega), mS_ne (by omega)]; exact h20), wr_at hf (by decide), gf_e (v := nI f) (by rw [mS_ne (by omega), mS_ne (by omega), mS_ne (by omega), mS_ne (by omega)]; exact h20), wr_at hf (by decide), gf_e (v := nI f) (by rw [mS_ne (by omega), mS_ne (by omega), mS_ne (by omega), mS_ne (by omega), mS_ne (by omega)]; exact h20), wz_at bo_0 hf (by decide), gf_e (v := nI f) (by rw [mS_ne (by omega), mS_ne (by omega), mS_ne (by omega), mS_ne (by omega), mS_ne (by omega), mS_ne (by omega)]; exact h20), wr_at hf (by decide), gf_e (v := nI f) (by rw [mS_ne (by omega), mS_ne (by omega), mS_ne (by omega), mS_ne (by omega), mS_ne (by omega), mS_ne (by omega), mS_ne (by omega)]; exact h20), pf_e, nI_add]
  rw [gf_e (v := nI k) (by rw [mS_ne (by omega), mS_ne (by omega), mS_ne (by omega), mS_ne (by omega), mS_ne (by omega), mS_ne (by omega), mS_ne (by omega), mS_ne (by omega)]; exact h21)]
  by_cases he : e < 0
  · rw [if_pos he, if_pos he, nI_add, Nat.add_zero]; rfl
  · rw [if_neg he, if_neg he, nI_add]; rfl
end CALL
