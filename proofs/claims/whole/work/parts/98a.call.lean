def clr (x : X) : X := pv (pv (pv (pv (ro (ro (ro x 2 0) 3 0) 4 0) 15 0 (nI 0)) 16 0 (nI 0)) 17 0 (nI 0)) 19 0 (nI 0)
section CLR
variable {x : X} (n : Nat)
theorem x_clear {S : CS} (h : CR S x) : Ru (f3_clear n S) 0 (fun S' => CR S' (clr x)) := by
  unfold f3_clear
  exact Rc_clear n (by decide) h (fun S1 h1 => Rc_clear n (by decide) h1 (fun S2 h2 => Rc_clear n (by decide) h2 (fun S3 h3 => Rc_cp (by decide) h3 (fun S4 h4 => Rc_cp (by decide) h4 (fun S5 h5 => Rc_cp (by decide) h5 (fun S6 h6 => Rc_cp (by decide) h6 (fun S7 h7 => Ru_some h7)))))))
theorem clr_o {a : Nat} (h : a ≠ 15 ∧ a ≠ 16 ∧ a ≠ 17 ∧ a ≠ 19) : (clr x).1 a = x.1 a := by
  unfold clr
  rw [pv_o h.2.2.2, pv_o h.2.2.1, pv_o h.2.1, pv_o h.1]
  rfl
theorem clr_15 : (clr x).1 15 0 = nI 0 := by unfold clr; rw [pv_o (by omega), pv_o (by omega), pv_o (by omega)]; exact pv_e
theorem clr_16 : (clr x).1 16 0 = nI 0 := by unfold clr; rw [pv_o (by omega), pv_o (by omega)]; exact pv_e
theorem clr_17 : (clr x).1 17 0 = nI 0 := by unfold clr; rw [pv_o (by omega)]; exact pv_e
theorem clr_19 : (clr x).1 19 0 = nI 0 := by unfold clr; exact pv_e
theorem clr_2 : (clr x).2.1 2 = 0 := by show uf (uf (uf x.2.1 2 0) 3 0) 4 0 2 = 0; rw [uf_ne (by decide), uf_ne (by decide), uf_eq]
theorem clr_3 : (clr x).2.1 3 = 0 := by show uf (uf (uf x.2.1 2 0) 3 0) 4 0 3 = 0; rw [uf_ne (by decide), uf_eq]
theorem clr_4 : (clr x).2.1 4 = 0 := by show uf (uf (uf x.2.1 2 0) 3 0) 4 0 4 = 0; rw [uf_eq]
theorem clr_k {k : Nat} (h : k < 2 ∨ 5 ≤ k) : (clr x).2.1 k = x.2.1 k := by show uf (uf (uf x.2.1 2 0) 3 0) 4 0 k = _; rw [uf_ne (by omega), uf_ne (by omega), uf_ne (by omega)]
theorem clr_im : im (clr x) = im x := by
  unfold clr
  rw [im_pv (by omega), im_pv (by omega), im_pv (by omega), im_pv (by omega), im_ro0 (by decide), im_ro0 (by decide), im_ro0 (by decide)]
end CLR
theorem mu_le {x : X} (hE : bE (im x) ≤ 150) (h4 : x.2.1 4 ≤ 21) : mu x ≤ 3321 := by
  unfold mu
  have := @zc_le (im x)
  omega
/-- what a call by hand leaves: outcome r, and what came -/
theorem op_call (n : Nat) (hn : 600000 ≤ n) (a b d : Int32) : OpS (f4_call n a b d) (fR_call n a b d) := by
  intro S x M hC hM
  obtain ⟨hW, hR, hT, hCm, hF⟩ := id hM
  have hB := hW.1
  have hs : ∀ r, f4_call n a b d S = some (r, S) → fR_call n a b d M = some (r, M) → ∃ r S' x' M', f4_call n a b d S = some (r, S') ∧ fR_call n a b d M = some (r, M') ∧ CR S' x' ∧ Mn x' M' ∧ x'.2.2.2 = x.2.2.2 ∧ M' 1 = M 1 ∧ ∀ i, 20870 ≤ i → M' 0 i = M 0 i := fun r h1 h2 => ⟨r, S, x, M, h1, h2, hC, hM, rfl, rfl, fun _ _ => rfl⟩
  rcases i_cases a with ha | ⟨o, ho0, rfl⟩
  · refine hs (-1) ?_ ?_
    · unfold f4_call; rw [b_has_n n (by decide) ha, if_pos n0_0]
    · unfold fR_call; rw [r_isObject_n n M ha, bnd_s, if_pos n0_0]
  by_cases ho : ¬ o < bO (im x)
  · refine hs (-1) ?_ ?_
    · unfold f4_call; rw [xh7 n hC ho0, if_neg ho, if_pos n0_0]
    · unfold fR_call; rw [r_isObject n M ho0 (by omega) hR.1.2.2.1, if_neg ho, bnd_s, if_pos n0_0]
  have ho : o < bO (im x) := Decidable.not_not.mp ho
  rcases i_cases b with hb | ⟨m, hm0, rfl⟩
  · refine hs (-1) ?_ ?_
    · unfold f4_call; rw [xh7 n hC ho0, if_pos ho, if_neg n1_0, if_pos hb]
    · unfold fR_call; rw [r_isObject n M ho0 (by omega) hR.1.2.2.1, if_pos ho, bnd_s, if_neg n1_0, if_pos hb]
  by_cases hm : ¬ m < 5
  · refine hs (-1) ?_ ?_
    · unfold f4_call; rw [xh7 n hC ho0, if_pos ho, if_neg n1_0, if_neg (nI_pos hm0), if_neg (nI_nlt (by omega) hm0)]
    · unfold fR_call; rw [r_isObject n M ho0 (by omega) hR.1.2.2.1, if_pos ho, bnd_s, if_neg n1_0, if_neg (nI_pos hm0), if_neg (nI_ge (by omega) hm0)]
  have hm : m < 5 := Decidable.not_not.mp hm
  -- the class begins
  obtain ⟨S1, k1, C1⟩ := x_clear n hC
  have hR3 : ∀ y : X, y.2.1 3 < 1260 → y.2.1 3 < mk 3 := fun y h => h
  have add : ∀ (S : CS) (y : X) (p : Nat) (u v : Int32), CR S y → y.2.1 3 = p → p < 10 → ∃ S', (∀ K : Int32 → CS → Option (Int32 × CS), bT 3 S (f2_addPair n u v (tOf 3 S)) K = K 0 S') ∧ CR S' (tpx y 3 p u v) := by
    intro S y p u v h1 h2 h3
    obtain ⟨S2, w1, w2⟩ := Rc_addPair n (k := 3) (a := u) (b := v) (K := fun v S13 => some (v, S13)) (by decide) h1 (hR3 y (by omega)) (by omega) (r := 0) (Q := fun S' => CR S' (tpx y 3 p u v)) (fun S' h' => Ru_some (by rw [h2] at h'; exact h'))
    obtain ⟨c, hc, hd⟩ := bT_some w1
    refine ⟨S2, fun K => ?_, w2⟩
    rw [hc]
    obtain ⟨hd1, hd2⟩ := Prod.mk.inj (Option.some.inj hd)
    show K c.1 (tIn 3 S c.2) = _
    rw [hd1, hd2]
  obtain ⟨S2, k2, C2⟩ := add S1 (clr x) 0 (nI 1) (nI o) C1 clr_3 (by omega)
  have hx2r : (tpx (clr x) 3 0 (nI 1) (nI o)).2.1 3 = 1 := by rw [tpx_r, clr_3]
  obtain ⟨S3, k3, C3⟩ := add S2 _ 1 (nI 0) d C2 hx2r (by omega)
  obtain ⟨x3, hx3⟩ : ∃ x3, x3 = tpx (tpx (clr x) 3 0 (nI 1) (nI o)) 3 1 (nI 0) d := ⟨_, rfl⟩
  rw [← hx3] at C3
  have e3 : x3.2.1 3 = 0 + 2 := by rw [hx3, tpx_r, hx2r]
  have e31 : x3.1 = (clr x).1 := by rw [hx3]; rfl
  have e3k : ∀ k, k ≠ 3 → x3.2.1 k = (clr x).2.1 k ∧ x3.2.2.1 k = x.2.2.1 k := fun k hk => by rw [hx3, tpx_rn hk, tpx_rn hk, tpx_cn hk, tpx_cn hk]; exact ⟨rfl, rfl⟩
  have e3c : ∀ i c, x3.2.2.1 3 i c = if i = 1 then (if c = 0 then nI 0 else if c = 1 then d else 0) else if i = 0 then (if c = 0 then nI 1 else if c = 1 then nI o else 0) else x.2.2.1 3 i c := by
    intro i c
    have h1 := @tpx_c (tpx (clr x) 3 0 (nI 1) (nI o)) 3 i c (nI 0) d
    have h2 := @tpx_c (clr x) 3 i c (nI 1) (nI o)
    rw [hx2r] at h1
    rw [clr_3] at h2
    rw [hx3, h1, h2]
    rfl
  have e3i : im x3 = im x := by
    rw [hx3]
    unfold tpx
    rw [im_st0 (by decide), im_st0 (by decide), im_ad0 (by decide), im_st0 (by decide), im_st0 (by decide), im_ad0 (by decide), clr_im]
  have e3g : x3.2.2.2 = x.2.2.2 := by rw [hx3]; rfl
  -- the reference begins
  obtain ⟨M7, hM7⟩ : ∃ M7, M7 = mS (mS (mS (mS (mS (mS M 12 0 (nI 0)) 20 0 (nI 0)) 21 0 (nI 0)) 23 0 (nI 0)) 24 0 (nI 0)) 25 0 (nI 0) := ⟨_, rfl⟩
  have hM7o : ∀ j, j ≠ 12 → j ≠ 20 → j ≠ 21 → j ≠ 23 → j ≠ 24 → j ≠ 25 → M7 j = M j := fun j z1 z2 z3 z4 z5 z6 => by rw [hM7, mS_o z6, mS_o z5, mS_o z4, mS_o z3, mS_o z2, mS_o z1]
  have m12 : M7 12 0 = nI 0 := by rw [hM7, mS_ne (by omega), mS_ne (by omega), mS_ne (by omega), mS_ne (by omega), mS_ne (by omega), mS_eq]
  have m20 : M7 20 0 = nI 0 := by rw [hM7, mS_ne (by omega), mS_ne (by omega), mS_ne (by omega), mS_ne (by omega), mS_eq]
  have m21 : M7 21 0 = nI 0 := by rw [hM7, mS_ne (by omega), mS_ne (by omega), mS_ne (by omega), mS_eq]
  have m23 : M7 23 0 = nI 0 := by rw [hM7, mS_ne (by omega), mS_ne (by omega), mS_eq]
  have m24 : M7 24 0 = nI 0 := by rw [hM7, mS_ne (by omega), mS_eq]
  have m25 : M7 25 0 = nI 0 := by rw [hM7, mS_eq]
  obtain ⟨M9, hM9⟩ : ∃ M9, M9 = psh (psh M7 0 (nI 1) (nI o)) 1 (nI 0) d := ⟨_, rfl⟩
  have hM9o : ∀ j, j ≠ 10 → j ≠ 11 → j ≠ 12 → M9 j = M7 j := fun j z1 z2 z3 => by rw [hM9]; unfold psh; rw [mS_o z3, mS_o z2, mS_o z1, mS_o z3, mS_o z2, mS_o z1]
  have hP9 : PlR x3 M9 := by
    refine ⟨?_, fun i hi => ?_⟩
    · rw [hM9, e3]; unfold psh; rw [mS_eq]
    · rw [e3] at hi
      have hi' : i = 0 ∨ i = 1 := by omega
      rw [e3c, e3c, e3i]
      rcases hi' with rfl | rfl
      · refine ⟨?_, ?_, Or.inr ⟨rfl, o, ho, rfl⟩⟩
        · rw [hM9]; unfold psh; rw [mS_ne (by omega), mS_ne (by omega), mS_ne2 (by omega), mS_ne (by omega), mS_ne (by omega), mS_eq]; rfl
        · rw [hM9]; unfold psh; rw [mS_ne (by omega), mS_ne2 (by omega), mS_ne (by omega), mS_ne (by omega), mS_eq]; rfl
      · refine ⟨?_, ?_, Or.inl rfl⟩
        · rw [hM9]; unfold psh; rw [mS_ne (by omega), mS_ne (by omega), mS_eq]; rfl
        · rw [hM9]; unfold psh; rw [mS_ne (by omega), mS_eq]; rfl
  have hW3 : WF (im x3) := by rw [e3i]; exact hW
  have hR9 : RelI (im x3) (M9 0) := by rw [e3i, hM9o 0 (by omega) (by omega) (by omega), hM7o 0 (by omega) (by omega) (by omega) (by omega) (by omega) (by omega)]; exact hR
  have hWr9 : Wri x3 M9 := by
    refine ⟨0, 0, by omega, by omega, by rw [e31]; exact clr_16, by rw [hM9o 23 (by omega) (by omega) (by omega)]; exact m23, by rw [e31]; exact clr_15, by rw [hM9o 25 (by omega) (by omega) (by omega)]; exact m25, by rw [(e3k 2 (by decide)).1, clr_2]; rfl, fun i hi => by simp at hi⟩
  have hj := j_method n (by omega) C3 hW3 hR9 hP9 e3 (by omega) (f := 0) (cf := 0) (m := m) (o := o) (by rw [(e3k 4 (by decide)).1, clr_4]) (by rw [hM9o 20 (by omega) (by omega) (by omega)]; exact m20) (by rw [e31]; exact clr_19) (by omega) (by omega) (by omega) (by rw [hM9o 21 (by omega) (by omega) (by omega)]; exact m21) hm (by rw [e3c]; rfl) (by rw [e3c]; rfl) (by rw [e3i]; exact ho)
  -- the ends of both
  have fx3 : FXw x x3 ∨ True := Or.inr trivial
  have endC : ∀ (r : Nat) (S' : CS) (x' : X) (fl s : Int32), r ≤ 2 → CR S' x' → x'.1 17 0 = fl → x'.1 16 0 = s → (r = 0 → x'.2.1 3 = 1) → ∃ S'', (if nI r = 0 then bnd (f3_lastKind n S') fun v4 S4 => f4_call_b61 n (nI r) v4 S4 else f4_call_b61 n (nI r) (nI 0) S') = some (nI r, S'') ∧ CR S'' (pv (pv (pv (pv x' 2 0 (if r = 0 then x'.2.2.1 3 0 0 else nI 0)) 3 0 (if r = 0 then x'.2.2.1 3 0 1 else nI 0)) 4 0 fl) 5 0 s) := by
    intro r S' x' fl s hr h1 h2 h3 h4
    have fin : ∀ k v S2 x2, CR S2 (pv x2 2 0 k) → x2.1 17 0 = fl → x2.1 16 0 = s → ∃ S'', f4_call_b81 n (nI r) v S2 = some (nI r, S'') ∧ CR S'' (pv (pv (pv (pv x2 2 0 k) 3 0 v) 4 0 fl) 5 0 s) := by
      intro k v S2 x2 c1 c2 c3
      unfold f4_call_b81
      have c4 := CR_pv (a := 3) (i := 0) (w := v) (by decide) c1
      have c5 := CR_pv (a := 4) (i := 0) (w := fl) (by decide) c4
      have c6 := CR_pv (a := 5) (i := 0) (w := s) (by decide) c5
      refine ⟨_, ?_, c6⟩
      rw [cp_e, xcg c4 (by decide), pv_o (by omega), pv_o (by omega), c2, cp_e, xcg c5 (by decide), pv_o (by omega), pv_o (by omega), pv_o (by omega), c3, cp_e]
    by_cases hr0 : r = 0
    · subst hr0
      have hp := h4 rfl
      rw [if_pos n0_0, if_pos rfl, if_pos rfl]
      unfold f3_lastKind f4_call_b61 f3_lastNumber
      rw [x_kind n h1 hp (show 0 < 1 by omega), bnd_s, bnd_s, cp_e, if_pos n0_0]
      have c1 := CR_pv (a := 2) (i := 0) (w := x'.2.2.1 3 0 0) (by decide) h1
      rw [x_num n c1 (show (pv x' 2 0 (x'.2.2.1 3 0 0)).2.1 3 = 1 from hp) (show 0 < 1 by omega), bnd_s, bnd_s]
      exact fin _ _ _ _ c1 h2 h3
    · have hr1 : ¬ nI r = 0 := fun w => by rw [← nI_0, nI_eq (by omega) (by omega)] at w; exact hr0 w
      rw [if_neg hr1, if_neg hr0, if_neg hr0]
      unfold f4_call_b61
      rw [cp_e, if_neg hr1]
      exact fin _ _ _ _ (CR_pv (by decide) h1) h2 h3
  have endR : ∀ (r fl : Nat) (M' : MR) (k v s : Int32), (M' 24 0 = nI fl ∧ M' 23 0 = s) → ((r = 0 ∧ fl = 0 ∧ M' 10 0 = k ∧ M' 11 0 = v ∧ (k = nI 0 ∨ k = nI 1)) ∨ (r = 1 ∧ 1 ≤ fl ∧ fl ≤ 8 ∧ k = nI 0 ∧ v = nI 0) ∨ (r = 2 ∧ fl = 100 ∧ k = nI 0 ∧ v = nI 0)) → fR_call_b78 n M' = some (nI r, mS (mS (mS (mS M' 30 0 k) 31 0 v) 32 0 (nI (if fl = 100 then 0 else fl))) 33 0 s) := by
    intro r fl M' k v s ⟨h1, h2⟩ h
    have b142 : ∀ (N : MR) (u : Int32), N 24 0 = nI fl → N 23 0 = s → r ≤ 2 → ((r = 0 ∧ fl = 0) ∨ (r = 1 ∧ 1 ≤ fl ∧ fl ≤ 8) ∨ (r = 2 ∧ fl = 100)) → fR_call_b142 n u N = some (nI r, mS (mS N 32 0 u) 33 0 s) := by
      intro N u w1 w2 w3 w4
      unfold fR_call_b142
      rw [pf_e, gf_e (show mS N 32 0 u 23 0 = s by rw [mS_ne (by omega)]; exact w2), pf_e, gf_e (show mS (mS N 32 0 u) 33 0 s 24 0 = nI fl by rw [mS_ne (by omega), mS_ne (by omega)]; exact w1)]
      rcases w4 with ⟨rfl, rfl⟩ | ⟨rfl, w5, w6⟩ | ⟨rfl, rfl⟩
      · rw [if_pos n0_0]
      · rw [if_neg (fun w => by rw [← nI_0, nI_eq (by omega) (by omega)] at w; omega), gf_e (show mS (mS N 32 0 u) 33 0 s 24 0 = nI fl by rw [mS_ne (by omega), mS_ne (by omega)]; exact w1), if_neg (fun w => by rw [nI_eq (by omega) (by omega)] at w; omega)]
      · rw [if_neg (by decide), gf_e (show mS (mS N 32 0 u) 33 0 s 24 0 = nI 100 by rw [mS_ne (by omega), mS_ne (by omega)]; exact w1), if_pos rfl]
    have b121 : ∀ (N : MR), N 24 0 = nI fl → N 23 0 = s → ((r = 0 ∧ fl = 0) ∨ (r = 1 ∧ 1 ≤ fl ∧ fl ≤ 8) ∨ (r = 2 ∧ fl = 100)) → fR_call_b121 n v N = some (nI r, mS (mS (mS N 31 0 v) 32 0 (nI (if fl = 100 then 0 else fl))) 33 0 s) := by
      intro N w1 w2 w3
      unfold fR_call_b121
      have w4 : mS N 31 0 v 24 0 = nI fl := by rw [mS_ne (by omega)]; exact w1
      have w5 : mS N 31 0 v 23 0 = s := by rw [mS_ne (by omega)]; exact w2
      rw [pf_e, gf_e w4]
      by_cases h100 : fl = 100
      · rw [if_pos (by rw [h100]), if_pos h100, b142 _ _ w4 w5 (by omega) w3]
      · rw [if_neg (fun w => by rw [nI_eq (by omega) (by omega)] at w; exact h100 w), gf_e w4, if_neg h100, b142 _ _ w4 w5 (by omega) w3]
    have b100 : ∀ N : MR, N = mS M' 30 0 k → N 24 0 = nI fl := fun N h => by rw [h, mS_ne (by omega)]; exact h1
    have w23 : mS M' 30 0 k 23 0 = s := by rw [mS_ne (by omega)]; exact h2
    unfold fR_call_b78 fR_call_b99 fR_call_b100
    rw [gf_e h1]
    rcases h with ⟨rfl, rfl, h3, h4, h5⟩ | ⟨rfl, h3, h4, rfl, rfl⟩ | ⟨rfl, rfl, rfl, rfl⟩
    · rw [if_pos n0_0, rd_at (by omega) (by decide), h3]
      rcases h5 with rfl | rfl
      · rw [if_pos n0_0, pf_e, gf_e (b100 _ rfl), if_pos n0_0, rd_at (by omega) (by decide), mS_ne (by omega), h4, b121 _ (b100 _ rfl) w23 (Or.inl ⟨rfl, rfl⟩)]
      · rw [if_neg n1_0, pf_e, gf_e (b100 _ rfl), if_pos n0_0, rd_at (by omega) (by decide), mS_ne (by omega), h4, b121 _ (b100 _ rfl) w23 (Or.inl ⟨rfl, rfl⟩)]
    · have hne : ¬ nI fl = 0 := fun w => by rw [← nI_0, nI_eq (by omega) (by omega)] at w; omega
      rw [if_neg hne, pf_e, gf_e (b100 _ rfl), if_neg hne, b121 _ (b100 _ rfl) w23 (Or.inr (Or.inl ⟨rfl, h3, h4⟩))]
    · rw [if_neg (by decide), pf_e, gf_e (b100 _ rfl), if_neg (by decide), b121 _ (b100 _ rfl) w23 (Or.inr (Or.inr ⟨rfl, rfl⟩))]
  -- what is left to say at the end
  have fin : ∀ (r fl : Nat) (S' : CS) (x' : X) (M' : MR) (k v : Int32), f4_call n (nI o) (nI m) d S = (if nI r = 0 then bnd (f3_lastKind n S') fun v4 S4 => f4_call_b61 n (nI r) v4 S4 else f4_call_b61 n (nI r) (nI 0) S') → fR_call n (nI o) (nI m) d M = fR_call_b78 n M' → CR S' x' → WF (im x') → RelI (im x') (M' 0) → x'.1 16 0 = M' 23 0 → (∀ a, a ≤ 5 → x'.1 a = x.1 a) → x'.2.2.2 = x.2.2.2 → (∀ i, 20870 ≤ i → M' 0 i = M 0 i) → (∀ a, a = 1 ∨ a = 2 ∨ a = 3 → M' a = M a) → x'.1 17 0 = nI (if fl = 100 then 0 else fl) → M' 24 0 = nI fl → (r = 0 → x'.2.1 3 = 1 ∧ k = x'.2.2.1 3 0 0 ∧ v = x'.2.2.1 3 0 1) → (r ≠ 0 → k = nI 0 ∧ v = nI 0) → Fz (im x') → ((r = 0 ∧ fl = 0 ∧ M' 10 0 = k ∧ M' 11 0 = v ∧ (k = nI 0 ∨ k = nI 1)) ∨ (r = 1 ∧ 1 ≤ fl ∧ fl ≤ 8 ∧ k = nI 0 ∧ v = nI 0) ∨ (r = 2 ∧ fl = 100 ∧ k = nI 0 ∧ v = nI 0)) → ∃ r S' x' M', f4_call n (nI o) (nI m) d S = some (r, S') ∧ fR_call n (nI o) (nI m) d M = some (r, M') ∧ CR S' x' ∧ Mn x' M' ∧ x'.2.2.2 = x.2.2.2 ∧ M' 1 = M 1 ∧ ∀ i, 20870 ≤ i → M' 0 i = M 0 i := by
    intro r fl S' x' M' k v hFC hFR h1 h2 h3 h4 h5 h6 h7 h8 h9 h10 h11 h12 hF' h13
    have hr2 : r ≤ 2 := by rcases h13 with ⟨rfl, _⟩ | ⟨rfl, _⟩ | ⟨rfl, _⟩ <;> omega
    obtain ⟨S'', w1, w2⟩ := endC r S' x' _ _ hr2 h1 h9 h4 (fun q => (h11 q).1)
    have w3 := endR r fl M' k v (M' 23 0) ⟨h10, rfl⟩ h13
    have hk : (if r = 0 then x'.2.2.1 3 0 0 else nI 0) = k := by
      by_cases hr : r = 0
      · rw [if_pos hr]; exact (h11 hr).2.1.symm
      · rw [if_neg hr]; exact (h12 hr).1.symm
    have hv : (if r = 0 then x'.2.2.1 3 0 1 else nI 0) = v := by
      by_cases hr : r = 0
      · rw [if_pos hr]; exact (h11 hr).2.2.symm
      · rw [if_neg hr]; exact (h12 hr).2.symm
    rw [hk, hv] at w2
    refine ⟨nI r, S'', _, _, hFC.trans w1, hFR.trans w3, w2, ⟨?_, ?_, ?_, ⟨?_, ?_, ?_, ?_⟩, ?_⟩, h6, ?_, fun i hi => ?_⟩
    · rw [im_pv (by omega), im_pv (by omega), im_pv (by omega), im_pv (by omega)]; exact h2
    · rw [im_pv (by omega), im_pv (by omega), im_pv (by omega), im_pv (by omega), mS_o (by omega), mS_o (by omega), mS_o (by omega), mS_o (by omega)]; exact h3
    · obtain ⟨t, ht, t1, t2, t3⟩ := hT
      refine ⟨t, ht, ?_, ?_, fun i hi => ?_⟩
      · rw [pv_o (by omega), pv_o (by omega), pv_o (by omega), pv_o (by omega), h5 1 (by omega)]; exact t1
      · rw [mS_ne (by omega), mS_ne (by omega), mS_ne (by omega), mS_ne (by omega), h8 3 (by omega)]; exact t2
      · rw [mS_ne (by omega), mS_ne (by omega), mS_ne (by omega), mS_ne (by omega), h8 2 (by omega), pv_o (by omega), pv_o (by omega), pv_o (by omega), pv_o (by omega), h5 0 (by omega)]; exact t3 i hi
    · rw [mS_ne (by omega), mS_ne (by omega), mS_ne (by omega), mS_eq, pv_o (by omega), pv_o (by omega), pv_o (by omega), pv_e]
    · rw [mS_ne (by omega), mS_ne (by omega), mS_eq, pv_o (by omega), pv_o (by omega), pv_e]
    · rw [mS_ne (by omega), mS_eq, pv_o (by omega), pv_e]
    · rw [mS_eq, pv_e]
    · rw [im_pv (by omega), im_pv (by omega), im_pv (by omega), im_pv (by omega)]; exact hF'
    · rw [mS_o (by omega), mS_o (by omega), mS_o (by omega), mS_o (by omega), h8 1 (by omega)]
    · rw [mS_ne (by omega), mS_ne (by omega), mS_ne (by omega), mS_ne (by omega)]; exact h7 i hi
  have eC : ∀ K : CS → Option (Int32 × CS), (bnd (f3_beginByHand n (nI o) (nI m) d S) fun _ S2 => K S2) = bnd (f3_callMethod n (nI m) S3) fun v4 S4 => K (mS S4.1 17 0 v4, S4.2) := by
    intro K
    unfold f3_beginByHand
    rw [k1, bnd_s, k2, k3]
    cases f3_callMethod n (nI m) S3 <;> rfl
  have eR : fR_call n (nI o) (nI m) d M = bnd (fR_method n (nI o) (nI m) M9) fun _ M10 => gf M10 24 fun v11 => if v11 = 0 then bnd (fR_work n M10) fun _ M12 => fR_call_b78 n M12 else fR_call_b78 n M10 := by
    unfold fR_call
    rw [r_isObject n M ho0 (by omega) hR.1.2.2.1, if_pos ho, bnd_s, if_neg n1_0, if_neg (nI_pos hm0), if_pos (nI_le (by omega) (by omega)), pf_e, pf_e, pf_e, pf_e, pf_e, pf_e, ← hM7, r_push n m12 (by omega) bo_1, bnd_s, r_push n (p := 1) (by unfold psh; rw [mS_eq]) (by omega) bo_0, bnd_s, ← hM9]
  have eC2 : f4_call n (nI o) (nI m) d S = bnd (f3_callMethod n (nI m) S3) fun v4 S4 => bnd (f3_work n (mS S4.1 17 0 v4, S4.2)) fun v3 S3 => if v3 = 0 then bnd (f3_lastKind n S3) fun v4 S4 => f4_call_b61 n v3 v4 S4 else f4_call_b61 n v3 (nI 0) S3 := by
    unfold f4_call
    rw [xh7 n hC ho0, if_pos ho, if_neg n1_0, if_neg (nI_pos hm0), if_pos (nI_lt hm (by omega))]
    exact eC _
  rcases hj with ⟨S4, x4, M4, p1, p2, p3, ⟨y1, y2, y3, y4, y5, y6, y7, y8⟩, ⟨z1, z2, z3, z4, z5⟩, z6, q4, q5, q6, q7, q8, q9, q10⟩ | ⟨fl, w1, w2, w3, w4⟩
  · -- it works
    have C5 : CR (mS S4.1 17 0 (nI 0), S4.2) (pv x4 17 0 (nI 0)) := CR_pv (by decide) p3
    have i5 : im (pv x4 17 0 (nI 0)) = im x := by rw [im_pv (by omega), q8, e3i]
    obtain ⟨M5, hM5⟩ : ∃ M5, M5 = mS (mS (mS M4 23 0 (nI 0)) 24 0 (nI 0)) 22 0 (nI 0) := ⟨_, rfl⟩
    have hM5o : ∀ j, j ≠ 22 → j ≠ 23 → j ≠ 24 → M5 j = M4 j := fun j h1 h2 h3 => by rw [hM5, mS_o h1, mS_o h3, mS_o h2]
    have m524 : M4 24 0 = nI 0 := by rw [z5 24 (by omega) (by omega), hM9o 24 (by omega) (by omega) (by omega)]; exact m24
    rw [q8] at *
    rw [e3i] at *
    have hWS : WS (pv x4 17 0 (nI 0)) M5 := by
      refine ⟨by rw [i5]; exact hW, ?_, ?_, ?_, ⟨by rw [hM5, mS_eq], by rw [hM5, mS_ne (by omega), mS_eq], pv_e⟩, Or.inr ⟨0, 0, fun _ => 0, ⟨y1, ?_, by omega, by omega, ?_, ?_, fun i hi => ?_⟩, ⟨rfl, Nat.zero_le _⟩, ?_, ?_, fun i hi => by omega⟩⟩
      · rw [i5, hM5o 0 (by omega) (by omega) (by omega), q9]; exact hR9
      · refine ⟨by rw [hM5o 12 (by omega) (by omega) (by omega), z3]; show _ = nI (x4.2.1 3); rw [y3], fun i hi => ?_⟩
        have hi : i < x4.2.1 3 := hi
        omega
      · refine ⟨0, 0, by omega, by omega, by rw [pv_o (by omega), y5, e31]; exact clr_16, by rw [hM5, mS_ne (by omega), mS_ne (by omega), mS_eq], by rw [pv_o (by omega), y5, e31]; exact clr_15, by rw [hM5o 25 (by omega) (by omega) (by omega), z5 25 (by omega) (by omega), hM9o 25 (by omega) (by omega) (by omega)]; exact m25, ?_, fun i hi => by simp at hi⟩
        show x4.2.1 2 = _
        rw [y6, (e3k 2 (by decide)).1, clr_2]; rfl
      · rw [hM5o 20 (by omega) (by omega) (by omega)]; exact z1
      · rw [pv_o (by omega), y5, e31]; exact clr_19
      · rw [hM5o 21 (by omega) (by omega) (by omega)]; exact z2
      · obtain rfl : i = 0 := by omega
        exact ⟨⟨fun w => absurd w q6, fun w => by omega⟩, fun _ => q7⟩
      · rw [i5, pv_o (by omega)]
        show FrOk (im x) (x4.1 18) (x4.2.2.1 4 0) (x4.2.1 3 - 0)
        rw [y3, y5]; exact q4
      · rw [pv_o (by omega), y5]
        exact FrR_c q5 (hM5o 5 (by omega) (by omega) (by omega)) (fun a h1 h2 => by rw [hM5o a (by omega) (by omega) (by omega)])
    have hmu := mu_le (x := pv x4 17 0 (nI 0)) (by rw [i5]; exact hB.2.1) (by show x4.2.1 4 ≤ 21; omega)
    obtain ⟨r, S6, x6, M6, o1, o2, o3, o4, o5, o6, o7, o8, o9⟩ := j_work n (by omega) (mu (pv x4 17 0 (nI 0))) 0 n n _ _ M5 rfl (by omega) (by omega) (by omega) C5 hWS
    have eW : f3_work n (mS S4.1 17 0 (nI 0), S4.2) = some (nI r, S6) := by
      unfold f3_work
      rw [xcg C5 (by decide), pv_e, if_pos n0_0]; exact o1
    have eWR : fR_work n M4 = some (0, M6) := by
      unfold fR_work
      rw [pf_e, pf_e, zt_0, pf_e, ← hM5]; exact o2
    obtain ⟨s, ww, s1, s2, s3, s4, _⟩ := o6
    have hbase : ∀ a, a ≤ 5 → x6.1 a = x.1 a := fun a ha => by rw [o7.1 a (by omega) (by omega) (by omega), pv_o (by omega), y5, e31, clr_o (by omega)]
    have hM6u : ∀ i, 20870 ≤ i → M6 0 i = M 0 i := fun i hi => by rw [o8.1 i hi, hM5o 0 (by omega) (by omega) (by omega), q9, hM9o 0 (by omega) (by omega) (by omega), hM7o 0 (by omega) (by omega) (by omega) (by omega) (by omega) (by omega)]
    have hM6a : ∀ a, a = 1 ∨ a = 2 ∨ a = 3 → M6 a = M a := fun a ha => by rw [o8.2 a (by omega) (by omega), hM5o a (by omega) (by omega) (by omega), z5 a (by omega) (by omega), hM9o a (by omega) (by omega) (by omega), hM7o a (by omega) (by omega) (by omega) (by omega) (by omega) (by omega)]
    have hF6 : Fz (im x6) := by
      have i6 := o7.2.1.1
      rw [i5] at i6
      unfold Fz
      rw [i6.1, i6.2.2.1]; exact hF
    have hg6 : x6.2.2.2 = x.2.2.2 := o7.2.2.trans (y8.trans e3g)
    have fC : f4_call n (nI o) (nI m) d S = (if nI r = 0 then bnd (f3_lastKind n S6) fun v4 S4 => f4_call_b61 n (nI r) v4 S4 else f4_call_b61 n (nI r) (nI 0) S6) := by
      rw [eC2, p1, bnd_s, eW, bnd_s]
    have fR : fR_call n (nI o) (nI m) d M = fR_call_b78 n M6 := by
      rw [eR, p2, bnd_s, gf_e m524, if_pos n0_0, eWR, bnd_s]
    rcases o9 with ⟨rfl, u1, u2, u3, u4, u5, u6⟩ | ⟨rfl, f, u1, u2, u3, u4⟩ | ⟨rfl, u1, u2⟩
    · exact fin 0 0 S6 x6 M6 _ _ fC fR o3 o4 o5 (by rw [s3, s4]) hbase hg6 hM6u hM6a u2 u1 (fun _ => ⟨u3, rfl, rfl⟩) (fun q => absurd rfl q) hF6 (Or.inl ⟨rfl, rfl, u4, u5, VOk_01 u6⟩)
    · exact fin 1 f S6 x6 M6 (nI 0) (nI 0) fC fR o3 o4 o5 (by rw [s3, s4]) hbase hg6 hM6u hM6a (by rw [u4, if_neg (by omega)]) u3 (fun q => by omega) (fun _ => ⟨rfl, rfl⟩) hF6 (Or.inr (Or.inl ⟨rfl, u1, u2, rfl, rfl⟩))
    · exact fin 2 100 S6 x6 M6 (nI 0) (nI 0) fC fR o3 o4 o5 (by rw [s3, s4]) hbase hg6 hM6u hM6a u2 u1 (fun q => by omega) (fun _ => ⟨rfl, rfl⟩) hF6 (Or.inr (Or.inr ⟨rfl, rfl, rfl, rfl⟩))
  · -- it fails at once
    have hne : ¬ nI fl = 0 := fun w => by rw [← nI_0, nI_eq (by omega) (by omega)] at w; omega
    have hfail : fR_fail n (nI fl) M9 = some (0, mS M9 24 0 (nI fl)) := by
      unfold fR_fail
      obtain ⟨n', hn'⟩ : ∃ q, n = q + 1 := ⟨n - 1, by omega⟩
      rw [pf_e, show fR_fail_l7 n n = fR_fail_l7 n (n' + 1) by rw [← hn'], fR_fail_l7, gf_e (v := nI 0) (by rw [mS_ne (by omega), hM9o 20 (by omega) (by omega) (by omega)]; exact m20), if_pos (Int32.le_refl _)]
    have C5 : CR (mS S3.1 17 0 (nI fl), S3.2) (pv x3 17 0 (nI fl)) := CR_pv (by decide) C3
    have eW : f3_work n (mS S3.1 17 0 (nI fl), S3.2) = some (nI 1, (mS S3.1 17 0 (nI fl), S3.2)) := by
      unfold f3_work
      rw [xcg C5 (by decide), pv_e, if_neg hne]
    have fC : f4_call n (nI o) (nI m) d S = (if nI 1 = 0 then bnd (f3_lastKind n (mS S3.1 17 0 (nI fl), S3.2)) fun v4 S4 => f4_call_b61 n (nI 1) v4 S4 else f4_call_b61 n (nI 1) (nI 0) (mS S3.1 17 0 (nI fl), S3.2)) := by
      rw [eC2, w3, bnd_s, eW, bnd_s]
    have fR : fR_call n (nI o) (nI m) d M = fR_call_b78 n (mS M9 24 0 (nI fl)) := by
      rw [eR, w4, hfail, bnd_s, bnd_s, gf_e mS_eq, if_neg hne]
    have hMo : ∀ j, j ≠ 10 → j ≠ 11 → j ≠ 12 → j ≠ 20 → j ≠ 21 → j ≠ 23 → j ≠ 24 → j ≠ 25 → mS M9 24 0 (nI fl) j = M j := fun j h1 h2 h3 h4 h5 h6 h7 h8 => by rw [mS_o h7, hM9o j h1 h2 h3, hM7o j h3 h4 h5 h6 h7 h8]
    exact fin 1 fl _ _ (mS M9 24 0 (nI fl)) (nI 0) (nI 0) fC fR C5 (by rw [im_pv (by omega), e3i]; exact hW) (by rw [im_pv (by omega), e3i, hMo 0 (by omega) (by omega) (by omega) (by omega) (by omega) (by omega) (by omega) (by omega)]; exact hR) (by rw [pv_o (by omega), e31, clr_16, mS_ne (by omega), hM9o 23 (by omega) (by omega) (by omega), m23]) (fun a ha => by rw [pv_o (by omega), e31, clr_o (by omega)]) e3g (fun i _ => by rw [hMo 0 (by omega) (by omega) (by omega) (by omega) (by omega) (by omega) (by omega) (by omega)]) (fun a ha => hMo a (by omega) (by omega) (by omega) (by omega) (by omega) (by omega) (by omega) (by omega)) (by rw [pv_e, if_neg (by omega)]) mS_eq (fun q => by omega) (fun _ => ⟨rfl, rfl⟩) (by rw [im_pv (by omega), e3i]; exact hF) (Or.inr (Or.inl ⟨rfl, w1, w2, rfl, rfl⟩))
