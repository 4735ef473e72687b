def NewC (B B' : Im) : Prop := bC B' = bC B + 1 ∧ bE B' = bE B ∧ bO B' = bO B ∧ bed B' = bed B ∧ bob B' = bob B ∧ bnw B' = bnw B ∧ ∀ r, r ≠ bC B → bce B' r = bce B r
theorem WF_newC {B B' : Im} (hW : WF B) (hs : NewC B B') (h40 : bC B < 40) (hk : CelOk B' (bC B)) : WF B' := by
  obtain ⟨e1, e2, e3, e4, e5, e6, e7⟩ := hs
  have hB := hW.1
  refine ⟨⟨by omega, by omega, by omega⟩, fun c hc => ?_, fun e he => ?_, fun o ho => ?_, fun j hj => ?_⟩
  · by_cases hcc : c = bC B
    · subst hcc; exact hk
    · exact CelOk_c (hW.2.1 c (by omega)) (fun i => by rw [e7 c hcc]) (by omega)
  · have he' : e < bE B := by omega
    refine EdOk_c hB.2.1 (hW.2.2.1 e he') he' (fun e' i _ _ => by rw [e4]) (by omega) (by omega) (by omega) (fun hs => ?_)
    obtain ⟨⟨nf, nm, l, hcl⟩, hst⟩ := (hW.2.2.1 e he').2.2.2.2 hs
    exact StOk_c hB.2.1 (by omega) hcl hst he' (by rw [e4]) (fun e' _ => by rw [e4])
  · exact ObOk_c (hW.2.2.2.1 o (by omega)) (fun i => by rw [e5]) (fun e _ => by rw [e4]) (by omega) (by omega)
  · rw [e6, e2, e4]; exact hW.2.2.2.2 j hj
theorem RelI_newC {B B' : Im} {g g' : Nat → Int32} (h : RelI B g) (hB : bC B ≤ 40 ∧ bE B ≤ 150 ∧ bO B ≤ 150) (h40 : bC B < 40) (hs : NewC B B') (h0 : g' 0 = nI (bC B + 1)) (hg : ∀ i, i ≠ 0 → (i < 20 + 180 * bC B ∨ 20 + 180 * bC B + 180 ≤ i) → g' i = g i) (hr : relC (bce B' (bC B)) (fun i => g' (20 + 180 * bC B + i))) : RelI B' g' := by
  obtain ⟨e1, e2, e3, e4, e5, e6, e7⟩ := hs
  have hcn : ∀ e, cntO B' e = cntO B e := fun e => by unfold cntO; rw [e5, e3]
  refine RelI_upd h (by rw [h0, e1]) ?_ ?_ (fun j hj => ?_) (fun c hc => ?_) (fun e he => Or.inl ⟨by omega, fun i _ => by rw [e4], fun i hi _ => hg _ (by omega) (by omega)⟩) (fun e he hs => ?_) (fun o ho => Or.inl ⟨by omega, fun i _ => by rw [e5], fun i hi => hg _ (by omega) (by omega)⟩)
  · rw [hg 1 (by omega) (by omega), e2]; exact h.1.2.1
  · rw [hg 2 (by omega) (by omega), e3]; exact h.1.2.2.1
  · rw [hg _ (by omega) (by omega), e6]; exact h.1.2.2.2 j hj
  · by_cases hcc : c = bC B
    · subst hcc; exact Or.inr hr
    · exact Or.inl ⟨by omega, fun i _ => by rw [e7 c hcc], fun i hi => hg _ (by omega) (by omega)⟩
  · rw [hcn, hg _ (by omega) (by omega)]
    rw [e4] at hs
    exact (h.2.2.1 e (by omega)).2 hs
def nwX (x : X) (j s : Nat) : X := (x.1, uf x.2.1 5 (x.2.1 5 + 1), uf x.2.2.1 5 (fun r k => if r = x.2.1 5 then (if k = 5 then nI j else if k = 6 then nI s else if k = 125 then nI 2 else 0) else x.2.2.1 5 r k), x.2.2.2)
section NEWC
variable (n : Nat)
theorem x_addCell {S : CS} {x : X} {j s : Nat} (hn : 1000 ≤ n) (h : CR S x) (hc : x.2.1 5 < 40) : Ru (f0_addCell n (nI j) (nI s) S) (nI (x.2.1 5)) (fun S' => CR S' (nwX x j s)) := by
  unfold f0_addCell
  refine Rc_add n (by decide) h hc (by omega) (fun S1 h1 => ?_)
  have hr : x.2.1 5 < (ad x 5).2.1 5 := by show x.2.1 5 < uf x.2.1 5 (x.2.1 5 + 1) 5; rw [uf_eq]; omega
  refine Rc_set n (by decide) h1 hr (show 5 < 125 by decide) (fun S2 h2 => ?_)
  refine Rc_set n (by decide) h2 hr (show 6 < 125 by decide) (fun S3 h3 => ?_)
  refine Ru_some (CR_ext h3 (fun _ _ => rfl) (fun _ _ => rfl) (fun k r q hk _ hq => ?_) rfl)
  by_cases h5 : k = 5
  · subst h5
    have hq5 : q < 125 := hq
    show (if r = x.2.1 5 then (if q = 5 then nI j else if q = 6 then nI s else if q = 125 then nI 2 else 0) else x.2.2.1 5 r q) = st2 (st2 (fun r c => if r = x.2.1 5 then 0 else x.2.2.1 5 r c) (x.2.1 5) 5 (nI j)) (x.2.1 5) 6 (nI s) r q
    by_cases hrc : r = x.2.1 5
    · rw [if_pos hrc, hrc]
      by_cases q6 : q = 6
      · subst q6; rw [st2_eq, if_neg (by omega), if_pos rfl]
      · rw [st2_ne (Or.inr q6)]
        by_cases q5 : q = 5
        · subst q5; rw [st2_eq, if_pos rfl]
        · rw [st2_ne (Or.inr q5), if_neg q5, if_neg q6, if_neg (by omega), if_pos rfl]
    · rw [if_neg hrc, st2_ne (Or.inl hrc), st2_ne (Or.inl hrc), if_neg hrc]
  · show uf x.2.2.1 5 _ k r q = uf (uf (uf x.2.2.1 5 _) 5 _) 5 _ k r q
    rw [uf_ne h5, uf_ne h5, uf_ne h5, uf_ne h5]
/-- a new cell takes the tape -/
theorem j_new (hn : 1000 ≤ n) {S : CS} {x : X} {M : MR} {c t s j : Nat} (hC : CR S x) (hM : Mn x M) (hc : c = bC (im x)) (h40 : c < 40) (hj : j < 16) (hs2 : s = 0 ∨ s = 1) (ht : t ≤ 60) (h1 : x.1 1 0 = nI t) (hk : LkOk x M s t (x.1 0)) : ∃ S1 S' x' M', f0_addCell n (nI j) (nI s) S = some (nI c, S1) ∧ f4_takeTape n (nI c) S1 = some (0, S') ∧ fR_layText n (nI c) (mS (mS (mS M 0 0 (nI (c + 1))) 0 (20 + 180 * c) (nI j)) 0 (20 + 180 * c + 1) (nI s)) = some (0, M') ∧ CR S' x' ∧ WF (im x') ∧ RelI (im x') (M' 0) ∧ Tp x' M' ∧ Cm x' M' ∧ (∀ r, r < bC (im x') → r ≠ c → bce (im x') r 125 = nI 0) ∧ LkOk x' M' s t (x.1 0) ∧ c < bC (im x') ∧ bE (im x') = bE (im x) ∧ bce (im x') c 6 = nI s ∧ x'.2.2.2 = x.2.2.2 ∧ M' 1 = M 1 ∧ ∀ i, 20870 ≤ i → M' 0 i = M 0 i := by
  obtain ⟨hW, hR, hT, ⟨g0, g1, g2, g3⟩, hF⟩ := hM
  have hB := hW.1
  have hc5 : x.2.1 5 = c := hc.symm
  obtain ⟨S1, d1, d2⟩ := x_addCell n (j := j) (s := s) hn hC (by rw [hc5]; exact h40)
  rw [hc5] at d1
  have hn5 : (nwX x j s).2.1 5 = c + 1 := by show uf x.2.1 5 (x.2.1 5 + 1) 5 = _; rw [uf_eq, hc5]
  obtain ⟨S', e1, e2⟩ := x_take n hn (c := c) d2 (by rw [hn5]; omega) ht h1
  obtain ⟨N, hN⟩ : ∃ N, N = mS (mS (mS M 0 0 (nI (c + 1))) 0 (20 + 180 * c) (nI j)) 0 (20 + 180 * c + 1) (nI s) := ⟨_, rfl⟩
  have hNa : ∀ a, a ≠ 0 → N a = M a := fun a ha => by rw [hN, mS_o ha, mS_o ha, mS_o ha]
  obtain ⟨M', r1, r2, r3, r4, r5, r6⟩ := r_lay n hn (M := N) (c := c) (L := t) h40 ht (by rw [hNa 6 (by omega)]; exact hk.1.1.2.2)
  rw [← hN]
  obtain ⟨y, hy⟩ : ∃ y, y = pv (tkX (nwX x j s) c t t) 1 0 (nI 0) := ⟨_, rfl⟩
  rw [← hy] at e2
  have yc : ∀ r k, bce (im y) r k = if r = c ∧ k = 8 then nI t else if r = c ∧ 9 ≤ k ∧ k < 9 + t then x.1 0 (k - 9) else if r = c then (if k = 5 then nI j else if k = 6 then nI s else if k = 125 then nI 2 else 0) else bce (im x) r k := fun r k => by
    rw [hy, tkX_c, ← hc5]; rfl
  have yo : ∀ k, k ≠ 8 → (k < 9 ∨ 69 ≤ k) → bce (im y) c k = if k = 5 then nI j else if k = 6 then nI s else if k = 125 then nI 2 else 0 := fun k z1 z2 => by rw [yc, if_neg (fun w => z1 w.2), if_neg (by omega), if_pos rfl]
  have y8 : bce (im y) c 8 = nI t := by rw [yc, if_pos ⟨rfl, rfl⟩]
  have yr : ∀ r, r ≠ c → bce (im y) r = bce (im x) r := fun r hr => funext fun k => by rw [yc, if_neg (fun w => hr w.1), if_neg (fun w => hr w.1), if_neg hr]
  have y1 : ∀ a, a ≠ 1 → y.1 a = x.1 a := fun a ha => by rw [hy]; show mS x.1 1 0 (nI 0) a = _; rw [mS_o ha]
  have y11 : y.1 1 0 = nI 0 := by rw [hy]; exact pv_e
  have yk : ∀ k, k ≠ 5 → y.2.1 k = x.2.1 k ∧ y.2.2.1 k = x.2.2.1 k := fun k hk => by
    rw [hy]
    refine ⟨?_, ?_⟩
    · show uf x.2.1 5 _ k = _; rw [uf_ne hk]
    · show uf (uf x.2.2.1 5 _) 5 _ k = _; rw [uf_ne hk, uf_ne hk]
  have hs : NewC (im x) (im y) := by
    refine ⟨?_, (yk 6 (by decide)).1, (yk 7 (by decide)).1, (yk 6 (by decide)).2, (yk 7 (by decide)).2, y1 20 (by decide), fun r hr => yr r (by rw [hc]; exact hr)⟩
    rw [hy]
    show uf x.2.1 5 (x.2.1 5 + 1) 5 = _
    rw [uf_eq]; rfl
  have hyC : bC (im y) = c + 1 := by rw [hs.1, hc]
  have hrc : ∀ i, i ≠ 20 + 180 * c + 2 → (i < 20 + 180 * c + 112 ∨ 20 + 180 * c + 172 ≤ i) → M' 0 i = N 0 i := fun i z1 z2 => r6 i z1 z2
  have hWy : WF (im y) := by
    refine WF_newC hW hs (by omega) ?_
    rw [← hc]
    unfold CelOk
    refine ⟨⟨j, hj, ?_⟩, ?_, ⟨t, ht, y8⟩, 0, by omega, ?_, fun i hi => by omega⟩
    · rw [yo 5 (by omega) (by omega), if_pos rfl]
    · rw [yo 6 (by omega) (by omega), if_neg (by omega), if_pos rfl]
      rcases hs2 with rfl | rfl
      · exact Or.inl rfl
      · exact Or.inr rfl
    · rw [yo 7 (by omega) (by omega)]; rfl
  have y125 : bce (im y) c 125 = nI 2 := by rw [yo 125 (by omega) (by omega)]; rfl
  have hRy : RelI (im y) (M' 0) := by
    refine RelI_newC hR hB (by omega) hs ?_ (fun i z1 z2 => ?_) ?_
    · rw [hrc 0 (by omega) (by omega), hN, mS_ne2 (by omega), mS_ne2 (by omega), mS_eq, hc]
    · rw [← hc] at z2
      rw [hrc i (by omega) (by omega), hN, mS_ne2 (by omega), mS_ne2 (by omega), mS_ne2 (by omega)]
    · rw [← hc]
      refine ⟨?_, ?_, ?_, fun i hi hl => ?_, fun w => absurd y125 w, fun w => ?_⟩
      · rw [yo 5 (by omega) (by omega), if_pos rfl]
        show M' 0 (20 + 180 * c) = _
        rw [hrc _ (by omega) (by omega), hN, mS_ne2 (by omega), mS_eq]
      · rw [yo 6 (by omega) (by omega), if_neg (by omega), if_pos rfl]
        show M' 0 (20 + 180 * c + 1) = _
        rw [hrc _ (by omega) (by omega), hN, mS_eq]
      · rw [y8]; exact r4
      · rw [y8] at hl
        have hit : i < t := Nat.lt_of_not_le (fun q => nI_nlt q (by omega) hl)
        rw [yc, if_neg (by omega), if_pos (by omega), show 9 + i - 9 = i by omega]
        show M' 0 (20 + 180 * c + (112 + i)) = _
        rw [← Nat.add_assoc, r5 i hit, hNa 4 (by omega), hk.1.2.1 i hit, hk.2.1 i hit]
      · rw [y125] at w
        exact absurd w (by decide)
  have hMa : ∀ a, a ≠ 0 → a ≠ 3 → M' a = M a := fun a z1 z2 => by rw [r2 a z1 z2, hNa a z1]
  refine ⟨S1, S', y, M', d1, e1, r1, e2, hWy, hRy, ⟨0, by omega, y11, r3, fun i hi => by omega⟩, ⟨?_, ?_, ?_, ?_⟩, fun r hr hrc => ?_, LkOk_t hk (fun a z1 z2 => y1 a (by omega)) (fun k hk => yk k (by omega)) hs.2.1 hs.2.2.2.1 hs.2.2.2.2.2.1 (fun a ha => hMa a (by omega) (by omega)), by omega, hs.2.1, ?_, by rw [hy]; rfl, hMa 1 (by omega) (by omega), fun i hi => ?_⟩
  · rw [hMa 30 (by omega) (by omega), y1 2 (by omega)]; exact g0
  · rw [hMa 31 (by omega) (by omega), y1 3 (by omega)]; exact g1
  · rw [hMa 32 (by omega) (by omega), y1 4 (by omega)]; exact g2
  · rw [hMa 33 (by omega) (by omega), y1 5 (by omega)]; exact g3
  · rw [yr r hrc]; exact hF r (by omega)
  · rw [yo 6 (by omega) (by omega), if_neg (by omega), if_pos rfl]
  · rw [hrc i (by omega) (by omega), hN, mS_ne2 (by omega), mS_ne2 (by omega), mS_ne2 (by omega)]
theorem op_cell (hn : 600000 ≤ n) (a b : Int32) : OpS (f4_cell n a b) (fR_cell n a b) := by
  intro S x M hC hM
  obtain ⟨hW, hR, hT, hCm, hF⟩ := id hM
  have hB := hW.1
  have hs : ∀ r, f4_cell n a b S = some (r, S) → fR_cell n a b M = some (r, M) → ∃ r S' x' M', f4_cell n a b S = some (r, S') ∧ fR_cell n a b M = some (r, M') ∧ CR S' x' ∧ Mn x' M' ∧ x'.2.2.2 = x.2.2.2 ∧ M' 1 = M 1 ∧ ∀ i, 20870 ≤ i → M' 0 i = M 0 i := fun r h1 h2 => ⟨r, S, x, M, h1, h2, hC, hM, rfl, rfl, fun _ _ => rfl⟩
  rcases i_cases a with ha | ⟨j, hj0, rfl⟩
  · refine hs (-1) ?_ ?_
    · unfold f4_cell; rw [q_isName_o n S (Or.inl ha), bnd_s, if_pos n0_0]
    · unfold fR_cell; rw [r_isName_n n M ha, bnd_s, if_pos n0_0]
  by_cases hj : ¬ j < 16
  · refine hs (-1) ?_ ?_
    · unfold f4_cell; rw [k_isName' n S hj0, if_neg hj, bnd_s, if_pos n0_0]
    · unfold fR_cell; rw [r_isName n M hj0, if_neg hj, bnd_s, if_pos n0_0]
  have hj : j < 16 := Decidable.not_not.mp hj
  rcases i_cases b with hb | ⟨s, hs0, rfl⟩
  · have hb0 : ¬ b = 0 := fun w => by rw [w] at hb; exact absurd hb (by decide)
    have hb1 : ¬ b = nI 1 := fun w => by rw [w] at hb; exact absurd hb (by decide)
    refine hs (-1) ?_ ?_
    · unfold f4_cell; rw [k_isName' n S hj0, if_pos hj, bnd_s, if_neg n1_0, if_neg hb0, if_neg hb1]
    · unfold fR_cell; rw [r_isName n M hj0, if_pos hj, bnd_s, if_neg n1_0, if_pos hb]
  by_cases hs2 : ¬ s < 2
  · refine hs (-1) ?_ ?_
    · unfold f4_cell; rw [k_isName' n S hj0, if_pos hj, bnd_s, if_neg n1_0, if_neg (fun w => by rw [← nI_0, nI_eq (by omega) (by omega)] at w; omega), if_neg (fun w => by rw [nI_eq (by omega) (by omega)] at w; omega)]
    · unfold fR_cell; rw [r_isName n M hj0, if_pos hj, bnd_s, if_neg n1_0, if_neg (nI_pos hs0), if_neg (nI_ge (by omega) hs0)]
  have hs2 : s < 2 := Decidable.not_not.mp hs2
  have eC0 : f4_cell n (nI j) (nI s) S = f4_cell_b18 n (nI j) (nI s) S := by
    unfold f4_cell
    rw [k_isName' n S hj0, if_pos hj, bnd_s, if_neg n1_0]
    have h : s = 0 ∨ s = 1 := by omega
    rcases h with rfl | rfl
    · rw [if_pos n0_0]
    · rw [if_neg n1_0, if_pos rfl]
  by_cases h40 : ¬ bC (im x) < 40
  · refine hs (-2) ?_ ?_
    · rw [eC0]; unfold f4_cell_b18; rw [xz5 n hC, if_pos (nI_le (by omega) (by omega))]
    · unfold fR_cell; rw [r_isName n M hj0, if_pos hj, bnd_s, if_neg n1_0, if_neg (nI_pos hs0), if_pos (nI_le (by omega) (by omega)), rd_at (by omega) (by decide), hR.1.1, if_pos (by rw [show bC (im x) = 40 by omega])]
  have h40 : bC (im x) < 40 := Decidable.not_not.mp h40
  by_cases hE : ¬ bE (im x) < 150
  · refine hs (-2) ?_ ?_
    · rw [eC0]; unfold f4_cell_b18; rw [xz5 n hC, if_neg (nI_ge h40 (by omega)), x_full n hC hB.2.1, bnd_s, if_neg hE, if_neg n1_0]
    · unfold fR_cell; rw [r_isName n M hj0, if_pos hj, bnd_s, if_neg n1_0, if_neg (nI_pos hs0), if_pos (nI_le (by omega) (by omega)), rd_at (by omega) (by decide), hR.1.1, if_neg (fun w => by rw [nI_eq (by omega) (by omega)] at w; omega), rd_at (by omega) (by decide), hR.1.2.1, if_pos (by rw [show bE (im x) = 150 by omega])]
  have hE : bE (im x) < 150 := Decidable.not_not.mp hE
  obtain ⟨t, ht, t1, t2, t3⟩ := hT
  obtain ⟨r, S1, x1, M1, k1, k2, k3, k4, k5, k6⟩ := j_tape n (by omega) hs2 hC hW hR ht t1 t2 t3
  have hi := FX3_im k4
  obtain ⟨m1, m2, m3, m4⟩ := Lk_Mn hM k4 k5
  have eC : f4_cell n (nI j) (nI s) S = if r = -1 then (bnd (f0_addCell n (nI j) (nI s) S1) fun v4 S4 => bnd (f4_takeTape n v4 S4) fun _ S5 => bnd (f4_runCell n v4 S5) fun v6 S6 => some (v4, S6)) else some ((-100 : Int32) - r, S1) := by
    rw [eC0]; unfold f4_cell_b18; rw [xz5 n hC, if_neg (nI_ge h40 (by omega)), x_full n hC hB.2.1, bnd_s, if_pos hE, if_pos n0_0, k1, bnd_s]
  have eR : fR_cell n (nI j) (nI s) M = if r < 0 then (bnd (fR_layText n (nI (bC (im x))) (mS (mS (mS M1 0 0 (nI (bC (im x) + 1))) 0 (20 + 180 * bC (im x)) (nI j)) 0 (20 + 180 * bC (im x) + 1) (nI s))) fun _ M12 => bnd (fR_run n (nI (bC (im x))) M12) fun v13 M13 => some (nI (bC (im x)), M13)) else some ((-100 : Int32) - r, M1) := by
    have h10 : M1 0 0 = nI (bC (im x)) := by rw [k5 0 (by omega)]; exact hR.1.1
    unfold fR_cell; rw [r_isName n M hj0, if_pos hj, bnd_s, if_neg n1_0, if_neg (nI_pos hs0), if_pos (nI_le (by omega) (by omega)), rd_at (by omega) (by decide), hR.1.1, if_neg (fun w => by rw [nI_eq (by omega) (by omega)] at w; omega), rd_at (by omega) (by decide), hR.1.2.1, if_neg (fun w => by rw [nI_eq (by omega) (by omega)] at w; omega), k2, bnd_s]
    rw [rd_at (by omega) (by decide), rd_at (by omega) (by decide), h10, nI_add, wr_at (by omega) (by decide), r_cellAt, bnd_s, nI_add, wr_at (by omega) (by decide), r_cellAt, bnd_s, nI_add, wr_at (by omega) (by decide)]
    rfl
  rcases k6 with ⟨rfl, k6⟩ | ⟨f, f1, rfl⟩
  · have e0 : x1.1 0 = x.1 0 := k4.1 0 (by omega)
    obtain ⟨S2, S3, x3, M3, l1, l2, l3, l4, l5, l6, l7, l8, l9, l10, l11, l12, l13, l14, l15, l16⟩ := j_new n (by omega) (j := j) k3 m1 (c := bC (im x)) (by rw [hi]) h40 hj (show s = 0 ∨ s = 1 by omega) ht (by rw [k4.1 1 (by omega)]; exact t1) (by rw [e0]; exact k6)
    have hrun := j_run n hn l4 l5 l6 l11 (by rw [l12, hi]; exact hE) (show s = 0 ∨ s = 1 by omega) l13 l10
    obtain ⟨r, S', x', M', e1, e2, e3, e4, e5, e6, e7, _⟩ := Run_fin hrun l7 l8 l9
    refine ⟨nI (bC (im x)), S', x', M', ?_, ?_, e3, e4, e5.trans (l14.trans m2), e6.trans (l15.trans m3), fun i hi => (e7 i hi).trans ((l16 i hi).trans (m4 i hi))⟩
    · rw [eC, if_pos rfl, l1, bnd_s, l2, bnd_s, e1, bnd_s]
    · rw [eR, if_pos m1_lt, l3, bnd_s, e2, bnd_s]
  · refine ⟨(-100 : Int32) - nI f, S1, x1, M1, ?_, ?_, k3, m1, m2, m3, m4⟩
    · rw [eC, if_neg (m100 f1)]
    · rw [eR, if_neg (nI_pos (by omega))]
end NEWC
