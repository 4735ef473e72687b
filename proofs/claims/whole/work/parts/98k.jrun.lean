section RUN4
variable (n : Nat)
/-- the run of a cell with a class -/
theorem run_cls (hn : 1000 ≤ n) {S : CS} {y : X} {M : MR} {c j L : Nat} (hC : CR S y) (hW : WF (im y)) (hR : RelI (im y) (M 0)) (hc : c < bC (im y)) (hfl : bce (im y) c 125 = nI 1) (hE : bE (im y) < 150) (hj : j < 16) (h5 : bce (im y) c 5 = nI j) (h6 : bce (im y) c 6 = nI 1) (hM : M0s M) (y16 : y.1 16 0 = nI 0) (y15 : y.1 15 0 = nI 0) (y17 : y.1 17 0 = nI 0) (y2 : y.2.1 2 = 0) (hL : L ≤ 60) (hL6 : y.1 6 0 = nI L) (hM6 : M 6 0 = nI L) (hM5 : ∀ i, i < L → M 5 i = y.1 13 i) (hT : ClsTx (im y) y (y.1 13) L) : RunO c y M (cRunT n (nI c) S) (rRunT n (nI c) (nI (20 + 180 * c)) M) := by
  have hB := hW.1
  obtain ⟨nf, nm, t1, t2, t3, t4, t5, t6, t7⟩ := hT
  obtain ⟨S1, e1, row, e2, e3⟩ := x_addCls n hn hC hE hc (show c < 1000 by omega) hj h5 h6 rfl hL hL6 t1.2.1 t1.2.2.2.1 t2 t3 t4 t5 t6
  have hcl := cls_new (j := j) hE e3 t1 t4 t6 t7
  obtain ⟨⟨r0, r1, r2, r3, r4, r5, r6, r7, r8⟩, rt, _⟩ := id e3
  have hb : ∀ k, bed (im (edX y j row)) (bE (im y)) k = row k := fun k => by rw [edX_e, if_pos rfl]
  have hed : EdOk (im (edX y j row)) (bE (im y)) := by
    unfold EdOk StOk
    simp only [hb]
    refine ⟨⟨j, hj, r0⟩, ⟨c, by rw [edX_bC]; exact hc, r1⟩, Or.inr r2, fun w => ?_, fun _ => ⟨⟨nf, nm, L, hcl⟩, Or.inl r6, fun _ _ _ _ => r6⟩⟩
    rw [r2, nI_eq (by omega) (by omega)] at w
    omega
  have hfin := run_new n hn (s := 1) (L := L) e2 hW hR hc (by rw [hfl]; decide) hE hj (by omega) h5 h6 (Wri_0 hM y16 y15 y2) hM.2.2.2.2.1 y17 hL hM6 (Or.inr ⟨rfl, r3, r4⟩) ⟨r0, r1, r2, r6⟩ (fun _ => ⟨r8, fun i hi => by rw [rt i hi, hM5 i hi]⟩) hed
  have eC : cRunT n (nI c) S = f4_runCell_b105 n (nI c) (nI 0) (nI (bE (im y))) S1 := by
    unfold cRunT
    rw [x_get n hC (by decide) hc (by decide), show y.2.2.1 5 c 6 = nI 1 from h6, if_pos rfl, e1, bnd_s]
    rfl
  have eR : rRunT n (nI c) (nI (20 + 180 * c)) M = fR_run_b117 n (nI c) (nI (20 + 180 * c)) M := by
    unfold rRunT
    rw [nI_add, rd_at (by omega) (by decide), show M 0 (20 + 180 * c + 1) = nI 1 from (hR.2.1 c hc).2.1.trans h6, if_neg n1_0]
  rw [eC, eR]
  exact hfin
/-- the run of a cell with code -/
theorem run_val (hn : 600000 ≤ n) {S : CS} {y : X} {M : MR} {c j L : Nat} (hC : CR S y) (hW : WF (im y)) (hR : RelI (im y) (M 0)) (hc : c < bC (im y)) (hfl : bce (im y) c 125 = nI 1) (hE : bE (im y) < 150) (hj : j < 16) (h5 : bce (im y) c 5 = nI j) (h6 : bce (im y) c 6 = nI 0) (hM : M0s M) (hL : L ≤ 60) (hL6 : y.1 6 0 = nI L) (hM6 : M 6 0 = nI L) (hM5 : ∀ i, i < L → M 5 i = y.1 13 i) (hT : okC (im y) (y.1 13) false L 0 0) : RunO c y M (cRunT n (nI c) S) (rRunT n (nI c) (nI (20 + 180 * c)) M) := by
  have hB := hW.1
  obtain ⟨S1, c1, c2⟩ := x_begin n (by omega) hC hL hL6
  obtain ⟨z, hz⟩ : ∃ z, z = opf (pv (pw (clr y) L) 19 0 (nI 1)) 0 (-1) (nI 0) (nI L) := ⟨_, rfl⟩
  rw [← hz] at c2
  have hzi : im z = im y := by
    rw [hz]
    unfold opf
    rw [im_st0 (by decide), im_st0 (by decide), im_st0 (by decide), im_st0 (by decide), im_ad0 (by decide), im_pv (by decide)]
    exact clr_im
  have hz1 : ∀ a, a ≠ 18 → a ≠ 19 → z.1 a = (clr y).1 a := fun a z1 z2 => by
    rw [hz]
    show mS (pw (clr y) L).1 19 0 (nI 1) a = _
    rw [mS_o z2]
    funext i
    show (if a = 18 ∧ i < L then _ else _) = _
    rw [if_neg (fun w => z1 w.1)]
  have hz19 : z.1 19 0 = nI 1 := by rw [hz]; show mS (pw (clr y) L).1 19 0 (nI 1) 19 0 = _; rw [mS_eq]
  have hz18 : ∀ i, i < L → z.1 18 i = y.1 13 i := fun i hi => by
    rw [hz]
    show mS (pw (clr y) L).1 19 0 (nI 1) 18 i = _
    rw [mS_ne (by omega)]
    show (if 18 = 18 ∧ i < L then (clr y).1 13 i else _) = _
    rw [if_pos ⟨rfl, hi⟩, clr_o (by omega)]
  have hz4 : z.2.1 4 = 0 + 1 := by rw [hz]; show uf (clr y).2.1 4 ((clr y).2.1 4 + 1) 4 = _; rw [uf_eq, clr_4]
  have hzk : ∀ k, k ≠ 4 → z.2.1 k = (clr y).2.1 k := fun k hk => by rw [hz]; show uf (clr y).2.1 4 ((clr y).2.1 4 + 1) k = _; rw [uf_ne hk]
  have hzg : z.2.2.2 = y.2.2.2 := by rw [hz]; rfl
  have hz3 : z.2.1 3 = 0 := by rw [hzk 3 (by decide), clr_3]
  have hfr : ∀ q, z.2.2.1 4 0 q = if q = 6 then -1 else if q = 2 then nI L else if q = 1 then nI 0 else if q = 0 then -1 else 0 := fun q => by
    rw [hz, opf_c (x := pv (pw (clr y) L) 19 0 (nI 1)) (f := 0) (show (clr y).2.1 4 = 0 from clr_4), if_pos rfl]
  have f0 : z.2.2.1 4 0 0 = -1 := hfr 0
  have f1 : z.2.2.1 4 0 1 = nI 0 := hfr 1
  have f2 : z.2.2.1 4 0 2 = nI L := hfr 2
  have f6 : z.2.2.1 4 0 6 = -1 := hfr 6
  -- the reference
  obtain ⟨m12, m20, m21, m23, m24, m25⟩ := hM
  obtain ⟨N, hN⟩ : ∃ N, N = frM M 0 (-1) (nI 0) (nI L) (-1) (-1) 0 := ⟨_, rfl⟩
  have hfrm : fR_frame n (-1) (nI 0) (nI L) (-1) (-1) M = some (0, N) := by
    rw [r_frame n m20 (by omega) m21 (by omega), if_pos (by decide), hN]
  obtain ⟨M9, hM9⟩ : ∃ M9, M9 = mS (mS (mS N 23 0 (nI 0)) 24 0 (nI 0)) 22 0 (nI 0) := ⟨_, rfl⟩
  have hNo : ∀ a, a < 13 ∨ 22 ≤ a → N a = M a := fun a ha => by rw [hN]; unfold frM; rw [mS_o (by omega), mS_o (by omega), mS_o (by omega), mS_o (by omega), mS_o (by omega), mS_o (by omega), mS_o (by omega), mS_o (by omega), mS_o (by omega)]
  have h9N : ∀ a, a < 22 ∨ 25 ≤ a → M9 a = N a := fun a ha => by rw [hM9, mS_o (by omega), mS_o (by omega), mS_o (by omega)]
  have h9o : ∀ a, a < 13 ∨ 25 ≤ a → M9 a = M a := fun a ha => by rw [h9N a (by omega), hNo a (by omega)]
  have n13 : M9 13 0 = -1 := by rw [h9N 13 (by omega), hN]; unfold frM; rw [mS_ne (by omega), mS_ne (by omega), mS_ne (by omega), mS_ne (by omega), mS_ne (by omega), mS_ne (by omega), mS_ne (by omega), mS_ne (by omega), mS_eq]
  have n14 : M9 14 0 = nI 0 := by rw [h9N 14 (by omega), hN]; unfold frM; rw [mS_ne (by omega), mS_ne (by omega), mS_ne (by omega), mS_ne (by omega), mS_ne (by omega), mS_ne (by omega), mS_ne (by omega), mS_eq]
  have n15 : M9 15 0 = nI L := by rw [h9N 15 (by omega), hN]; unfold frM; rw [mS_ne (by omega), mS_ne (by omega), mS_ne (by omega), mS_ne (by omega), mS_ne (by omega), mS_ne (by omega), mS_eq]
  have n19 : M9 19 0 = -1 := by rw [h9N 19 (by omega), hN]; unfold frM; rw [mS_ne (by omega), mS_ne (by omega), mS_ne (by omega), mS_ne (by omega), mS_eq]
  have n20 : M9 20 0 = nI (0 + 1) := by rw [h9N 20 (by omega), hN]; unfold frM; rw [mS_ne (by omega), mS_eq]
  have n21 : M9 21 0 = nI (0 + 1 - 1) := by rw [h9N 21 (by omega), hN]; unfold frM; rw [mS_eq]
  have hM9s : M9 23 0 = nI 0 := by rw [hM9, mS_ne (by omega), mS_ne (by omega), mS_eq]
  have hWS : WS z M9 := by
    refine ⟨by rw [hzi]; exact hW, ?_, ?_, ?_, ⟨by rw [hM9, mS_eq], by rw [hM9, mS_ne (by omega), mS_eq], by rw [hz1 17 (by omega) (by omega), clr_17]⟩, Or.inr ⟨0, 1, fun _ => 0, ⟨hz4, n20, by omega, by omega, hz19, n21, fun i hi => ?_⟩, ⟨rfl, Nat.zero_le _⟩, ?_, ?_, fun i hi => by omega⟩⟩
    · rw [hzi, h9o 0 (by omega)]; exact hR
    · exact ⟨by rw [h9o 12 (by omega), hz3]; exact m12, fun i hi => by omega⟩
    · exact ⟨0, 0, by omega, by omega, by rw [hz1 16 (by omega) (by omega), clr_16], hM9s, by rw [hz1 15 (by omega) (by omega), clr_15], by rw [h9o 25 (by omega)]; exact m25, by rw [hzk 2 (by decide), clr_2]; rfl, fun i hi => by simp at hi⟩
    · obtain rfl : i = 0 := by omega
      exact ⟨⟨fun _ => by omega, fun _ => f0⟩, fun _ => f6⟩
    · refine ⟨0, L, ⟨f1, f2, by omega, hL, by rw [hz3]; omega⟩, ?_, Or.inl ⟨f0, f6⟩⟩
      rw [hz3, hzi]
      have i1 : txF (im y) (z.1 18) (z.2.2.1 4 0) = z.1 18 := by unfold txF; rw [if_pos f0]
      have i2 : imF (z.2.2.1 4 0) = false := by unfold imF; rw [f0]; rfl
      rw [i1, i2]
      exact okC_t rfl rfl hz18 hT
    · refine ⟨by rw [f0]; exact n13, by rw [f2]; exact n15, by rw [f6]; exact n19, ⟨0, f1, by omega, by omega, n14⟩, fun _ q hq hl => ?_, fun w => absurd f0 w⟩
      rw [f2] at hl
      have hqL : q < L := Nat.lt_of_not_le (fun w => nI_nlt w (by omega) hl)
      rw [h9o 5 (by omega), hM5 q hqL, hz18 q hqL]
  have hmu := mu_le (x := z) (by rw [hzi]; exact hB.2.1) (by rw [hz4]; omega)
  obtain ⟨r, S6, x6, M6, o1, o2, o3, o4, o5, o6, o7, o8, o9⟩ := j_work n (by omega) (mu z) 0 n n _ _ M9 rfl (by omega) (by omega) (by omega) c2 hWS
  have eW : f3_work n S1 = some (nI r, S6) := by
    unfold f3_work
    rw [xcg c2 (by decide), hz1 17 (by omega) (by omega), clr_17, if_pos n0_0]; exact o1
  have eWR : fR_work n N = some (0, M6) := by
    unfold fR_work
    rw [pf_e, pf_e, zt_0, pf_e, ← hM9]; exact o2
  have eR : rRunT n (nI c) (nI (20 + 180 * c)) M = fR_run_b117 n (nI c) (nI (20 + 180 * c)) M6 := by
    unfold rRunT
    rw [nI_add, rd_at (by omega) (by decide), show M 0 (20 + 180 * c + 1) = nI 0 from (hR.2.1 c hc).2.1.trans h6, if_pos n0_0, gf_e hM6, hfrm, bnd_s, eWR, bnd_s]
  have eC : cRunT n (nI c) S = if nI r = 0 then (bnd (f3_lastKind n S6) fun v7 S7 => bnd (f3_lastNumber n S7) fun v8 S8 => bnd (f0_addValue n (nI c) v7 v8 S8) fun v9 S9 => f4_runCell_b105 n (nI c) (nI r) v9 S9) else f4_runCell_b105 n (nI c) (nI r) (-1 : Int32) S6 := by
    unfold cRunT
    rw [x_get n hC (by decide) hc (by decide), show y.2.2.1 5 c 6 = nI 0 from h6, if_neg (by decide), c1, bnd_s, eW, bnd_s]
  have i1 := o7.2.1.1
  rw [hzi] at i1
  have hc6 : c < bC (im x6) := by rw [i1.1]; exact hc
  have hfl6 : ¬ bce (im x6) c 125 = nI 2 := by rw [i1.2.2.1, hfl]; decide
  have hE6 : bE (im x6) < 150 := by rw [i1.2.1]; exact hE
  have h56 : bce (im x6) c 5 = nI j := by rw [i1.2.2.1]; exact h5
  have h66 : bce (im x6) c 6 = nI 0 := by rw [i1.2.2.1]; exact h6
  have tr : ∀ FC FR, RunO c x6 M6 FC FR → RunO c y M FC FR := fun FC FR h => RunO_t h (fun r _ => by rw [i1.2.2.1]) (fun a ha => by rw [o7.1 a (by omega) (by omega) (by omega), hz1 a (by omega) (by omega), clr_o (by omega)]) i1.1 i1.2.1 (o7.2.2.trans hzg) (fun i hi => by rw [o8.1 i hi, h9o 0 (by omega)]) (fun a z1 z2 => by rw [o8.2 a z1 z2, h9o a (by omega)])
  rw [eC, eR]
  apply tr
  rcases o9 with ⟨rfl, u1, u2, u3, u4, u5, u6⟩ | ⟨rfl, f, u1, u2, u3, u4⟩ | ⟨rfl, u1, u2⟩
  · obtain ⟨row, hrow⟩ : ∃ row, row = uf (uf (row0 j c 0) 3 (x6.2.2.1 3 0 0)) 4 (x6.2.2.1 3 0 1) := ⟨_, rfl⟩
    obtain ⟨S9, a1, a2⟩ := x_addVal n (kd := x6.2.2.1 3 0 0) (nm := x6.2.2.1 3 0 1) (by omega) o3 hE6 hc6 (show c < 1000 by omega) hj h56 h66
    rw [← hrow] at a2
    have hb : ∀ k, bed (im (edX x6 j row)) (bE (im x6)) k = row k := fun k => by rw [edX_e, if_pos rfl]
    have k3 : row 3 = x6.2.2.1 3 0 0 := by rw [hrow]; rfl
    have k4 : row 4 = x6.2.2.1 3 0 1 := by rw [hrow]; rfl
    have k0 : row 0 = nI j := by rw [hrow]; rfl
    have k1 : row 1 = nI c := by rw [hrow]; rfl
    have k2 : row 2 = nI 0 := by rw [hrow]; rfl
    have k6 : row 6 = nI 0 := by rw [hrow]; rfl
    have hed : EdOk (im (edX x6 j row)) (bE (im x6)) := by
      unfold EdOk
      simp only [hb]
      refine ⟨⟨j, hj, k0⟩, ⟨c, by rw [edX_bC]; exact hc6, k1⟩, Or.inl k2, fun _ => ?_, fun w => ?_⟩
      · rw [k3, k4]
        unfold VOk
        rw [edX_bO]; exact u6
      · rw [k2, nI_eq (by omega) (by omega)] at w
        omega
    rw [if_pos n0_0]
    unfold f3_lastKind f3_lastNumber
    rw [x_kind n o3 u3 (show 0 < 1 by omega), bnd_s, bnd_s, x_num n o3 u3 (show 0 < 1 by omega), bnd_s, bnd_s, a1, bnd_s]
    exact run_new n (by omega) (s := 0) (L := L) a2 o4 o5 hc6 hfl6 hE6 hj (by omega) h56 h66 o6 u1 u2 hL (by rw [o8.2 6 (by omega) (by omega), h9o 6 (by omega)]; exact hM6) (Or.inl ⟨rfl, by rw [k3]; exact u4, by rw [k4]; exact u5, by rw [k3]; exact VOk_01 u6⟩) ⟨k0, k1, k2, k6⟩ (fun w => by omega) hed
  · rw [if_neg (fun w => by rw [← nI_0, nI_eq (by omega) (by omega)] at w; omega)]
    exact run_bad n (by omega) o3 o4 o5 hc6 hfl6 o6 u3 (by rw [u4, if_neg (by omega)]) (Or.inl ⟨rfl, u1, u2⟩)
  · rw [if_neg (fun w => by rw [← nI_0, nI_eq (by omega) (by omega)] at w; omega)]
    exact run_bad n (by omega) o3 o4 o5 hc6 hfl6 o6 u1 (by rw [u2, if_pos rfl]) (Or.inr ⟨rfl, rfl⟩)
/-- a run of a cell, on both sides -/
theorem j_run (hn : 600000 ≤ n) {S : CS} {x : X} {M : MR} {c s L : Nat} {txt : Nat → Int32} (hC : CR S x) (hW : WF (im x)) (hR : RelI (im x) (M 0)) (hc : c < bC (im x)) (hE : bE (im x) < 150) (hs2 : s = 0 ∨ s = 1) (hs : bce (im x) c 6 = nI s) (hk : LkOk x M s L txt) : RunO c x M (f4_runCell n (nI c) S) (fR_run n (nI c) M) := by
  have hB := hW.1
  obtain ⟨⟨⟨r1, r2, r3⟩, r4, r5, r6, r7⟩, _, k0, k1⟩ := hk
  obtain ⟨S1, m, f, M7, p1, p2, p3, p4, p5, p6, p7, p8, p9⟩ := run_pre n (by omega) hC hW hR hc r7
  obtain ⟨⟨j, hj, h5⟩, h6, _⟩ := hW.2.1 c hc
  obtain ⟨y, hy⟩ : ∃ y, y = clr (lnZ x c m f) := ⟨_, rfl⟩
  have hyi : im y = im (lnZ x c m f) := by rw [hy]; exact clr_im
  obtain ⟨s1, s2, s3, s4, s5, s6, s7⟩ := @lnZ_same x c m f
  rw [← hy] at p4
  rw [← hyi] at p5 p6 s1 s2 s3 s4
  have y1 : ∀ a, a < 15 → y.1 a = x.1 a := fun a ha => by rw [hy, clr_o (by omega)]; rfl
  have yk : ∀ k, k < 2 → y.2.1 k = x.2.1 k ∧ y.2.2.1 k = x.2.2.1 k := fun k hk => by
    rw [hy, clr_k (by omega)]
    refine ⟨rfl, ?_⟩
    show uf (uf (uf x.2.2.1 5 _) 5 _) 5 _ k = _
    rw [uf_ne (by omega), uf_ne (by omega), uf_ne (by omega)]
  have yc : ∀ k, k = 5 ∨ k = 6 → bce (im y) c k = bce (im x) c k := fun k hk => by rw [hyi, lnZ_c, if_neg (by omega), if_neg (by omega), if_neg (by omega)]
  have yf : bce (im y) c 125 = nI 1 := by rw [hyi, lnZ_c, if_pos ⟨rfl, rfl⟩]
  have e13 : y.1 13 = x.1 13 := y1 13 (by omega)
  have hCc : ∀ p, Cc (im x) p → Cc (im y) p := fun p hp => by unfold Cc; rw [s2, s4]; exact hp
  have h6y : y.1 6 0 = nI L := by rw [y1 6 (by omega)]; exact r2
  have h6M : M7 6 0 = nI L := by rw [p9 6 (by omega) (by omega)]; exact r3
  have h5M : ∀ i, i < L → M7 5 i = y.1 13 i := fun i hi => by rw [p9 5 (by omega) (by omega), e13]; exact r5 i hi
  rw [p1, p2]
  refine RunO_t (x1 := y) (M1 := M7) ?_ (fun r hr => by rw [hyi, s7 r hr]) y1 s1 s2 (by rw [hy]; rfl) p8 p9
  rcases hs2 with rfl | rfl
  · exact run_val n hn p4 p5 p6 (by rw [s1]; exact hc) yf (by rw [s2]; exact hE) hj (by rw [yc 5 (by omega)]; exact h5) (by rw [yc 6 (by omega)]; exact hs) p7 r1 h6y h6M h5M (okC_t s2 s4 (fun i _ => by rw [e13]) (k0 rfl))
  · refine run_cls n (by omega) p4 p5 p6 (by rw [s1]; exact hc) yf (by rw [s2]; exact hE) hj (by rw [yc 5 (by omega)]; exact h5) (by rw [yc 6 (by omega)]; exact hs) p7 (by rw [hy]; exact clr_16) (by rw [hy]; exact clr_15) (by rw [hy]; exact clr_17) (by rw [hy]; exact clr_2) r1 h6y h6M h5M ?_
    obtain ⟨nf, nm, t1, t2, t3, t4, ⟨t5a, t5b, t5c⟩, ⟨t6a, t6b, t6c⟩, t7⟩ := k1 rfl
    rw [e13]
    refine ⟨nf, nm, t1, by rw [y1 9 (by omega)]; exact t2, by rw [y1 8 (by omega)]; exact t3, ?_, ⟨?_, ?_, t5c⟩, ⟨?_, fun i hi => ?_, t6c⟩, ?_⟩
    · rcases t4 with t4 | ⟨p, t4, t4'⟩
      · exact Or.inl t4
      · exact Or.inr ⟨p, t4, hCc p t4'⟩
    · rw [(yk 0 (by omega)).1]; exact t5a
    · rw [(yk 0 (by omega)).2]; exact t5b
    · rw [(yk 1 (by omega)).1]; exact t6a
    · obtain ⟨w1, w2, len, w3, w4, w5, w6, w7⟩ := t6b i hi
      rw [(yk 1 (by omega)).2]
      exact ⟨w1, w2, len, w3, w4, w5, w6, okC_t s2 s4 (fun _ _ => rfl) w7⟩
    · rcases t7 with t7 | t7
      · exact Or.inl t7
      · exact Or.inr (okC_t s2 s4 (fun _ _ => rfl) t7)
end RUN4
