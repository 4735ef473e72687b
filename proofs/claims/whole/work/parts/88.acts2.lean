section PACT2
variable {S : CS} {x : X} {M : MR} {q : Nat} (n : Nat)
theorem k2 {k : Int32} (h : k = nI 0 ∨ k = nI 1) : (k + nI 1 = nI 2) = (k = nI 1) := by
  rcases h with rfl | rfl <;> decide
theorem a_5 (hn : 1000 ≤ n) (hC : CR S x) (hW : WF (im x)) (hR : RelI (im x) (M 0)) (hP : PlR x M) (hWr : WriS x M) (hp : x.2.1 3 = q + 1) (hq : q < 1241) (t : Int32) {f : Nat} (hf : f < 10) : PA n x M S q (actC n t (nI 5) (nI f) S) (actR n t (nI 5) (nI f) M) := by
  have hB := hW.1
  have h12 : M 12 0 = nI (q + 1) := by rw [hP.1, hp]
  obtain ⟨g1, g2, g3⟩ := hP.2 q (by omega)
  have eC : actC n t (nI 5) (nI f) S = f3_readField n (nI f) S := by
    unfold actC
    rw [if_neg (by decide), if_neg (by decide), if_neg (by decide), if_neg (by decide), if_neg (by decide), if_pos rfl, bnd_eta]
  have eR : actR n t (nI 5) (nI f) M = bnd (fR_ofObject_b20 n (nI 5) (nI f) (nI q) M) (fun _ M30 => some (0, M30)) := by
    unfold actR fR_ofObject
    rw [if_neg (by decide), if_neg (by decide), if_pos (by decide), if_neg (by decide), if_pos rfl, gf_e h12, pk_sub (by omega), Nat.add_sub_cancel]
  rw [eC, eR]
  unfold f3_readField fR_ofObject_b20
  rw [x_kind n hC hp (show 0 < q + 1 by omega), bnd_s, show q + 1 - 1 - 0 = q by omega, rd_at (by omega) (by decide), g1]
  rcases g3 with h0 | ⟨h1, o, ho, h2⟩
  · rw [h0, if_neg (by decide), if_pos n0_0, bnd_id]
    exact Or.inr ⟨1, M, by omega, by omega, rfl, rfl, fun _ _ => rfl⟩
  · rw [h1, if_pos rfl, if_neg n1_0, x_num n hC hp (show 0 < q + 1 by omega), bnd_s, show q + 1 - 1 - 0 = q by omega, rd_at (by omega) (by decide), g2, h2, if_neg (by decide), r_objAt, bnd_s, show nI (17720 + 21 * o) + nI 1 + nI f = nI (17720 + 21 * o + 1 + f) by rw [nI_add, nI_add], rd_at (show 17720 + 21 * o + 1 + f < 62610 by omega) (by decide), ri_ok hR ho hf]
    unfold f0_hasField
    rw [xh7 n hC (by omega), if_pos ho, if_neg n1_0, nI_add, xg7 n hC ho (by omega)]
    rcases (hW.2.2.2.1 o ho).2 f hf with hm | hv
    · rw [if_pos hm, zt_0, bnd_s, if_pos n0_0, if_pos (show bob (im x) o (1 + f) + nI 1 = 0 by rw [hm]; decide), bnd_id]
      exact Or.inr ⟨3, M, by omega, by omega, rfl, rfl, fun _ _ => rfl⟩
    · have hm : ¬ bob (im x) o (1 + f) = -1 := fun w => by
        rcases VOk_01 hv with w' | w' <;> rw [w] at w' <;> exact absurd w' (by decide)
      rw [if_neg hm, zt_1, bnd_s, if_neg n1_0, nI_add, xg7 n hC ho (by omega), xg7 n hC ho (by omega), bnd_eta, if_neg (show ¬ bob (im x) o (1 + f) + nI 1 = 0 from fun w => hm (Eq.mp m1_p1 w)), if_pos rfl, rd_at (show 17720 + 21 * o + 1 + f < 62610 by omega) (by decide), ri_ok hR ho hf]
      refine PA_put n hn hC hW (WriS_w hWr) (t := 1) (by omega) hp (by omega) hv rfl (M' := top1 M q (bob (im x) o (1 + f)) (bob (im x) o (11 + f))) ?_ (PutR_top1 h12) (by rw [top1_o (by omega) (by omega)]; exact hR) (top1_o (by omega) (by omega)) (top1_o (by omega) (by omega)) (top1_o (by omega) (by omega))
      unfold fR_ofObject_b113 top1
      have hg : ∀ v : Int32, mS M 10 q v 0 (17720 + 21 * o + 1 + f + 10) = bob (im x) o (11 + f) := fun v => by
        rw [mS_ne (by omega), show 17720 + 21 * o + 1 + f + 10 = 17720 + 21 * o + 11 + f by omega, ri_ov hR ho hf]
      rcases VOk_01 hv with w' | w'
      · rw [w', if_neg (show ¬ nI 0 + nI 1 = nI 2 by decide), wz_at bo_0 (by omega) (by decide), nI_add, rd_at (by omega) (by decide), hg, wr_at (by omega) (by decide), bnd_s]
      · rw [w', if_pos (show nI 1 + nI 1 = nI 2 by decide), wz_at bo_1 (by omega) (by decide), nI_add, rd_at (by omega) (by decide), hg, wr_at (by omega) (by decide), bnd_s]
theorem a_6 (hn : 1000 ≤ n) (hC : CR S x) (hW : WF (im x)) (hR : RelI (im x) (M 0)) (hP : PlR x M) (hWr : WriS x M) (hp : x.2.1 3 = q + 2) (hq : q < 1241) (t : Int32) {f : Nat} (hf : f < 10) : PA n x M S q (actC n t (nI 6) (nI f) S) (actR n t (nI 6) (nI f) M) := by
  have hB := hW.1
  have h12 : M 12 0 = nI (q + 2) := by rw [hP.1, hp]
  obtain ⟨g1, g2, g3⟩ := hP.2 q (by omega)
  obtain ⟨d1, d2, d3⟩ := hP.2 (q + 1) (by omega)
  have eC : actC n t (nI 6) (nI f) S = f3_writeField n (nI f) S := by
    unfold actC
    rw [if_neg (by decide), if_neg (by decide), if_neg (by decide), if_neg (by decide), if_neg (by decide), if_neg (by decide), if_pos rfl, bnd_eta]
  have eR : actR n t (nI 6) (nI f) M = bnd (fR_ofObject_b20 n (nI 6) (nI f) (nI q) M) (fun _ M30 => some (0, M30)) := by
    unfold actR fR_ofObject
    rw [if_neg (by decide), if_neg (by decide), if_pos (by decide), if_neg (by decide), if_neg (by decide), gf_e h12, pk_sub (by omega), q22]
  rw [eC, eR]
  unfold f3_writeField fR_ofObject_b20
  rw [x_kind n hC hp (show 1 < q + 2 by omega), bnd_s, show q + 2 - 1 - 1 = q by omega, rd_at (by omega) (by decide), g1]
  rcases g3 with h0 | ⟨h1, o, ho, h2⟩
  · rw [h0, if_neg (by decide), if_pos n0_0, bnd_id]
    exact Or.inr ⟨1, M, by omega, by omega, rfl, rfl, fun _ _ => rfl⟩
  · rw [h1, if_pos rfl, if_neg n1_0, x_num n hC hp (show 1 < q + 2 by omega), bnd_s, show q + 2 - 1 - 1 = q by omega, rd_at (by omega) (by decide), g2, h2, if_neg (by decide), r_objAt, bnd_s, show nI (17720 + 21 * o) + nI 1 + nI f = nI (17720 + 21 * o + 1 + f) by rw [nI_add, nI_add], rd_at (show 17720 + 21 * o + 1 + f < 62610 by omega) (by decide), ri_ok hR ho hf, if_neg (show ¬ nI 6 = nI 5 by decide)]
    unfold f0_hasField
    rw [xh7 n hC (by omega), if_pos ho, if_neg n1_0, nI_add, xg7 n hC ho (by omega)]
    rcases (hW.2.2.2.1 o ho).2 f hf with hm | hv
    · rw [if_pos hm, zt_0, bnd_s, if_pos n0_0, if_pos (show bob (im x) o (1 + f) + nI 1 = 0 by rw [hm]; decide), bnd_id]
      exact Or.inr ⟨3, M, by omega, by omega, rfl, rfl, fun _ _ => rfl⟩
    · have hm : ¬ bob (im x) o (1 + f) = -1 := fun w => by
        rcases VOk_01 hv with w' | w' <;> rw [w] at w' <;> exact absurd w' (by decide)
      rw [if_neg hm, zt_1, bnd_s, if_neg n1_0, if_neg (show ¬ bob (im x) o (1 + f) + nI 1 = 0 from fun w => hm (Eq.mp m1_p1 w)), x_kind n hC hp (show 0 < q + 2 by omega), bnd_s, show q + 2 - 1 - 0 = q + 1 by omega, x_num n hC hp (show 0 < q + 2 by omega), bnd_s, show q + 2 - 1 - 0 = q + 1 by omega, q_setField n (hC.2.1 7 (by decide)) ho hf, bnd_s]
      have hC' : CR (tset (tset S 7 o (1 + f) (x.2.2.1 3 (q + 1) 0)) 7 o (11 + f) (x.2.2.1 3 (q + 1) 1)) (st (st x 7 o (1 + f) (x.2.2.1 3 (q + 1) 0)) 7 o (11 + f) (x.2.2.1 3 (q + 1) 1)) := CR_st (by decide) (show 11 + f < 21 by omega) (CR_st (by decide) (show 1 + f < 21 by omega) hC)
      have hp' : (st (st x 7 o (1 + f) (x.2.2.1 3 (q + 1) 0)) 7 o (11 + f) (x.2.2.1 3 (q + 1) 1)).2.1 3 = q + 2 := hp
      have hc3 : (st (st x 7 o (1 + f) (x.2.2.1 3 (q + 1) 0)) 7 o (11 + f) (x.2.2.1 3 (q + 1) 1)).2.2.1 3 = x.2.2.1 3 := rfl
      have hc2 : (st (st x 7 o (1 + f) (x.2.2.1 3 (q + 1) 0)) 7 o (11 + f) (x.2.2.1 3 (q + 1) 1)).2.2.1 2 = x.2.2.1 2 := rfl
      rw [x_kind n hC' hp' (show 0 < q + 2 by omega), bnd_s, show q + 2 - 1 - 0 = q + 1 by omega, x_num n hC' hp' (show 0 < q + 2 by omega), bnd_s, show q + 2 - 1 - 0 = q + 1 by omega, hc3, bnd_eta]
      have hi' : im (st (st x 7 o (1 + f) (x.2.2.1 3 (q + 1) 0)) 7 o (11 + f) (x.2.2.1 3 (q + 1) 1)) = sO (sO (im x) o (1 + f) (x.2.2.1 3 (q + 1) 0)) o (11 + f) (x.2.2.1 3 (q + 1) 1) := rfl
      have hs' : Ims (im x) (sO (sO (im x) o (1 + f) (x.2.2.1 3 (q + 1) 0)) o (11 + f) (x.2.2.1 3 (q + 1) 1)) := ⟨⟨rfl, rfl, rfl, rfl⟩, fun _ _ _ => rfl, Nat.le_refl _, fun _ w => w⟩
      have hR' := RelI_field hR hW.1 ho hf (a := x.2.2.1 3 (q + 1) 0) (b := x.2.2.1 3 (q + 1) 1)
      have hR'' : RelI (im (st (st x 7 o (1 + f) (x.2.2.1 3 (q + 1) 0)) 7 o (11 + f) (x.2.2.1 3 (q + 1) 1))) (mS (mS M 0 (17720 + 21 * o + 1 + f) (x.2.2.1 3 (q + 1) 0 + nI 1)) 0 (17720 + 21 * o + 11 + f) (x.2.2.1 3 (q + 1) 1) 0) := hR'
      -- what the reference does
      obtain ⟨M2, hM2⟩ : ∃ M2, M2 = mS (mS M 0 (17720 + 21 * o + 1 + f) (x.2.2.1 3 (q + 1) 0 + nI 1)) 0 (17720 + 21 * o + 11 + f) (x.2.2.1 3 (q + 1) 1) := ⟨_, rfl⟩
      rw [← hM2] at hR''
      have key : ∀ kk : Int32, kk = x.2.2.1 3 (q + 1) 0 + nI 1 → fR_ofObject_b158 n (nI q) (nI (17720 + 21 * o + 1 + f)) (nI (17720 + 21 * o + 1 + f)) kk M = some (0, top1 (mS M2 12 0 (nI (q + 1))) q (x.2.2.1 3 (q + 1) 0) (x.2.2.1 3 (q + 1) 1)) := by
        intro kk hkk
        subst hkk
        unfold fR_ofObject_b158 top1
        have e1 : mS M 0 (17720 + 21 * o + 1 + f) (x.2.2.1 3 (q + 1) 0 + nI 1) 12 0 = nI (q + 2) := by rw [mS_ne (by omega)]; exact h12
        rw [wr_at (by omega) (by decide), gf_e e1, pk_sub (by omega), q21, rd_at (by omega) (by decide), mS_ne (by omega), d2, nI_add, wr_at (by omega) (by decide), show 17720 + 21 * o + 1 + f + 10 = 17720 + 21 * o + 11 + f by omega]
        have e2 : M2 12 0 = nI (q + 2) := by rw [hM2, mS_ne (by omega), mS_ne (by omega)]; exact h12
        have e3 : ∀ a i, a ≠ 0 → M2 a i = M a i := fun a i ha => by rw [hM2, mS_ne ha, mS_ne ha]
        rw [← hM2]
        rw [gf_e e2, pk_sub (by omega), q21, pf_e, gf_e mS_eq, rd_at (by omega) (by decide), mS_ne (by omega), e3 10 _ (by omega), d1, wz_at (VOk_bo d3) (by omega) (by decide)]
        rw [gf_e (show mS (mS M2 12 0 (nI (q + 1))) 10 q (x.2.2.1 3 (q + 1) 0) 12 0 = nI (q + 1) by rw [mS_ne (by omega), mS_eq]), rd_at (by omega) (by decide), mS_ne (by omega), mS_ne (by omega), e3 11 _ (by omega), d2, wr_at (by omega) (by decide)]
      have e3 : ∀ a, a ≠ 0 → M2 a = M a := fun a ha => by rw [hM2, mS_o ha, mS_o ha]
      have eR2 : bnd (if x.2.2.1 3 (q + 1) 0 = 0 then fR_ofObject_b158 n (nI q) (nI (17720 + 21 * o + 1 + f)) (nI (17720 + 21 * o + 1 + f)) (nI 1) M else fR_ofObject_b158 n (nI q) (nI (17720 + 21 * o + 1 + f)) (nI (17720 + 21 * o + 1 + f)) (nI 2) M) (fun _ M30 => some ((0 : Int32), M30)) = some (0, top1 (mS M2 12 0 (nI (q + 1))) q (x.2.2.1 3 (q + 1) 0) (x.2.2.1 3 (q + 1) 1)) := by
        rcases VOk_01 d3 with w | w
        · rw [if_pos (by rw [w]; decide), key (nI 1) (by rw [w]; decide), bnd_s]
        · rw [if_neg (by rw [w]; decide), key (nI 2) (by rw [w]; decide), bnd_s]
      rw [gf_e h12, pk_sub (by omega), q21, rd_at (by omega) (by decide), d1, eR2]
      have hPt := PAo_put n hn (q := q) (M := M2) hC' (by rw [hi']; exact WF_field hW ho hf d3) (Wri_c (WriS_w hWr) rfl rfl rfl hc2 (e3 23 (by omega)) (e3 25 (by omega)) (e3 26 (by omega)) (e3 27 (by omega))) (t := 2) (by omega) hp' (by omega) (kd := x.2.2.1 3 (q + 1) 0) (nm := x.2.2.1 3 (q + 1) 1) (by rw [hi']; exact Ims_V hs' d3) rfl (M' := top1 (mS M2 12 0 (nI (q + 1))) q (x.2.2.1 3 (q + 1) 0) (x.2.2.1 3 (q + 1) 1)) rfl (by
        have w := PutR_top1 (M := mS M2 12 0 (nI (q + 1))) (q := q) (kd := x.2.2.1 3 (q + 1) 0) (nm := x.2.2.1 3 (q + 1) 1) mS_eq
        refine ⟨w.1, w.2.1, w.2.2.1, fun i hi => ?_, fun a a0 a1 a2 a3 a4 a5 a6 => ?_, fun i hi => ?_⟩
        · rw [(w.2.2.2.1 i hi).1, (w.2.2.2.1 i hi).2, mS_ne (by omega), mS_ne (by omega)]; exact ⟨rfl, rfl⟩
        · rw [w.2.2.2.2.1 a a0 a1 a2 a3 a4 a5 a6, mS_o a3]
        · rw [w.2.2.2.2.2 i hi, mS_ne (by omega)]) (by rw [top1_o (by omega) (by omega), mS_o (by omega)]; exact hR'') (by rw [top1_o (by omega) (by omega), mS_o (by omega)]) (by rw [top1_o (by omega) (by omega), mS_o (by omega)]) (by rw [top1_o (by omega) (by omega), mS_o (by omega)])
      obtain ⟨kd, nm, S', x', M', p1, p2, p3, p4, p5, p6, p7, p8, p9, p10⟩ := hPt
      refine Or.inl ⟨kd, nm, S', x', M', p1, p2, p3, p4, ⟨p5.1, p5.2.1, p5.2.2.1, fun i hi => ?_, fun a a0 a1 a2 a3 a4 a5 a6 => ?_, fun i hi => ?_⟩, p6, p7, p8, p9, Ims_trans hs' p10⟩
      · rw [(p5.2.2.2.1 i hi).1, (p5.2.2.2.1 i hi).2, e3 10 (by omega), e3 11 (by omega)]; exact ⟨rfl, rfl⟩
      · rw [p5.2.2.2.2.1 a a0 a1 a2 a3 a4 a5 a6, e3 a a0]
      · rw [p5.2.2.2.2.2 i hi, hM2, mS_ne2 (by omega), mS_ne2 (by omega)]
end PACT2
