theorem FrK_fr {B : Im} {fr : Nat → Int32} {en : Nat} (h : FrK B fr en) (h6 : ¬ fr 6 = -1) : ∃ w, fr 7 = nI w ∧ Cc B w := by
  rcases h with h | ⟨e, l, q1, q2, q3, q4, q5, q6⟩
  · exact absurd h.2 h6
  · rcases q6 with q6 | ⟨_, _, w, q7, q8⟩
    · exact absurd q6.1 h6
    · exact ⟨w, q7, q8⟩
section WORK
variable (n : Nat)
theorem j_close (hn : 1000 ≤ n) {S : CS} {x : X} {M : MR} {t cf pl : Nat} {hb : Nat → Nat} (hC : CR S x) (hW : WF (im x)) (hR : RelI (im x) (M 0)) (hP : PlR x M) (hWr : Wri x M) (h22 : M 22 0 = nI 0) (h24 : M 24 0 = nI 0) (h17 : x.1 17 0 = nI 0) (hwr : WRt x M t 0 cf hb) (hpl : pl ≤ 60) (f1 : x.2.2.1 4 t 1 = nI pl) (f2 : x.2.2.1 4 t 2 = nI pl) : StO n 151 x M (mu x) (f3_closeFrame n S) (fun k => bnd (fR_finish n M) (fun _ M9 => fR_work_l15 n k M9)) := by
  have hB := hW.1
  obtain ⟨⟨a1, a2, a3, a4, a5, a6, a7⟩, ⟨b1, b2⟩, ⟨pl', en', ⟨g1, g2, g3, g4, g5⟩, g6, g7⟩, c2, c3⟩ := id hwr
  have hpile := WRt_pile hwr
  obtain rfl : pl' = pl := nI_inj (g1.symm.trans f1) (by omega) (by omega)
  obtain rfl : en' = pl' := nI_inj (g2.symm.trans f2) (by omega) (by omega)
  have h1 := okC_end g6
  have hp : x.2.1 3 = hb t + 1 := by omega
  obtain ⟨v1, v2, v3, v4, v5, v6⟩ := id c2
  have hC1 : CR (trow S 4 t) (ro x 4 t) := CR_ro (by decide) (by omega) hC
  have hi1 : im (ro x 4 t) = im x := im_ro0 (by decide)
  have eC : f3_closeFrame n S = if x.2.2.1 4 t 6 = -1 then some (nI 0, trow S 4 t) else bT 3 (trow S 4 t) (f2_dropLast n (tOf 3 (trow S 4 t))) fun _ S5 => bnd (f3_make n (x.2.2.1 4 t 7) S5) fun v6 S6 => some (v6, S6) := by
    unfold f3_closeFrame
    rw [xz4 n hC, a1, pk_sub (by omega), Nat.add_sub_cancel, xg4 n hC (by omega) (by omega), xg4 n hC (by omega) (by omega), b_drop n (by decide) (by have := hC.2.1 4 (by decide); rw [a1] at this; exact this)]
  -- the reference: one frame less
  obtain ⟨M2, hM2d⟩ : ∃ M2, M2 = mS (mS M 20 0 (nI t)) 21 0 (nI (t - cf)) := ⟨_, rfl⟩
  have hM2 : ∀ a, a ≠ 20 → a ≠ 21 → M2 a = M a := fun a z1 z2 => by rw [hM2d, mS_o z2, mS_o z1]
  have hM20 : M2 20 0 = nI t := by rw [hM2d, mS_ne (by omega), mS_eq]
  have hM21 : M2 21 0 = nI (t - cf) := by rw [hM2d, mS_eq]
  have eR : fR_finish n M = if x.2.2.1 4 t 6 = -1 then some (0, M2) else some (0, mS (mS M2 12 0 (nI (hb t))) 22 0 (nI 1)) := by
    have eb : ∀ s1, nI (t + 1 - cf) - s1 = nI (t - cf) → fR_finish_b32 n (nI (t + 1 - cf)) s1 (mS M 20 0 (nI t)) = if x.2.2.1 4 t 6 = -1 then some (0, M2) else some (0, mS (mS M2 12 0 (nI (hb t))) 22 0 (nI 1)) := by
      intro s1 hs1
      unfold fR_finish_b32
      rw [hs1, pf_e, ← hM2d, gf_e hM20, rd_at (by omega) (by decide), hM2 19 (by omega) (by omega), v3]
      by_cases h6 : x.2.2.1 4 t 6 = -1
      · rw [if_pos (by rw [h6]; exact m1_lt), if_pos h6]
      · rw [if_neg h6]
        have hpos : ¬ x.2.2.1 4 t 6 < 0 := by
          rcases g7 with w | ⟨e, l, q1, q2, q3, q4, q5, q6⟩
          · exact absurd w.2 h6
          · rcases q6 with q6 | ⟨q6, _⟩
            · exact absurd q6.1 h6
            · rw [q6]; exact nI_pos (by have := q2.1; omega)
        rw [if_neg hpos, gf_e (show M2 12 0 = nI (hb t + 1) by rw [hM2 12 (by omega) (by omega), hP.1, hp]), pk_sub (by omega), Nat.add_sub_cancel, pf_e, zt_1, pf_e]
    unfold fR_finish
    rw [gf_e a2, pk_sub (by omega), Nat.add_sub_cancel, pf_e, gf_e (v := nI (t + 1 - cf)) (by rw [mS_ne (by omega)]; exact a6), gf_e mS_eq, rd_at (by omega) (by decide), mS_ne (by omega), v1]
    have hrow := (a7 t (by omega)).1
    by_cases h0 : x.2.2.1 4 t 0 = -1
    · have := hrow.mp h0
      rw [if_pos (by rw [h0]; exact m1_lt), eb (nI 0) (by rw [show t + 1 - cf = 0 by omega, show t - cf = 0 by omega]; decide)]
    · have hcf : cf ≤ t := Nat.le_of_not_lt (fun w => h0 (hrow.mpr w))
      have hpos : ¬ x.2.2.1 4 t 0 < 0 := by
        rcases g7 with w | ⟨e, l, q1, q2, _⟩
        · exact absurd w.1 h0
        · rw [q1]; exact nI_pos (by have := q2.1; omega)
      rw [if_neg hpos, eb (nI 1) (by rw [pk_sub (by omega)]; congr 1; omega)]
  by_cases h6 : x.2.2.1 4 t 6 = -1
  · rw [if_pos h6] at eC eR
    refine Or.inl ⟨_, ro x 4 t, M2, 0, eC, by omega, fun k => ?_, hC1, ⟨by rw [hi1]; exact hW, by rw [hi1, hM2 0 (by omega) (by omega)]; exact hR, ?_, ?_, ⟨?_, ?_, h17⟩, ?_⟩, ⟨fun _ _ _ _ => rfl, by rw [hi1]; exact Ims_refl _, rfl⟩, ⟨fun i _ => by rw [hM2 0 (by omega) (by omega)], fun a z0 za => hM2 a (by omega) (by omega)⟩, ?_⟩
    · show bnd (fR_finish n M) _ = _
      rw [eR, bnd_s]; rfl
    · refine ⟨by rw [hM2 12 (by omega) (by omega)]; exact hP.1, fun i hi => ?_⟩
      rw [hM2 10 (by omega) (by omega), hM2 11 (by omega) (by omega), hi1]
      exact hP.2 i hi
    · exact Wri_c hWr rfl rfl (by show uf x.2.1 4 t 2 = _; rw [uf_ne (by decide)]) rfl (hM2 23 (by omega) (by omega)) (hM2 25 (by omega) (by omega)) (hM2 26 (by omega) (by omega)) (hM2 27 (by omega) (by omega))
    · rw [hM2 22 (by omega) (by omega)]; exact h22
    · rw [hM2 24 (by omega) (by omega)]; exact h24
    · have hp3 : (ro x 4 t).2.1 3 = x.2.1 3 := by show uf x.2.1 4 t 3 = _; rw [uf_ne (by decide)]
      by_cases ht0 : t = 0
      · left
        subst ht0
        exact ⟨ro_e, hM20, by rw [hp3, hp, b1]⟩
      · right
        obtain ⟨u, rfl⟩ : ∃ u, t = u + 1 := ⟨t - 1, by omega⟩
        obtain ⟨w1, w2, w3⟩ := c3 u (by omega)
        refine ⟨u, cf, hb, ⟨ro_e, hM20, a3, by omega, a5, hM21, fun i hi => a7 i (by omega)⟩, ⟨b1, by rw [hp3]; omega⟩, ?_, ?_, fun i hi => ?_⟩
        · rw [hp3, hi1, show x.2.1 3 - hb u = hb (u + 1) - hb u + 1 by omega]; exact w2
        · rcases w3 with ⟨_, w4⟩ | ⟨w4, _⟩
          · exact FrR_c w4 (hM2 5 (by omega) (by omega)) (fun a z1 z2 => by rw [hM2 a (by omega) (by omega)])
          · exact absurd h6 w4
        · rw [hi1]
          obtain ⟨y1, y2⟩ := c3 i (by omega)
          exact ⟨y1, bel_c y2 (Ims_refl _) (hM2 5 (by omega) (by omega)) (fun a z1 z2 => by rw [hM2 a (by omega) (by omega)])⟩
    · have : mu (ro x 4 t) + 1 = mu x := by
        unfold mu
        rw [hi1, ro_e, a1]
        show 3 * (1000 - (x.1 16 0).toNatClampNeg) + t + 2 * zc (im x) + 1 = _
        omega
      omega
  · rw [if_neg h6] at eC eR
    have ht0 : t ≠ 0 := fun w => by subst w; exact h6 ((a7 0 (by omega)).2 rfl)
    obtain ⟨u, rfl⟩ : ∃ u, t = u + 1 := ⟨t - 1, by omega⟩
    obtain ⟨w, hw1, hw2⟩ := FrK_fr g7 h6
    obtain ⟨w1, w2, w3⟩ := c3 u (by omega)
    rcases w3 with ⟨w4, _⟩ | ⟨_, w5, w6⟩
    · exact absurd w4 h6
    have hp3 : (ro x 4 (u + 1)).2.1 3 = hb (u + 1) + 1 := by show uf x.2.1 4 (u + 1) 3 = _; rw [uf_ne (by decide)]; exact hp
    have hC2 : CR (trow (trow S 4 (u + 1)) 3 (hb (u + 1))) (ro (ro x 4 (u + 1)) 3 (hb (u + 1))) := CR_ro (by decide) (by rw [hp3]; omega) hC1
    have hi2 : im (ro (ro x 4 (u + 1)) 3 (hb (u + 1))) = im x := by rw [im_ro0 (by decide), hi1]
    have q3 : (ro (ro x 4 (u + 1)) 3 (hb (u + 1))).2.1 3 = hb (u + 1) := ro_e
    have q4 : (ro (ro x 4 (u + 1)) 3 (hb (u + 1))).2.1 4 = u + 1 := by show uf (uf x.2.1 4 (u + 1)) 3 (hb (u + 1)) 4 = _; rw [uf_ne (by decide), uf_eq]
    have eC2 : f3_closeFrame n S = f3_make n (nI w) (trow (trow S 4 (u + 1)) 3 (hb (u + 1))) := by
      rw [eC, b_drop n (by decide) (by have := hC1.2.1 3 (by decide); rw [hp3] at this; exact this), hw1, bnd_eta]
    obtain ⟨M3, hM3⟩ : ∃ M3, M3 = mS (mS M2 12 0 (nI (hb (u + 1)))) 22 0 (nI 1) := ⟨_, rfl⟩
    rw [← hM3] at eR
    have hM3a : ∀ a, a ≠ 12 → a ≠ 20 → a ≠ 21 → a ≠ 22 → M3 a = M a := fun a z1 z2 z3 z4 => by rw [hM3, mS_o z4, mS_o z1, hM2 a z2 z3]
    have hM3_12 : M3 12 0 = nI (hb (u + 1)) := by rw [hM3, mS_ne (by omega), mS_eq]
    have hM3_20 : M3 20 0 = nI (u + 1) := by rw [hM3, mS_ne (by omega), mS_ne (by omega)]; exact hM20
    have hM3_21 : M3 21 0 = nI (u + 1 - cf) := by rw [hM3, mS_ne (by omega), mS_ne (by omega)]; exact hM21
    have hM3_22 : M3 22 0 = nI 1 := by rw [hM3, mS_eq]
    have hm3 : WRm (ro (ro x 4 (u + 1)) 3 (hb (u + 1))) M3 u cf hb w := by
      refine ⟨⟨q4, hM3_20, a3, by omega, a5, hM3_21, fun i hi => a7 i (by omega)⟩, ⟨b1, by rw [q3]; exact w1⟩, ⟨by rw [hi2, q3]; exact w2, ?_, ?_⟩, fun i hi => ?_⟩
      · exact FrR_c w5 (hM3a 5 (by omega) (by omega) (by omega) (by omega)) (fun a z1 z2 => by rw [hM3a a (by omega) (by omega) (by omega) (by omega)])
      · rw [hi2, ← hw1]; exact w6
      · rw [hi2]
        obtain ⟨y1, y2⟩ := c3 i (by omega)
        exact ⟨y1, bel_c y2 (Ims_refl _) (hM3a 5 (by omega) (by omega) (by omega) (by omega)) (fun a z1 z2 => by rw [hM3a a (by omega) (by omega) (by omega) (by omega)])⟩
    have h24' : M3 24 0 = nI 0 := by rw [hM3a 24 (by omega) (by omega) (by omega) (by omega)]; exact h24
    obtain ⟨s, ww, s1, s2, s3, s4, s5⟩ := id hWr
    have h23' : M3 23 0 = nI s := by rw [hM3a 23 (by omega) (by omega) (by omega) (by omega)]; exact s4
    obtain ⟨pl2, en2, _, _, _, hA⟩ := WRm_at hm3 h24'
    have hW2 : WF (im (ro (ro x 4 (u + 1)) 3 (hb (u + 1)))) := by rw [hi2]; exact hW
    have hR3 : RelI (im (ro (ro x 4 (u + 1)) 3 (hb (u + 1)))) (M3 0) := by rw [hi2, hM3a 0 (by omega) (by omega) (by omega) (by omega)]; exact hR
    have hag := fun k => r_again n (k := k) hW2 hR3 hA hM3_22 h23'
    obtain ⟨M4, hM4⟩ : ∃ M4, M4 = mS (mS M3 23 0 (nI s)) 22 0 (nI 0) := ⟨_, rfl⟩
    rw [← hM4] at hag
    have hM4a : ∀ a, a ≠ 22 → a ≠ 23 → M4 a = M3 a := fun a z1 z2 => by rw [hM4, mS_o z1, mS_o z2]
    have hM4_23 : M4 23 0 = nI s := by rw [hM4, mS_ne (by omega), mS_eq]
    have hm4 : WRm (ro (ro x 4 (u + 1)) 3 (hb (u + 1))) M4 u cf hb w := WRm_c hm3 (Ims_refl _) rfl rfl rfl (fun a z0 z1 z2 => hM4a a z1 z2)
    have hj := j_make n hn (m0 := mu x) hC2 hW2 (by rw [hM4a 0 (by omega) (by omega)]; exact hR3) (by
      refine ⟨by rw [hM4a 12 (by omega) (by omega), q3]; exact hM3_12, fun i hi => ?_⟩
      rw [q3] at hi
      rw [hM4a 10 (by omega) (by omega), hM4a 11 (by omega) (by omega), hM3a 10 (by omega) (by omega) (by omega) (by omega), hM3a 11 (by omega) (by omega) (by omega) (by omega), hi2]
      exact hP.2 i (by omega)) (by
      obtain ⟨s5a, s5b, s5c, s5d⟩ := s5
      refine ⟨s, ww, s1, s2, s3, hM4_23, s5a, by rw [hM4a 25 (by omega) (by omega), hM3a 25 (by omega) (by omega) (by omega) (by omega)]; exact s5b, ?_, fun i hi => ?_⟩
      · show uf (uf x.2.1 4 (u + 1)) 3 (hb (u + 1)) 2 = _; rw [uf_ne (by decide), uf_ne (by decide)]; exact s5c
      · rw [hM4a 26 (by omega) (by omega), hM4a 27 (by omega) (by omega), hM3a 26 (by omega) (by omega) (by omega) (by omega), hM3a 27 (by omega) (by omega) (by omega) (by omega)]
        exact s5d i hi) (by rw [hM4, mS_eq]) (by rw [hM4a 24 (by omega) (by omega)]; exact h24') h17 hm4 (by rw [hi2]; exact hw2) (by
      have : mu (ro (ro x 4 (u + 1)) 3 (hb (u + 1))) + 1 = mu x := by
        unfold mu
        rw [hi2, q4, a1]
        show 3 * (1000 - (x.1 16 0).toNatClampNeg) + (u + 1) + 2 * zc (im x) + 1 = _
        omega
      omega)
    have fxs : FXw x (ro (ro x 4 (u + 1)) 3 (hb (u + 1))) := ⟨fun _ _ _ _ => rfl, by rw [hi2]; exact Ims_refl _, rfl⟩
    have fms : FMw M M4 := ⟨fun i _ => by rw [hM4a 0 (by omega) (by omega), hM3a 0 (by omega) (by omega) (by omega) (by omega)], fun a z0 za => by rw [hM4a a (by omega) (by omega), hM3a a (by omega) (by omega) (by omega) (by omega)]⟩
    have eR2 : ∀ k j, (fun k => bnd (fR_finish n M) (fun _ M9 => fR_work_l15 n k M9)) (k + (j + 1)) = RW n w (k + j) M4 := fun k j => by
      show bnd (fR_finish n M) _ = _
      rw [eR, bnd_s]
      exact hag (k + j)
    rw [eC2]
    rcases hj with ⟨S', x', M', j, r1, r2, r3, r4, r5, r6, r7, r8⟩ | ⟨f, S', x', N2, j, r1, r2, r3, r4, r5, r6, r7, r8, r9, r10, r11, r12⟩
    · exact Or.inl ⟨S', x', M', j + 1, r1, by omega, fun k => (eR2 k j).trans (r3 k), r4, r5, FXw_trans fxs r6, FMw_trans fms r7, r8⟩
    · exact Or.inr ⟨f, S', x', N2, j + 1, r1, r2, r3, by omega, fun k => (eR2 k j).trans (r5 k), r6, r7, r8, r9, r10, FXw_trans fxs r11, FMw_trans fms r12⟩
/-- a failure: the starts on the way break, on both sides -/
theorem j_failed {S : CS} {x : X} {M : MR} {f : Nat} (hn : 1000 ≤ n) (hf : 1 ≤ f ∧ f ≤ 100) (hC : CR S x) (hW : WF (im x)) (hR : RelI (im x) (M 0)) (hF : FrS x M) (hWr : Wri x M) : ∃ b S1 x1 M1, f3_breakStarts n S = some (imI b, S1) ∧ (∀ k, bnd (fR_fail n (nI f) M) (fun _ M3 => fR_work_l15 n (k + 1) M3) = some (0, M1)) ∧ CR S1 x1 ∧ WF (im x1) ∧ RelI (im x1) (M1 0) ∧ Wri x1 M1 ∧ FXw x x1 ∧ FMw M M1 ∧ x1.1 = x.1 ∧ M1 24 0 = nI (if b = true then (if f = 100 then 100 else 6) else f) := by
  have hF' : FrS x (mS M 24 0 (nI f)) := ⟨hF.1, by rw [mS_ne (by omega)]; exact hF.2.1, fun i hi => by rw [mS_ne (by omega)]; exact hF.2.2 i hi⟩
  obtain ⟨S1, x1, M1, q1, q2, q3, q4, q5, q6, q7, q8, q9, q10, q11⟩ := j_break n (wh := f) (by omega) (by omega) (x.2.1 4) 0 n n false S x (mS M 24 0 (nI f)) (by omega) (by have := hF.1; omega) (by have := hF.1; omega) hC hW (by rw [mS_o (by omega)]; exact hR) hF' (by rw [mS_eq]; rfl)
  rw [Bool.false_or] at q1 q11
  refine ⟨anyS x 0 (x.2.1 4), S1, x1, M1, q1, fun k => ?_, q3, q4, q5, ?_, q6, FMw_trans (FMw_mS (by omega)) q9, q7, q11⟩
  · unfold fR_fail
    rw [pf_e, q2, bnd_s, fR_work_l15]
    unfold gf
    dsimp only
    have h24 : ¬ M1 24 0 = 0 := by
      rw [q11, ← nI_0]
      intro w
      rw [nI_eq (by split <;> (try split) <;> omega) (by omega)] at w
      split at w
      · split at w <;> omega
      · omega
    split
    · rfl
    · first | rfl | rw [if_neg h24]
  · refine Wri_c hWr (by rw [q7]) (by rw [q7]) (q8 2 (by omega)).1 (q8 2 (by omega)).2 ?_ ?_ ?_ ?_
    · rw [q10 23 (by omega) (by omega), mS_o (by omega)]
    · rw [q10 25 (by omega) (by omega), mS_o (by omega)]
    · rw [q10 26 (by omega) (by omega), mS_o (by omega)]
    · rw [q10 27 (by omega) (by omega), mS_o (by omega)]
def WOut (x : X) (M : MR) (FC : Option (Int32 × CS)) (FR : Option (Int32 × MR)) : Prop := ∃ r S' x' M', FC = some (nI r, S') ∧ FR = some (0, M') ∧ CR S' x' ∧ WF (im x') ∧ RelI (im x') (M' 0) ∧ Wri x' M' ∧ FXw x x' ∧ FMw M M' ∧ ((r = 0 ∧ M' 24 0 = nI 0 ∧ x'.1 17 0 = nI 0 ∧ x'.2.1 3 = 1 ∧ M' 10 0 = x'.2.2.1 3 0 0 ∧ M' 11 0 = x'.2.2.1 3 0 1 ∧ VOk (im x') (x'.2.2.1 3 0 0) (x'.2.2.1 3 0 1)) ∨ (r = 1 ∧ ∃ f, 1 ≤ f ∧ f ≤ 8 ∧ M' 24 0 = nI f ∧ x'.1 17 0 = nI f) ∨ (r = 2 ∧ M' 24 0 = nI 100 ∧ x'.1 17 0 = nI 0))
theorem WOut_t {x x1 : X} {M M1 : MR} {FC : Option (Int32 × CS)} {FR : Option (Int32 × MR)} (h : WOut x1 M1 FC FR) (hx : FXw x x1) (hM : FMw M M1) : WOut x M FC FR := by
  obtain ⟨r, S', x', M', e1, e2, e3, e4, e5, e6, e7, e8, e9⟩ := h
  exact ⟨r, S', x', M', e1, e2, e3, e4, e5, e6, FXw_trans hx e7, FMw_trans hM e8, e9⟩
/-- a step's outcome, worked off -/
theorem j_fin {x : X} {M : MR} {m0 i k k' : Nat} {FC : Option (Int32 × CS)} {FR : Nat → Option (Int32 × MR)} (hn : 1000 ≤ n) (h : StO n 151 x M m0 FC FR) (hk' : 152 * (m0 + 1) ≤ k') (rc : ∀ S' x' M' k2, mu x' < m0 → CR S' x' → WS x' M' → 153 * (mu x' + 1) ≤ k2 → WOut x' M' (f3_work_l11 n k (nI (i + 1)) S') (fR_work_l15 n k2 M')) (hk2 : ∀ m, m < m0 → 153 * (m + 1) + 151 ≤ k') : WOut x M (bnd FC fun v S8 => f3_work_b101 n (f3_work_l11 n k) (nI i) v S8) (FR k') := by
  rcases h with ⟨S', x', M', j, r1, r2, r3, r4, r5, r6, r7, r8⟩ | ⟨f, S', x', M2, j, r1, r2, r3, r4, r5, r6, r7, r8, r9, r10, r11, r12⟩
  · rw [r1, bnd_s]
    unfold f3_work_b101
    rw [if_pos n0_0, nI_add]
    have h1 := hk2 (mu x') r8
    obtain ⟨k2, hk3⟩ : ∃ k2, k' = k2 + j := ⟨k' - j, by omega⟩
    rw [hk3, r3 k2]
    exact WOut_t (rc S' x' M' k2 r8 r4 r5 (by omega)) r6 r7
  · rw [r3, bnd_s]
    obtain ⟨k2, hk3⟩ : ∃ k2, k' = k2 + 1 + j := ⟨k' - j - 1, by omega⟩
    rw [hk3, r5 (k2 + 1)]
    obtain ⟨b, S1, x1, M1, q1, q2, q3, q4, q5, q6, q7, q8, q9, q10⟩ := j_failed n hn ⟨r1, by omega⟩ r6 r7 r8 r9 r10
    unfold f3_work_b101
    rw [if_neg (fun w => by rw [← nI_0, nI_eq (by omega) (by omega)] at w; omega), q1, bnd_s, q2 k2]
    have fx := FXw_trans r11 q7
    have fm := FMw_trans r12 q8
    have h100 : ¬ f = 100 := by omega
    rw [if_neg h100] at q10
    have fin : ∀ v, 1 ≤ v → v ≤ 8 → M1 24 0 = nI v → WOut x M (cp S1 17 (nI v) fun S2 => some (nI 1, S2)) (some (0, M1)) := by
      intro v v1 v2 v3
      refine ⟨1, (mS S1.1 17 0 (nI v), S1.2), pv x1 17 0 (nI v), M1, rfl, rfl, CR_pv (by decide) q3, by rw [im_pv (by omega)]; exact q4, by rw [im_pv (by omega)]; exact q5, Wri_c q6 (pv_o (by omega)) (pv_o (by omega)) rfl rfl rfl rfl rfl rfl, FXw_trans fx ⟨fun a z1 z2 z3 => pv_o z3, by rw [im_pv (by omega)]; exact Ims_refl _, rfl⟩, fm, Or.inr (Or.inl ⟨rfl, v, v1, v2, v3, pv_e⟩)⟩
    cases b with
    | false =>
      rw [show imI false = nI 0 from rfl, if_pos n0_0]
      exact fin f r1 r2 q10
    | true =>
      rw [show imI true = nI 1 from rfl, if_neg n1_0]
      exact fin 6 (by omega) (by omega) q10
theorem j_work (hn : 1000 ≤ n) (m : Nat) : ∀ (i k k' : Nat) (S : CS) (x : X) (M : MR), mu x = m → i + m < 1000000 → m < k → 153 * (m + 1) ≤ k' → CR S x → WS x M → WOut x M (f3_work_l11 n k (nI i) S) (fR_work_l15 n k' M) := by
  induction m using Nat.strongRecOn with
  | ind m ih =>
    intro i k k' S x M hm hi hk hk' hC hS
    obtain ⟨hW, hR, hP, hWr, ⟨h22, h24, h17⟩, hfr⟩ := hS
    obtain ⟨k, rfl⟩ : ∃ q, k = q + 1 := ⟨k - 1, by omega⟩
    obtain ⟨k', rfl⟩ : ∃ q, k' = q + 1 := ⟨k' - 1, by omega⟩
    have hmm : ∀ m1, m1 < m → 153 * (m1 + 1) + 151 ≤ k' := fun m1 h1 => by
      have : 153 * (m1 + 1) + 153 ≤ 153 * (m + 1) := by omega
      omega
    rw [f3_work_l11, if_neg (nI_ge (show i < 1000000 by omega) (by omega)), xz4 n hC, fR_work_l15]
    rcases hfr with ⟨c1, c2, c3⟩ | ⟨t, cf, hb, hwr⟩
    · rw [c1, if_pos (by decide), gf_e c2, if_pos (by decide)]
      obtain ⟨g1, g2, g3⟩ := hP.2 0 (by omega)
      exact ⟨0, S, x, M, rfl, rfl, hC, hW, hR, hWr, FXw_refl x, FMw_refl M, Or.inl ⟨rfl, h24, h17, c3, g1, g2, g3⟩⟩
    · obtain ⟨⟨a1, a2, a3, a4, a5, a6, a7⟩, ⟨b1, b2⟩, ⟨pl, en, ⟨g1, g2, g3, g4, g5⟩, g6, g7⟩, ⟨v1, v2, v3, ⟨plr, v4, v5, v6, v7⟩, v8, v9⟩, c3⟩ := id hwr
      obtain rfl : plr = pl := nI_inj (v4.symm.trans g1) (by omega) (by omega)
      rw [a1, if_neg (nI_nle (by omega) (by omega)), xz4 n hC, a1, pk_sub (by omega), Nat.add_sub_cancel, xg4 n hC (by omega) (by omega), xg4 n hC (by omega) (by omega), g1, g2, gf_e a2, if_neg (nI_nle (by omega) (by omega)), gf_e h24, if_pos n0_0, gf_e a2, pk_sub (by omega), Nat.add_sub_cancel, rd_at (by omega) (by decide), rd_at (by omega) (by decide), v7, v2, g2, Nat.sub_zero]
      have rc : ∀ S' x' M' k2, mu x' < m → CR S' x' → WS x' M' → 153 * (mu x' + 1) ≤ k2 → WOut x' M' (f3_work_l11 n k (nI (i + 1)) S') (fR_work_l15 n k2 M') := fun S' x' M' k2 h1 h2 h3 h4 => ih (mu x') h1 (i + 1) k k2 S' x' M' rfl (by omega) (by omega) h4 h2 h3
      by_cases hpe : plr < en
      · rw [if_pos (nI_lt hpe (by omega)), if_neg (fun w => by rw [nI_eq (by omega) (by omega)] at w; omega)]
        obtain ⟨s, ww, s1, s2, s3, s4, s5, s6, s7, s8⟩ := id hWr
        rw [xcg hC (by decide), s3, gf_e h22, if_pos n0_0, gf_e s4]
        by_cases hs : s < 1000
        · rw [if_pos (nI_lt hs (by omega)), xcg hC (by decide), s3, nI_add, cp_e, if_neg (fun w => by rw [nI_eq (by omega) (by omega)] at w; omega)]
          unfold fR_work_b84 fR_work_b101 fR_work_b114
          rw [gf_e s4, gf_e h22, if_pos n0_0, nI_add, pf_e, zt_0, pf_e]
          have hC1 : CR (mS S.1 16 0 (nI (s + 1)), S.2) (pv x 16 0 (nI (s + 1))) := CR_pv (by decide) hC
          have hi1 : im (pv x 16 0 (nI (s + 1))) = im x := im_pv (by omega)
          have hMa : ∀ a, a ≠ 22 → a ≠ 23 → mS (mS M 23 0 (nI (s + 1))) 22 0 (nI 0) a = M a := fun a z1 z2 => by rw [mS_o z1, mS_o z2]
          have hwr1 : WRt (pv x 16 0 (nI (s + 1))) (mS (mS M 23 0 (nI (s + 1))) 22 0 (nI 0)) t 0 cf hb := by
            refine WRt_top hwr (by rw [hi1]; exact Ims_refl _) rfl (fun _ _ => rfl) rfl rfl rfl (pv_o (by omega)) (pv_o (by omega)) (fun a z1 z2 i hi => by rw [hMa a (by omega) (by omega)]) (hMa 5 (by omega) (by omega)) (by rw [hMa 20 (by omega) (by omega)]) (by rw [hMa 21 (by omega) (by omega)]) b2 ?_ ?_
            · rw [hi1]; exact hwr.2.2.1
            · exact FrR_c hwr.2.2.2.1 (hMa 5 (by omega) (by omega)) (fun a z1 z2 => by rw [hMa a (by omega) (by omega)])
          have hmu1 : mu (pv x 16 0 (nI (s + 1))) + 3 = mu x := by
            unfold mu
            rw [pv_e, s3, hi1, nI_clamp (by omega), nI_clamp (by omega)]
            show 3 * (1000 - (s + 1)) + x.2.1 4 + 2 * zc (im x) + 3 = _
            omega
          have hact := j_act n hn (m0 := m) hC1 (by rw [hi1]; exact hW) (by rw [hi1, hMa 0 (by omega) (by omega)]; exact hR) (by
            refine ⟨by rw [hMa 12 (by omega) (by omega)]; exact hP.1, fun i hi => ?_⟩
            rw [hMa 10 (by omega) (by omega), hMa 11 (by omega) (by omega), hi1]
            exact hP.2 i hi) ⟨s + 1, ww, by omega, by omega, pv_e, by rw [mS_ne (by omega), mS_eq], by rw [pv_o (by omega)]; exact s5, by rw [hMa 25 (by omega) (by omega)]; exact s6, s7, fun i hi => by rw [hMa 26 (by omega) (by omega), hMa 27 (by omega) (by omega)]; exact s8 i hi⟩ mS_eq (by rw [hMa 24 (by omega) (by omega)]; exact h24) (by rw [pv_o (by omega)]; exact h17) hwr1 (by omega) g1 g2 hpe g4
          have hact' : StO n 151 (pv x 16 0 (nI (s + 1))) (mS (mS M 23 0 (nI (s + 1))) 22 0 (nI 0)) m (f3_act n (nI t) (mS S.1 16 0 (nI (s + 1)), S.2)) (fun k => bnd (fR_act n (mS (mS M 23 0 (nI (s + 1))) 22 0 (nI 0))) (fun _ M3 => fR_work_l15 n k M3)) := by
            rcases hact with ⟨S', x', M', j, r1, r2, r3⟩ | ⟨f, S', x', M2, j, r1, r2, r3, r4, r5⟩
            · exact Or.inl ⟨S', x', M', j, r1, by omega, r3⟩
            · exact Or.inr ⟨f, S', x', M2, j, r1, r2, r3, by omega, r5⟩
          exact WOut_t (j_fin n hn hact' (by omega) rc hmm) ⟨fun a z1 z2 z3 => pv_o z2, by rw [hi1]; exact Ims_refl _, rfl⟩ ⟨fun i _ => by rw [hMa 0 (by omega) (by omega)], fun a z0 za => hMa a (by omega) (by omega)⟩
        · rw [if_neg (nI_nlt (by omega) (by omega)), if_pos (show nI s = nI 1000 by rw [show s = 1000 by omega])]
          unfold fR_work_b114
          obtain ⟨b, S1, x1, M1, q1, q2, q3, q4, q5, q6, q7, q8, q9, q10⟩ := j_failed n hn (f := 100) (by omega) hC hW hR (WRt_FrS hwr) hWr
          obtain ⟨k2, rfl⟩ : ∃ q, k' = q + 1 := ⟨k' - 1, by omega⟩
          rw [q1, bnd_s, q2 k2]
          refine ⟨2, S1, x1, M1, rfl, rfl, q3, q4, q5, q6, q7, q8, Or.inr (Or.inr ⟨rfl, ?_, by rw [q9]; exact h17⟩)⟩
          rw [q10]
          cases b <;> rfl
      · obtain rfl : en = plr := by omega
        rw [if_neg (nI_nlt (by omega) (by omega)), if_pos rfl]
        unfold fR_work_b114
        have hcl := j_close n hn hC hW hR hP hWr h22 h24 h17 hwr g4 g1 g2
        rw [hm] at hcl
        exact j_fin n hn hcl (by omega) rc hmm
end WORK
