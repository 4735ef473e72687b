section JACT
variable (n : Nat)
theorem j_act (hn : 1000 ≤ n) {S : CS} {x : X} {M : MR} {t cf m0 pl en : Nat} {hb : Nat → Nat} (hC : CR S x) (hW : WF (im x)) (hR : RelI (im x) (M 0)) (hP : PlR x M) (hWr : WriS x M) (h22 : M 22 0 = nI 0) (h24 : M 24 0 = nI 0) (h17 : x.1 17 0 = nI 0) (hwr : WRt x M t 0 cf hb) (hmu : mu x + 1 < m0) (f1 : x.2.2.1 4 t 1 = nI pl) (f2 : x.2.2.1 4 t 2 = nI en) (hpe : pl < en) (hen : en ≤ 60) : StO n 150 x M m0 (f3_act n (nI t) S) (fun k => bnd (fR_act n M) (fun _ M3 => fR_work_l15 n k M3)) := by
  have hB := hW.1
  obtain ⟨⟨a1, a2, a3, a4, a5, a6, a7⟩, ⟨b1, b2⟩, ⟨pl', en', ⟨g1, g2, g3, g4, g5⟩, g6, g7⟩, c2, c3⟩ := id hwr
  obtain rfl : pl' = pl := nI_inj (g1.symm.trans f1) (by omega) (by omega)
  obtain rfl : en' = en := nI_inj (g2.symm.trans f2) (by omega) (by omega)
  obtain ⟨a, ha, hta, htk, hsz, him, hokK, hok⟩ := okC_step g6 hpe
  obtain ⟨k, S6, e1, e2, e3⟩ := x_act n hC hB.2.1 (show t < x.2.1 4 by omega) f1 hpe hen g7 ha hta hsz
  have hs := sz_b a
  have hpile := WRt_pile hwr
  have hh := htk
  have ht22 : t < 22 := by omega
  obtain ⟨v1, v2, v3, ⟨plr, v4, v5, v6, v7⟩, v8, v9⟩ := id c2
  obtain rfl : plr = pl' := nI_inj (v4.symm.trans f1) (by omega) (by omega)
  have m14 : M 14 t = nI plr := v7
  have hra := r_act n hW hR (fr := x.2.2.1 4 t) (cc := x.1 18) ht22 a2 v1 m14 f2 v8 g7 hen hsz ha hta
  have hi2 : im (st x 4 t 1 (nI (plr + sz a))) = im x := im_st0 (by decide)
  have hP2 : PlR (st x 4 t 1 (nI (plr + sz a))) (mS M 14 t (nI (plr + sz a))) := by
    refine ⟨by rw [mS_ne (by omega)]; exact hP.1, fun i hi => ?_⟩
    rw [mS_ne (by omega), mS_ne (by omega), hi2]
    exact hP.2 i hi
  have hWr2 : WriS (st x 4 t 1 (nI (plr + sz a))) (mS M 14 t (nI (plr + sz a))) := by
    obtain ⟨s, w, w1, w2, w3, w4, w5, w6, w7, w8⟩ := hWr
    refine ⟨s, w, w1, w2, w3, by rw [mS_ne (by omega)]; exact w4, w5, by rw [mS_ne (by omega)]; exact w6, w7, fun i hi => ?_⟩
    rw [mS_ne (by omega), mS_ne (by omega)]
    exact w8 i hi
  have hW2 : WF (im (st x 4 t 1 (nI (plr + sz a)))) := by rw [hi2]; exact hW
  have hR2 : RelI (im (st x 4 t 1 (nI (plr + sz a)))) (mS M 14 t (nI (plr + sz a)) 0) := by rw [hi2, mS_o (by omega)]; exact hR
  -- acts that only touch the pile
  have pa : ∀ q, x.2.1 3 = q + tks a → hb t ≤ q → a ≠ 2 → PA n (st x 4 t 1 (nI (plr + sz a))) (mS M 14 t (nI (plr + sz a))) S6 q (actC n (nI t) (nI a) k S6) (actR n (nI t) (nI a) (if a ≤ 7 then txF (im x) (x.1 18) (x.2.2.1 4 t) (plr + 1) else nI 0) (mS M 14 t (nI (plr + sz a)))) → StO n 150 x M m0 (f3_act n (nI t) S) (fun k => bnd (fR_act n M) (fun _ M3 => fR_work_l15 n k M3)) := by
    intro q hq hbq hne h
    rw [e1, hra, if_neg hne]
    exact st_put n (a := a) hwr h22 h24 h17 (by omega) hP f1 f2 hen g5 g7 hq hbq hsz hok e2 hW hR (WriS_w hWr) h
  have hq : ∃ q, x.2.1 3 = q + tks a ∧ hb t ≤ q := ⟨x.2.1 3 - tks a, by omega, by omega⟩
  obtain ⟨q, hq1, hq2⟩ := hq
  have hq3 : q < 1241 := by omega
  have hq1' : (st x 4 t 1 (nI (plr + sz a))).2.1 3 = q + tks a := hq1
  by_cases h2 : a = 2
  · subst h2
    obtain ⟨e, he1, he2⟩ := hokK.2.1 (Or.inl rfl)
    have hk := e3 (by omega)
    rw [e1, hra, if_pos rfl, he1]
    have eC : actC n (nI t) (nI 2) k S6 = f3_make n (nI e) S6 := by
      unfold actC
      rw [if_neg (by decide), if_neg (by decide), if_pos rfl, hk, he1, bnd_eta]
    rw [eC]
    have hrow : ∀ i c, (st x 4 t 1 (nI (plr + sz 2))).2.2.1 4 i c = if i = t ∧ c = 1 then nI (plr + sz 2) else x.2.2.1 4 i c := fun i c => rfl
    have hfr : ∀ c, c ≠ 1 → (st x 4 t 1 (nI (plr + sz 2))).2.2.1 4 t c = x.2.2.1 4 t c := fun c hc => by rw [hrow, if_neg (fun w => hc w.2)]
    have hfr1 : (st x 4 t 1 (nI (plr + sz 2))).2.2.1 4 t 1 = nI (plr + sz 2) := by rw [hrow, if_pos ⟨rfl, rfl⟩]
    have hfi : ∀ i, i ≠ t → (st x 4 t 1 (nI (plr + sz 2))).2.2.1 4 i = x.2.2.1 4 i := fun i hi => funext fun c => by rw [hrow, if_neg (fun w => hi w.1)]
    have htx : txF (im x) (x.1 18) ((st x 4 t 1 (nI (plr + sz 2))).2.2.1 4 t) = txF (im x) (x.1 18) (x.2.2.1 4 t) := by unfold txF; rw [hfr 0 (by omega)]
    have himf : imF ((st x 4 t 1 (nI (plr + sz 2))).2.2.1 4 t) = imF (x.2.2.1 4 t) := by unfold imF; rw [hfr 0 (by omega), hfr 6 (by omega)]
    have sz2 : sz 2 = 2 := rfl
    have hm : WRm (st x 4 t 1 (nI (plr + sz 2))) M t cf hb e := by
      refine ⟨⟨a1, a2, a3, a4, a5, a6, fun i hi => ?_⟩, ⟨b1, b2⟩, ⟨?_, ?_, ?_⟩, fun i hi => ?_⟩
      · by_cases hit : i = t
        · subst hit; rw [hfr 0 (by omega), hfr 6 (by omega)]; exact a7 i hi
        · rw [hfi i hit]; exact a7 i hi
      · rw [hi2]
        refine ⟨plr + sz 2, en', ⟨hfr1, by rw [hfr 2 (by omega)]; exact f2, hsz, hen, ?_⟩, ?_, ?_⟩
        · show x.2.1 3 - hb t + 1 ≤ _; omega
        · show okC (im x) (txF (im x) (x.1 18) _) _ en' (plr + sz 2) (x.2.1 3 - hb t + 1)
          rw [htx, himf]; exact hok
        · unfold FrK at g7 ⊢
          rw [hfr 0 (by omega), hfr 3 (by omega), hfr 4 (by omega), hfr 5 (by omega), hfr 6 (by omega), hfr 7 (by omega)]
          exact g7
      · refine ⟨by rw [hfr 0 (by omega)]; exact v1, by rw [hfr 2 (by omega)]; exact v2, by rw [hfr 6 (by omega)]; exact v3, ⟨plr + sz 2, hfr1, by omega, by omega, ?_⟩, ?_, ?_⟩
        · rw [m14]; congr 1
        · rw [hfr 0 (by omega), hfr 2 (by omega)]; exact v8
        · rw [hfr 0 (by omega), hfr 3 (by omega), hfr 4 (by omega), hfr 5 (by omega), hfr 6 (by omega)]; exact v9
      · rw [hi2]
        refine ⟨plr + sz 2, hfr1, by omega, by omega, ?_, ?_⟩
        · show txF (im x) (x.1 18) _ (plr + 2 - 2) = _
          rw [htx, Nat.add_sub_cancel]; exact hta
        · show txF (im x) (x.1 18) _ (plr + 2 - 1) = _
          rw [htx, show plr + 2 - 1 = plr + 1 by omega]; exact he1
      · rw [hi2, hfi i (by omega)]
        obtain ⟨w1, w2⟩ := c3 i hi
        refine ⟨w1, ?_⟩
        by_cases hit : i + 1 = t
        · unfold Bel at w2 ⊢
          rw [hit, hfr 6 (by omega), hfr 7 (by omega)]
          rw [hit] at w2
          exact w2
        · rw [hfi (i + 1) hit]; exact w2
    have hj := j_make n hn (m0 := m0) e2 hW2 (by rw [hi2]; exact hR) (by
      refine ⟨hP.1, fun i hi => ?_⟩
      rw [hi2]
      exact hP.2 i hi) (WriS_w (by
      obtain ⟨s, w, w1, w2, w3, w4, w5, w6, w7, w8⟩ := hWr
      exact ⟨s, w, w1, w2, w3, w4, w5, w6, w7, w8⟩)) h22 h24 h17 hm (by rw [hi2]; exact he2) (by
      have : mu (st x 4 t 1 (nI (plr + sz 2))) = mu x := by unfold mu; rw [hi2]; rfl
      omega)
    have fxs : FXw x (st x 4 t 1 (nI (plr + sz 2))) := ⟨fun _ _ _ _ => rfl, by rw [hi2]; exact Ims_refl _, rfl⟩
    rcases hj with ⟨S', x', M', j, q1, q2, q3, q4, q5, q6, q7, q8⟩ | ⟨f, S', x', M2, j, q1, q2, q3, q4, q5, q6, q7, q8, q9, q10, q11, q12⟩
    · exact Or.inl ⟨S', x', M', j, q1, q2, q3, q4, q5, FXw_trans fxs q6, q7, q8⟩
    · exact Or.inr ⟨f, S', x', M2, j, q1, q2, q3, q4, q5, q6, q7, q8, q9, q10, FXw_trans fxs q11, q12⟩
  · by_cases h7 : a = 7
    · subst h7
      obtain ⟨m, hm, hmk⟩ := hokK.2.2.2 rfl
      have hk := e3 (by omega)
      have hqq : x.2.1 3 = q + 2 := hq1
      have sz7 : sz 7 = 2 := rfl
      have eC : actC n (nI t) (nI 7) k S6 = f3_callMethod n (nI m) S6 := by
        unfold actC
        rw [if_neg (by decide), if_neg (by decide), if_neg (by decide), if_neg (by decide), if_neg (by decide), if_neg (by decide), if_neg (by decide), if_pos rfl, hk, hmk, bnd_eta]
      have h12 : mS M 14 t (nI (plr + sz 7)) 12 0 = nI (q + 2) := by rw [mS_ne (by omega), hP.1, hqq]
      obtain ⟨d1, d2, d3⟩ := hP2.2 q (by show q < x.2.1 3; omega)
      have eR : actR n (nI t) (nI 7) (nI m) (mS M 14 t (nI (plr + sz 7))) = bnd (fR_ofObject_b20 n (nI 7) (nI m) (nI q) (mS M 14 t (nI (plr + sz 7)))) (fun _ M30 => some (0, M30)) := by
        unfold actR fR_ofObject
        rw [if_neg (by decide), if_neg (by decide), if_pos (by decide), if_neg (by decide), if_neg (by decide), gf_e h12, pk_sub (by omega), q22]
      rw [e1, hra, if_neg (by decide), if_pos (by decide), hmk, eC, eR]
      unfold fR_ofObject_b20
      rw [rd_at (by omega) (by decide), d1]
      have hwfl : ∀ f (M2 : MR), 1 ≤ f → f ≤ 8 → M2 = mS M 14 t (nI (plr + sz 7)) → f3_callMethod n (nI m) S6 = some (nI f, S6) → ∀ FR : Option (Int32 × MR), FR = bnd (fR_fail n (nI f) M2) (fun _ M' => some (0, M')) → StO n 150 x M m0 (f3_callMethod n (nI m) S6) (fun k => bnd FR (fun _ M3 => fR_work_l15 n k M3)) := by
        intro f M2 w1 w2 w3 w4 FR w5
        exact st_put n (a := 7) (m0 := m0) (FC := f3_callMethod n (nI m) S6) (FR := FR) hwr h22 h24 h17 (by omega) hP f1 f2 hen g5 g7 hq1 hq2 hsz hok e2 hW hR (WriS_w hWr) (Or.inr ⟨f, M2, w1, w2, w4, w5, fun b hb12 => by rw [w3]⟩)
      rcases d3 with h0 | ⟨h1, o, ho, h2o⟩
      · rw [h0, if_pos n0_0]
        refine hwfl 1 _ (by omega) (by omega) rfl ?_ (bnd (bnd (fR_fail n (nI 1) (mS M 14 t (nI (plr + sz 7)))) fun _ M10 => some (0, M10)) fun _ M30 => some (0, M30)) bnd_id
        unfold f3_callMethod
        rw [x_kind n e2 (show (st x 4 t 1 (nI (plr + sz 7))).2.1 3 = q + 2 from hqq) (show 1 < q + 2 by omega), bnd_s, show q + 2 - 1 - 1 = q by omega, h0, if_neg (by decide)]
      · rw [h1, if_neg n1_0, rd_at (by omega) (by decide), d2, h2o, if_pos rfl]
        rcases j_method n hn e2 hW2 hR2 hP2 (show (st x 4 t 1 (nI (plr + sz 7))).2.1 3 = q + 2 from hqq) hq3 (f := t + 1) (cf := cf) (m := m) (o := o) a1 (by rw [mS_ne (by omega)]; exact a2) a5 a3 (by omega) a4 (by rw [mS_ne (by omega)]; exact a6) hm h1 h2o ho with ⟨S', x', M', p1, p2, p3, ⟨y1, y2, y3, y4, y5, y6, y7, y8⟩, ⟨z1, z2, z3, z4, z5⟩, z6, p4, p5, p6, p7, p8, p9, hdp⟩ | ⟨fl, w1, w2, w3, w4⟩
        · rw [hi2] at p4 p8
          have hrow : ∀ i c, (st x 4 t 1 (nI (plr + sz 7))).2.2.1 4 i c = if i = t ∧ c = 1 then nI (plr + sz 7) else x.2.2.1 4 i c := fun i c => rfl
          have hfr : ∀ c, c ≠ 1 → (st x 4 t 1 (nI (plr + sz 7))).2.2.1 4 t c = x.2.2.1 4 t c := fun c hc => by rw [hrow, if_neg (fun w => hc w.2)]
          have hfr1 : (st x 4 t 1 (nI (plr + sz 7))).2.2.1 4 t 1 = nI (plr + sz 7) := by rw [hrow, if_pos ⟨rfl, rfl⟩]
          have hfi : ∀ i, i ≠ t → (st x 4 t 1 (nI (plr + sz 7))).2.2.1 4 i = x.2.2.1 4 i := fun i hi => funext fun c => by rw [hrow, if_neg (fun w => hi w.1)]
          have htx : txF (im x) (x.1 18) ((st x 4 t 1 (nI (plr + sz 7))).2.2.1 4 t) = txF (im x) (x.1 18) (x.2.2.1 4 t) := by unfold txF; rw [hfr 0 (by omega)]
          have himf : imF ((st x 4 t 1 (nI (plr + sz 7))).2.2.1 4 t) = imF (x.2.2.1 4 t) := by unfold imF; rw [hfr 0 (by omega), hfr 6 (by omega)]
          have hM5 : M' 5 = M 5 := by rw [z5 5 (by omega) (by omega), mS_o (by omega)]
          have hMi : ∀ b, 13 ≤ b → b ≤ 19 → ∀ i, i < t → M' b i = M b i := fun b w1 w2 i hi => by
            rw [z4 b w1 w2 i (by omega)]
            by_cases hb14 : b = 14
            · subst hb14; exact mS_ne2 (by omega)
            · exact mS_ne hb14
          have hMt : ∀ b, 13 ≤ b → b ≤ 19 → b ≠ 14 → M' b t = M b t := fun b w1 w2 w3 => by rw [z4 b w1 w2 t (by omega), mS_ne w3]
          have hd : t + 2 ≤ 20 + cf := by omega
          refine Or.inl ⟨S', x', M', 0, p1, by omega, fun k => ?_, p3, ⟨by rw [p8]; exact hW, by rw [p8, p9, mS_o (by omega)]; exact hR, ?_, ?_, ⟨?_, ?_, ?_⟩, Or.inr ⟨t + 1, cf, uf hb (t + 1) q, ?_⟩⟩, ?_, ?_, ?_⟩
          · show bnd _ _ = _
            rw [p2, bnd_s, bnd_s, bnd_s]; rfl
          · refine ⟨by rw [z3, y3], fun i hi => ?_⟩
            rw [y3] at hi
            rw [z5 10 (by omega) (by omega), z5 11 (by omega) (by omega), y4, mS_ne (by omega), mS_ne (by omega), p8]
            exact hP.2 i (by omega)
          · exact Wri_c (WriS_w hWr) (by rw [y5]; rfl) (by rw [y5]; rfl) y6 y7 (by rw [z5 23 (by omega) (by omega), mS_o (by omega)]) (by rw [z5 25 (by omega) (by omega), mS_o (by omega)]) (by rw [z5 26 (by omega) (by omega), mS_o (by omega)]) (by rw [z5 27 (by omega) (by omega), mS_o (by omega)])
          · rw [z6, mS_ne (by omega)]; exact h22
          · rw [z5 24 (by omega) (by omega), mS_ne (by omega)]; exact h24
          · rw [y5]; exact h17
          · refine WRt_push (x := st x 4 t 1 (nI (plr + sz 7))) (M := M) (f := t + 1) (q := q) rfl ⟨a1, a3, a5, fun i hi => ?_⟩ hd b1 hq2 y1 y2 y3 ⟨by rw [y5], by rw [y5]⟩ z1 z2 p6 (by rw [p8]; exact p4) p5 ?_ (fun i hi => ?_)
            · by_cases hit : i = t
              · subst hit; rw [hfr 0 (by omega), hfr 6 (by omega)]; exact a7 i hi
              · rw [hfi i hit]; exact a7 i hi
            · refine ⟨?_, Or.inl ⟨p7, ?_⟩⟩
              · rw [p8]
                refine ⟨plr + sz 7, en', ⟨hfr1, by rw [hfr 2 (by omega)]; exact f2, hsz, hen, by omega⟩, ?_, ?_⟩
                · show okC (im x) (txF (im x) (x.1 18) _) _ en' (plr + sz 7) (q - hb t + 1)
                  rw [htx, himf, show q - hb t + 1 = x.2.1 3 - hb t + 1 - tks 7 by rw [hqq]; show _ = q + 2 - hb t + 1 - 2; omega]
                  exact hok
                · unfold FrK at g7 ⊢
                  rw [hfr 0 (by omega), hfr 3 (by omega), hfr 4 (by omega), hfr 5 (by omega), hfr 6 (by omega), hfr 7 (by omega)]
                  exact g7
              · refine ⟨by rw [hMt 13 (by omega) (by omega) (by omega), hfr 0 (by omega)]; exact v1, by rw [hMt 15 (by omega) (by omega) (by omega), hfr 2 (by omega)]; exact v2, by rw [hMt 19 (by omega) (by omega) (by omega), hfr 6 (by omega)]; exact v3, ⟨plr + sz 7, hfr1, by omega, by omega, ?_⟩, ?_, ?_⟩
                · rw [z4 14 (by omega) (by omega) t (by omega), mS_eq]; rfl
                · rw [hfr 0 (by omega), hfr 2 (by omega), hM5]; exact v8
                · rw [hfr 0 (by omega), hfr 6 (by omega), hMt 16 (by omega) (by omega) (by omega), hMt 17 (by omega) (by omega) (by omega), hMt 18 (by omega) (by omega) (by omega), hfr 3 (by omega), hfr 4 (by omega), hfr 5 (by omega)]; exact v9
            · obtain ⟨w1, w2⟩ := c3 i hi
              refine ⟨w1, ?_⟩
              rw [p8, hfi i (by omega)]
              have w3 := bel_c (B' := im x) (M' := M') w2 (Ims_refl _) hM5 (fun b q1 q2 => hMi b q1 q2 i hi)
              by_cases hit : i + 1 = t
              · unfold Bel at w3 ⊢
                rw [hit, hfr 6 (by omega), hfr 7 (by omega)]
                rw [hit] at w3
                exact w3
              · rw [hfi (i + 1) hit]; exact w3
          · exact ⟨fun b _ _ _ => by rw [y5]; rfl, by rw [p8]; exact Ims_refl _, y8⟩
          · exact ⟨fun i _ => by rw [p9, mS_ne (by omega)], fun b w0 wb => by rw [z5 b w0 (by omega), mS_o (by omega)]⟩
          · have : mu x' = mu x + 1 := by
              unfold mu
              rw [y5, y1, p8, a1]
              show 3 * (1000 - (x.1 16 0).toNatClampNeg) + (t + 1 + 1) + 2 * zc (im x) = _
              omega
            omega
        · refine hwfl fl _ w1 w2 rfl w3 (bnd (bnd (fR_method n (nI o) (nI m) (mS M 14 t (nI (plr + sz 7)))) fun _ M9 => some (0, M9)) fun _ M30 => some (0, M30)) ?_
          rw [w4, bnd_id, bnd_id]
    · -- the rest
      have hc : a = 0 ∨ a = 1 ∨ a = 3 ∨ a = 4 ∨ a = 5 ∨ a = 6 ∨ (8 ≤ a ∧ a ≤ 12) ∨ a = 13 ∨ a = 14 ∨ a = 15 ∨ a = 16 ∨ a = 17 ∨ a = 18 := by omega
      have hpa := pa q hq1 hq2 h2
      rcases hc with rfl | rfl | rfl | rfl | rfl | rfl | h8 | rfl | rfl | rfl | rfl | rfl | rfl
      · refine hpa ?_
        rw [if_pos (by omega), e3 (by omega)]
        exact a_0 n hn e2 hW2 hR2 hP2 hWr2 hq1' hq3 _ _
      · refine hpa ?_
        obtain ⟨e, he1, he2⟩ := hokK.1 rfl
        rw [if_pos (by omega), e3 (by omega), he1]
        exact a_1 n hn e2 hW2 hR2 hP2 hWr2 hq1' hq3 _ (by rw [hi2]; exact he2)
      · refine hpa ?_
        obtain ⟨e, he1, he2⟩ := hokK.2.1 (by omega)
        rw [if_pos (by omega), e3 (by omega), he1]
        exact a_3 n hn e2 hW2 hR2 hP2 hWr2 hq1' hq3 _ (by rw [hi2]; exact he2)
      · refine hpa ?_
        obtain ⟨e, he1, he2⟩ := hokK.2.1 (by omega)
        rw [if_pos (by omega), e3 (by omega), he1]
        exact a_4 n hn e2 hW2 hR2 hP2 hWr2 hq1' hq3 _ (by rw [hi2]; exact he2)
      · refine hpa ?_
        obtain ⟨f, hf1, hf2⟩ := hokK.2.2.1 (by omega)
        rw [if_pos (by omega), e3 (by omega), hf2]
        exact a_5 n hn e2 hW2 hR2 hP2 hWr2 hq1' hq3 _ hf1
      · refine hpa ?_
        obtain ⟨f, hf1, hf2⟩ := hokK.2.2.1 (by omega)
        rw [if_pos (by omega), e3 (by omega), hf2]
        exact a_6 n hn e2 hW2 hR2 hP2 hWr2 hq1' hq3 _ hf1
      · have htk2 : tks a = 2 := by unfold tks; simp (disch := omega) only [if_neg, if_pos]
        rw [htk2] at hq1 hq1'
        have e5 : ∀ k', actC n (nI t) (nI a) k S6 = actC n (nI t) (nI a) k' S6 := by
          intro k'
          have hh5 : a = 8 ∨ a = 9 ∨ a = 10 ∨ a = 11 ∨ a = 12 := by omega
          unfold actC
          rcases hh5 with rfl | rfl | rfl | rfl | rfl <;> simp (disch := omega) only [y_lt, y_nlt, y_le, y_nle, y_ne, y_eq, y_n0, y_00, y_l0, y_0l, y_le0, y_m1, y_m1', y_ml, y_m0, y_0m, y_mm, y_lem, y_mle, ↓reduceIte, if_true, if_false]
        refine hpa ?_
        rw [if_neg (by omega), e5 (nI 0)]
        exact a_rk n hn e2 hW2 hR2 hP2 hWr2 hq1' hq3 _ _ h8
      · refine hpa ?_
        rw [if_neg (by omega), show actC n (nI t) (nI 13) k S6 = actC n (nI t) (nI 13) (nI 0) S6 by unfold actC; simp (disch := omega) only [y_lt, y_nlt, y_le, y_nle, y_ne, y_eq, y_n0, y_00, y_l0, y_0l, y_le0, y_m1, y_m1', y_ml, y_m0, y_0m, y_mm, y_lem, y_mle, ↓reduceIte, if_true, if_false]]
        exact a_13 n hn e2 hW2 hR2 hP2 hWr2 hq1' hq3 _ _
      · refine hpa ?_
        rw [if_neg (by omega), show actC n (nI t) (nI 14) k S6 = actC n (nI t) (nI 14) (nI 0) S6 by unfold actC; simp (disch := omega) only [y_lt, y_nlt, y_le, y_nle, y_ne, y_eq, y_n0, y_00, y_l0, y_0l, y_le0, y_m1, y_m1', y_ml, y_m0, y_0m, y_mm, y_lem, y_mle, ↓reduceIte, if_true, if_false]]
        exact a_14 n hn e2 hW2 hR2 hP2 hWr2 hq1' hq3 _ _
      · refine hpa ?_
        rw [if_neg (by omega), show actC n (nI t) (nI 15) k S6 = actC n (nI t) (nI 15) (nI 0) S6 by unfold actC; simp (disch := omega) only [y_lt, y_nlt, y_le, y_nle, y_ne, y_eq, y_n0, y_00, y_l0, y_0l, y_le0, y_m1, y_m1', y_ml, y_m0, y_0m, y_mm, y_lem, y_mle, ↓reduceIte, if_true, if_false]]
        exact a_15 n hn e2 hW2 hR2 hP2 hWr2 hq1' hq3 _ _
      · refine hpa ?_
        have hmm := him (Or.inl rfl)
        unfold imF at hmm
        rw [Bool.and_eq_true, decide_eq_true_iff, decide_eq_true_iff] at hmm
        rw [if_neg (by omega), show actC n (nI t) (nI 16) k S6 = actC n (nI t) (nI 16) (nI 0) S6 by unfold actC; simp (disch := omega) only [y_lt, y_nlt, y_le, y_nle, y_ne, y_eq, y_n0, y_00, y_l0, y_0l, y_le0, y_m1, y_m1', y_ml, y_m0, y_0m, y_mm, y_lem, y_mle, ↓reduceIte, if_true, if_false]]
        rcases g7 with ⟨w, _⟩ | ⟨e, l, w1, w2, w3, w4, w5, w6⟩
        · exact absurd w hmm.1
        · rcases w6 with ⟨u1, ⟨o, u2, u3⟩, u4⟩ | ⟨u1, _⟩
          · have u5 := v9 hmm.1 u1
            exact a_16 n hn e2 hW2 hR2 hP2 hWr2 hq1' hq3 (show t < x.2.1 4 by omega) ht22 (by rw [hi2]; exact u2) ((st2_ne (Or.inr (by decide))).trans u3) (by rw [mS_ne (by omega), u5.1, u3])
          · rw [hmm.2] at u1
            exact absurd u1 (m1_n e (by have := w2.1; omega))
      · refine hpa ?_
        have hmm := him (Or.inr rfl)
        unfold imF at hmm
        rw [Bool.and_eq_true, decide_eq_true_iff, decide_eq_true_iff] at hmm
        rw [if_neg (by omega), show actC n (nI t) (nI 17) k S6 = actC n (nI t) (nI 17) (nI 0) S6 by unfold actC; simp (disch := omega) only [y_lt, y_nlt, y_le, y_nle, y_ne, y_eq, y_n0, y_00, y_l0, y_0l, y_le0, y_m1, y_m1', y_ml, y_m0, y_0m, y_mm, y_lem, y_mle, ↓reduceIte, if_true, if_false]]
        rcases g7 with ⟨w, _⟩ | ⟨e, l, w1, w2, w3, w4, w5, w6⟩
        · exact absurd w hmm.1
        · rcases w6 with ⟨u1, ⟨o, u2, u3⟩, u4⟩ | ⟨u1, _⟩
          · have u5 := v9 hmm.1 u1
            exact a_17 n hn e2 hW2 hR2 hP2 hWr2 hq1' hq3 (show t < x.2.1 4 by omega) ht22 (by rw [hi2, show (st x 4 t 1 (nI (plr + sz 17))).2.2.1 4 t 4 = x.2.2.1 4 t 4 from st2_ne (Or.inr (by decide)), show (st x 4 t 1 (nI (plr + sz 17))).2.2.1 4 t 5 = x.2.2.1 4 t 5 from st2_ne (Or.inr (by decide))]; exact u4) (by rw [mS_ne (by omega), u5.2.1]; exact (st2_ne (Or.inr (by decide))).symm) (by rw [mS_ne (by omega), u5.2.2]; exact (st2_ne (Or.inr (by decide))).symm)
          · rw [hmm.2] at u1
            exact absurd u1 (m1_n e (by have := w2.1; omega))
      · refine hpa ?_
        rw [if_neg (by omega), show actC n (nI t) (nI 18) k S6 = actC n (nI t) (nI 18) (nI 0) S6 by unfold actC; simp (disch := omega) only [y_lt, y_nlt, y_le, y_nle, y_ne, y_eq, y_n0, y_00, y_l0, y_0l, y_le0, y_m1, y_m1', y_ml, y_m0, y_0m, y_mm, y_lem, y_mle, ↓reduceIte, if_true, if_false]]
        exact a_18 n hn e2 hW2 hR2 hP2 hWr2 hq1' hq3 _ _
end JACT
