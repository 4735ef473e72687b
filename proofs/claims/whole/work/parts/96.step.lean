theorem nI_inj {a b : Nat} (h : nI a = nI b) (ha : a < 2147483648) (hb : b < 2147483648) : a = b := (nI_eq ha hb).mp h
section STEP
variable (n : Nat)
/-- the state behind an act that only touches the pile -/
theorem st_put {S : CS} {x : X} {M : MR} {t cf m0 pl en a q : Nat} {hb : Nat → Nat} (hwr : WRt x M t 0 cf hb) (h22 : M 22 0 = nI 0) (h24 : M 24 0 = nI 0) (h17 : x.1 17 0 = nI 0) (hmu : mu x < m0) (hP : PlR x M) (f1 : x.2.2.1 4 t 1 = nI pl) (f2 : x.2.2.1 4 t 2 = nI en) (hen : en ≤ 60) (hh : x.2.1 3 - hb t ≤ pl) (hfk : FrK (im x) (x.2.2.1 4 t) en) (hq : x.2.1 3 = q + tks a) (hbq : hb t ≤ q) (hsz : pl + sz a ≤ en) (hok : okC (im x) (txF (im x) (x.1 18) (x.2.2.1 4 t)) (imF (x.2.2.1 4 t)) en (pl + sz a) (x.2.1 3 - hb t + 1 - tks a)) {FC : Option (Int32 × CS)} {FR : Option (Int32 × MR)} (hCx : CR S (st x 4 t 1 (nI (pl + sz a)))) (hWF : WF (im x)) (hRel : RelI (im x) (M 0)) (hWr : Wri x M) (h : PA n (st x 4 t 1 (nI (pl + sz a))) (mS M 14 t (nI (pl + sz a))) S q FC FR) : StO n 150 x M m0 FC (fun k => bnd FR (fun _ M3 => fR_work_l15 n k M3)) := by
  have hi2 : im (st x 4 t 1 (nI (pl + sz a))) = im x := im_st0 (by decide)
  have hs := sz_b a
  have ht3 := tks_le a
  obtain ⟨⟨a1, a2, a3, a4, a5, a6, a7⟩, ⟨b1, b2⟩, c1, c2, c3⟩ := id hwr
  have hrow : ∀ i c, (st x 4 t 1 (nI (pl + sz a))).2.2.1 4 i c = if i = t ∧ c = 1 then nI (pl + sz a) else x.2.2.1 4 i c := fun i c => rfl
  rcases h with ⟨kd, nm, S', x', M', p1, p2, p3, p4, p5, p6, p7, p8, p9, p10⟩ | ⟨f, M2, p1, p2, p3, p4, p5⟩
  · rw [hi2] at p10
    obtain ⟨q1, q2, q3, q4, q5, q6, q7, q8⟩ := id p4
    obtain ⟨r1, r2, r3, r4, r5, r6⟩ := id p5
    have hMa : ∀ b, b ≠ 0 → b ≠ 10 → b ≠ 11 → b ≠ 12 → b ≠ 25 → b ≠ 26 → b ≠ 27 → b ≠ 14 → M' b = M b := fun b z0 z1 z2 z3 z4 z5 z6 z7 => by rw [r5 b z0 z1 z2 z3 z4 z5 z6, mS_o z7]
    have hfr : ∀ c, c ≠ 1 → x'.2.2.1 4 t c = x.2.2.1 4 t c := fun c hc => by rw [q6, hrow, if_neg (fun w => hc w.2)]
    have hfr1 : x'.2.2.1 4 t 1 = nI (pl + sz a) := by rw [q6, hrow, if_pos ⟨rfl, rfl⟩]
    have htx : txF (im x') (x.1 18) (x'.2.2.1 4 t) = txF (im x) (x.1 18) (x.2.2.1 4 t) := by
      rw [show txF (im x') (x.1 18) (x'.2.2.1 4 t) = txF (im x') (x.1 18) (x.2.2.1 4 t) by unfold txF; rw [hfr 0 (by omega)], txF_m p10]
    have him : imF (x'.2.2.1 4 t) = imF (x.2.2.1 4 t) := by unfold imF; rw [hfr 0 (by omega), hfr 6 (by omega)]
    have hPl : PlR x' M' := by
      refine PlR_put (x := st x 4 t 1 (nI (pl + sz a))) (M := mS M 14 t (nI (pl + sz a))) (q := q) ⟨?_, fun i hi => ?_⟩ ?_ p4 p5 (by rw [hi2]; exact p10) p6
      · rw [mS_ne (by omega)]; exact hP.1
      · rw [mS_ne (by omega), mS_ne (by omega), hi2]; exact hP.2 i hi
      · show q ≤ x.2.1 3; omega
    refine Or.inl ⟨S', x', M', 0, p1, by omega, fun k => ?_, p3, ⟨p7, p8, hPl, p9, ⟨?_, ?_, ?_⟩, Or.inr ⟨t, cf, hb, ?_⟩⟩, ?_, ?_, ?_⟩
    · show bnd FR _ = _
      rw [p2, bnd_s]; rfl
    · rw [hMa 22 (by omega) (by omega) (by omega) (by omega) (by omega) (by omega) (by omega) (by omega)]; exact h22
    · rw [hMa 24 (by omega) (by omega) (by omega) (by omega) (by omega) (by omega) (by omega) (by omega)]; exact h24
    · rw [q7 17 (by omega)]; exact h17
    · refine WRt_top hwr p10 q5 (fun i hi => ?_) (hfr 0 (by omega)) (hfr 6 (by omega)) (hfr 7 (by omega)) (q7 18 (by omega)) (q7 19 (by omega)) (fun b z1 z2 i hi => ?_) (hMa 5 (by omega) (by omega) (by omega) (by omega) (by omega) (by omega) (by omega) (by omega)) (by rw [hMa 20 (by omega) (by omega) (by omega) (by omega) (by omega) (by omega) (by omega) (by omega)]) (by rw [hMa 21 (by omega) (by omega) (by omega) (by omega) (by omega) (by omega) (by omega) (by omega)]) (by rw [q1]; omega) ?_ ?_
      · rw [q6]
        funext c
        rw [hrow, if_neg (by omega)]
      · rw [r5 b (by omega) (by omega) (by omega) (by omega) (by omega) (by omega) (by omega)]
        by_cases hb14 : b = 14
        · subst hb14; exact mS_ne2 (by omega)
        · exact mS_ne hb14
      · refine ⟨pl + sz a, en, ⟨hfr1, by rw [hfr 2 (by omega)]; exact f2, hsz, hen, by rw [q1]; omega⟩, ?_, ?_⟩
        · rw [htx, him, q1, show q + 1 - hb t = x.2.1 3 - hb t + 1 - tks a by omega]
          exact Ims_ok p10 hok
        · have := FrK_m p10 hfk
          unfold FrK at this ⊢
          rw [hfr 0 (by omega), hfr 3 (by omega), hfr 4 (by omega), hfr 5 (by omega), hfr 6 (by omega), hfr 7 (by omega)]
          exact this
      · obtain ⟨g1, g2, g3, g4, g5, g6⟩ := c2
        have ma : ∀ b, 13 ≤ b → b ≤ 19 → b ≠ 14 → M' b t = M b t := fun b z1 z2 z3 => by rw [hMa b (by omega) (by omega) (by omega) (by omega) (by omega) (by omega) (by omega) z3]
        refine ⟨by rw [ma 13 (by omega) (by omega) (by omega), hfr 0 (by omega)]; exact g1, by rw [ma 15 (by omega) (by omega) (by omega), hfr 2 (by omega)]; exact g2, by rw [ma 19 (by omega) (by omega) (by omega), hfr 6 (by omega)]; exact g3, ⟨pl + sz a, hfr1, by omega, by omega, ?_⟩, ?_, ?_⟩
        · rw [r5 14 (by omega) (by omega) (by omega) (by omega) (by omega) (by omega) (by omega), mS_eq]; rfl
        · rw [hfr 0 (by omega), hfr 2 (by omega), hMa 5 (by omega) (by omega) (by omega) (by omega) (by omega) (by omega) (by omega) (by omega)]; exact g5
        · rw [hfr 0 (by omega), hfr 6 (by omega), ma 16 (by omega) (by omega) (by omega), ma 17 (by omega) (by omega) (by omega), ma 18 (by omega) (by omega) (by omega), hfr 3 (by omega), hfr 4 (by omega), hfr 5 (by omega)]; exact g6
    · exact ⟨fun b z1 _ _ => q7 b z1, p10, q8⟩
    · exact ⟨fun i hi => by rw [r6 i hi, mS_ne (by omega)], fun b z0 zb => hMa b z0 (by omega) (by omega) (by omega) (by omega) (by omega) (by omega) (by omega)⟩
    · have hz : zc (im x') = zc (im x) ∨ zc (im x') ≤ zc (im x) := Or.inr (by
        unfold zc
        rw [p10.1.2.1]
        generalize bE (im x) = m
        induction m with
        | zero => exact Nat.le_refl _
        | succ m ih =>
          rw [cnt, cnt]
          by_cases w : bed (im x) m 6 = nI 0
          · have : (if decide (bed (im x') m 6 = nI 0) = true then 1 else 0) ≤ 1 := by split <;> omega
            simp only [w, decide_true, if_true]
            omega
          · have := p10.2.2.2 m w
            simp only [w, this, decide_false, Bool.false_eq_true, if_false]
            omega)
      have : mu x' ≤ mu x := by
        unfold mu
        rw [q7 16 (by omega), q5]
        show 3 * (1000 - (x.1 16 0).toNatClampNeg) + x.2.1 4 + 2 * zc (im x') ≤ _
        omega
      omega
  · have hFl : ∀ b, b ≠ 12 → b ≠ 14 → M2 b = M b := fun b z1 z2 => by rw [p5 b z1, mS_o z2]
    refine Or.inr ⟨f, S, st x 4 t 1 (nI (pl + sz a)), M2, 0, p1, p2, p3, by omega, fun k => ?_, hCx, by rw [hi2]; exact hWF, by rw [hi2, hFl 0 (by omega) (by omega)]; exact hRel, ?_, ?_, ⟨fun _ _ _ _ => rfl, by rw [hi2]; exact Ims_refl _, rfl⟩, ⟨fun i _ => by rw [hFl 0 (by omega) (by omega)], fun b z0 zb => hFl b (by omega) (by omega)⟩⟩
    · show bnd FR _ = _
      rw [p4, bnd_as]; rfl
    · have hF := WRt_FrS hwr
      refine ⟨hF.1, by rw [hFl 20 (by omega) (by omega)]; exact hF.2.1, fun i hi => ?_⟩
      rw [hFl 19 (by omega) (by omega), hi2, hrow, if_neg (fun w => by omega)]
      exact hF.2.2 i hi
    · exact Wri_c hWr rfl rfl rfl rfl (hFl 23 (by omega) (by omega)) (hFl 25 (by omega) (by omega)) (hFl 26 (by omega) (by omega)) (hFl 27 (by omega) (by omega))
end STEP
