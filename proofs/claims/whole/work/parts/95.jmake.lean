theorem bnd_as {α β ρ σ : Type} {F : Option (α × β)} {a : ρ} {K : ρ → β → Option σ} : bnd (bnd F fun _ M => some (a, M)) K = bnd F fun _ M => K a M := by
  cases F <;> rfl
theorem Ims_newO {B : Im} {e : Nat} : Ims B (nO B e) := ⟨⟨rfl, rfl, rfl, rfl⟩, fun _ _ _ => rfl, Nat.le_succ _, fun _ w => w⟩
theorem zc_le {B : Im} : zc B ≤ bE B := cnt_le _ _
theorem zc_newO {B : Im} {e : Nat} : zc (nO B e) = zc B := rfl
section JM
variable (n : Nat)
theorem j_make (hn : 1000 ≤ n) {S : CS} {x : X} {M : MR} {t cf e m0 : Nat} {hb : Nat → Nat} (hC : CR S x) (hW : WF (im x)) (hR : RelI (im x) (M 0)) (hP : PlR x M) (hWr : Wri x M) (h22 : M 22 0 = nI 0) (h24 : M 24 0 = nI 0) (h17 : x.1 17 0 = nI 0) (hm : WRm x M t cf hb e) (he : Cc (im x) e) (hm0 : mu x < m0) : StO n 150 x M m0 (f3_make n (nI e) S) (fun k => RW n e k M) := by
  have hB := hW.1
  have heB := he.1
  obtain ⟨pl, en, p1, p2, p3, hA⟩ := WRm_at hm h24
  have hx23 : ∃ s, M 23 0 = nI s := by
    obtain ⟨s, w, _, _, _, h, _⟩ := hWr
    exact ⟨s, h⟩
  unfold f3_make f0_hasBrokenStart
  rw [x_broken n hC hW 150 e n 0 (by omega) (by omega) (by omega) heB he.2, bnd_s]
  by_cases hbr : brkB (im x) 151 e = true
  · rw [if_pos hbr, if_neg n1_0]
    refine Or.inr ⟨6, S, x, M, 0, by omega, by omega, rfl, by omega, fun k => ?_, hC, hW, hR, WRm_FrS hm, hWr, FXw_refl x, FMw_refl M⟩
    show RW n e (k + 0) M = _
    unfold RW fR_make
    rw [r_mk_o n hW hR 150 e n (-1) (by omega) (by omega) heB he.2]
    unfold mkR
    rw [if_pos hbr, bnd_as, bnd_as, Nat.add_zero]
  · have hbr' : brkB (im x) 151 e = false := by
      cases h : brkB (im x) 151 e
      · rfl
      · exact absurd h hbr
    have hz := @zc_le (im x)
    obtain ⟨v, S', x', M', j, r1, r2, r3, r4, r5, ⟨r6, r61, r62, r63⟩, ⟨r7, r71, r72, r73⟩, r8, r9, r10, r11, r12⟩ := j_begin n hn (zc (im x)) 0 n S x M rfl (by omega) (by omega) hC hW hR heB he.2 hA hx23 h22 hbr'
    have eB : f0_beginUpToStart n (nI e) S = some (orE v (-1), S') := by
      unfold f0_beginUpToStart f0_nextToStart
      rw [x_next n hC hW 150 e n 0 (-1) (by omega) (by omega) (by omega) heB he.2, bnd_s]
      exact r1
    rw [if_neg hbr, if_pos n0_0, eB, bnd_s]
    have hB' := r3.1
    have he' := Ims_Cc r5 he
    have hE' : bE (im x') = bE (im x) := r5.1.2.1
    have hm' : WRm x' M' t cf hb e := WRm_c hm r5 r6 r61 (r62 4 (by omega)) r7
    have hpile := WRm_pile hm'
    have hP' : PlR x' M' := by
      refine ⟨by rw [r7 12 (by omega) (by omega) (by omega), r61]; exact hP.1, fun i hi => ?_⟩
      rw [r61] at hi
      obtain ⟨g1, g2, g3⟩ := hP.2 i hi
      rw [r7 10 (by omega) (by omega) (by omega), r7 11 (by omega) (by omega) (by omega), r62 3 (by omega)]
      exact ⟨g1, g2, Ims_V r5 g3⟩
    have hWr' : Wri x' M' := by
      obtain ⟨s, w, w1, w2, w3, w4, w5, w6, w7, w8⟩ := hWr
      refine ⟨s, w, w1, w2, by rw [r6]; exact w3, by rw [r71]; exact w4, by rw [r6]; exact w5, by rw [r7 25 (by omega) (by omega) (by omega)]; exact w6, by rw [r61]; exact w7, fun i hi => ?_⟩
      rw [r7 26 (by omega) (by omega) (by omega), r7 27 (by omega) (by omega) (by omega), r62 2 (by omega)]
      exact w8 i hi
    have hA' : AtMk (im x') (x.1 18) (x.2.2.1 4 t) M' t en (pl - 2) e := AtMk_c hA r5 r7
    have fx' : FXw x x' := ⟨fun a _ _ _ => by rw [r6], r5, r63⟩
    have fm' : FMw M M' := ⟨r73, fun a a0 ha => r7 a a0 (by omega) (by omega)⟩
    have h17' : x'.1 17 0 = nI 0 := by rw [r6]; exact h17
    have h24' : M' 24 0 = nI 0 := by rw [r7 24 (by omega) (by omega) (by omega)]; exact h24
    obtain ⟨⟨a1, a2, a3, a4, a5, a6, a7⟩, ⟨b1, b2⟩, ⟨c1, c2, c3⟩, c4⟩ := id hm'
    have ht22 : t < 22 := by omega
    have hmu' : mu x' ≤ mu x := by
      unfold mu
      rw [r6, r61]; omega
    have p1' : x'.2.2.1 4 t 1 = nI pl := by rw [r62 4 (by omega)]; exact p1
    have m14 : M' 14 t = nI (pl - 2) := hA'.2.2.2.1
    cases v with
    | none =>
      rw [show orE none (-1) = (-1 : Int32) from rfl, if_pos rfl]
      by_cases hO : bO (im x') < 150
      · obtain ⟨S1, k1, k2⟩ := xk_addObject n hn r2 he'.1 hB'.2.1 hO
        have hp1 : (pO x' e 10).2.1 3 = x'.2.1 3 := by show uf x'.2.1 7 (x'.2.1 7 + 1) 3 = _; rw [uf_ne (by decide)]
        obtain ⟨S2, k3, k4⟩ := x_tap n hn k2 (d := 0) (q := x'.2.1 3) (kd := nI 1) (nm := nI (x'.2.1 7)) hp1 (by omega) (by omega)
        have hPX := @PutX_tap (pO x' e 10) (x'.2.1 3) (nI 1) (nI (x'.2.1 7))
        have him : im (tap (pO x' e 10) (x'.2.1 3) (nI 1) (nI (x'.2.1 7))) = nO (im x') e := by rw [im_tap]; rfl
        have hR4 : RelI (im x') (mS M' 14 t (nI (pl - 2 + 2)) 0) := by rw [mS_o (by omega)]; exact r4
        obtain ⟨M5, n1, n2, n3, n4⟩ := r_newObject n hn r3 hR4 he'.1 he'.2 hO
        have m12 : M5 12 0 = nI (x'.2.1 3) := by rw [n2 12 (by omega), mS_ne (by omega)]; exact hP'.1
        have hpl2 : pl - 2 + 2 = pl := by omega
        have key : mkT n (nI e) (-1) M' = some (0, psh M5 (x'.2.1 3) (nI 1) (nI (bO (im x')))) := by
          unfold mkT
          rw [fR_make_l7, if_pos m1_lt, if_pos m1_lt, rd_at (by omega) (by decide), r4.1.2.2.1, if_neg (fun w => by rw [nI_eq (by omega) (by omega)] at w; omega), gf_e a2, pk_sub (by omega), Nat.add_sub_cancel, rd_at ht22 (by decide), m14, nI_add, wr_at ht22 (by decide), n1, bnd_s, r_push n m12 (by omega) bo_1, bnd_s]
        have hs2 : Ims (im x') (im (tap (pO x' e 10) (x'.2.1 3) (nI 1) (nI (x'.2.1 7)))) := by rw [him]; exact Ims_newO
        have hPR : PutR M5 (psh M5 (x'.2.1 3) (nI 1) (nI (bO (im x')))) (x'.2.1 3) (nI 1) (nI (bO (im x'))) := PutR_psh
        have hPl : PlR (tap (pO x' e 10) (x'.2.1 3) (nI 1) (nI (x'.2.1 7))) (psh M5 (x'.2.1 3) (nI 1) (nI (bO (im x')))) := by
          refine PlR_put (x := x') (M := M5) (q := x'.2.1 3) (kd := nI 1) (nm := nI (bO (im x'))) ?_ (Nat.le_refl _) ?_ hPR hs2 ?_
          · refine ⟨m12, fun i hi => ?_⟩
            rw [n2 10 (by omega), n2 11 (by omega), mS_ne (by omega), mS_ne (by omega)]
            exact hP'.2 i hi
          · exact hPX
          · rw [him]; exact Or.inr ⟨rfl, bO (im x'), Nat.lt_succ_self _, rfl⟩
        have hM0 : psh M5 (x'.2.1 3) (nI 1) (nI (bO (im x'))) 0 = M5 0 := by unfold psh; rw [mS_o (by omega), mS_o (by omega), mS_o (by omega)]
        have hMa : ∀ a, a ≠ 0 → a ≠ 10 → a ≠ 11 → a ≠ 12 → psh M5 (x'.2.1 3) (nI 1) (nI (bO (im x'))) a = mS M' 14 t (nI (pl - 2 + 2)) a := fun a z0 z1 z2 z3 => by unfold psh; rw [mS_o z3, mS_o z2, mS_o z1, n2 a z0]
        have fr4 : (tap (pO x' e 10) (x'.2.1 3) (nI 1) (nI (x'.2.1 7))).2.2.1 4 = x'.2.2.1 4 := hPX.2.2.2.2.2.1
        have r4' : (tap (pO x' e 10) (x'.2.1 3) (nI 1) (nI (x'.2.1 7))).2.1 4 = x'.2.1 4 := hPX.2.2.2.2.1
        have g1 : (tap (pO x' e 10) (x'.2.1 3) (nI 1) (nI (x'.2.1 7))).1 = x'.1 := rfl
        refine Or.inl ⟨S2, tap (pO x' e 10) (x'.2.1 3) (nI 1) (nI (x'.2.1 7)), psh M5 (x'.2.1 3) (nI 1) (nI (bO (im x'))), j, ?_, by omega, fun k => ?_, k4, ⟨by rw [him]; exact WF_newO r3 he'.1 he'.2 hO, by rw [him, hM0]; exact n4, hPl, ?_, ⟨?_, ?_, h17'⟩, Or.inr ⟨t, cf, hb, ?_⟩⟩, ?_, ?_, ?_⟩
        · rw [k1, bnd_s, if_neg (fun w => m1_n (x'.2.1 7) (Nat.lt_trans hO (by decide)) w.symm), k3, bnd_s]
        · refine (r12 k).trans ?_
          rw [show orE none (-1) = (-1 : Int32) from rfl, key, bnd_s, bnd_s]
        · refine Wri_c hWr' rfl rfl ?_ ?_ ?_ ?_ ?_ ?_
          · unfold tap; rw [tpx_rn (by decide)]; show uf (uf x'.2.1 7 (x'.2.1 7 + 1)) 3 (x'.2.1 3) 2 = _; rw [uf_ne (by decide), uf_ne (by decide)]
          · unfold tap; rw [tpx_cn (by decide)]; rfl
          · rw [hMa 23 (by omega) (by omega) (by omega) (by omega), mS_o (by omega)]
          · rw [hMa 25 (by omega) (by omega) (by omega) (by omega), mS_o (by omega)]
          · rw [hMa 26 (by omega) (by omega) (by omega) (by omega), mS_o (by omega)]
          · rw [hMa 27 (by omega) (by omega) (by omega) (by omega), mS_o (by omega)]
        · rw [hMa 22 (by omega) (by omega) (by omega) (by omega), mS_ne (by omega)]; exact r72
        · rw [hMa 24 (by omega) (by omega) (by omega) (by omega), mS_ne (by omega)]; exact h24'
        · have hp3 : (tap (pO x' e 10) (x'.2.1 3) (nI 1) (nI (x'.2.1 7))).2.1 3 = x'.2.1 3 + 1 := hPX.1
          refine ⟨⟨by rw [r4']; exact a1, ?_, a3, a4, by rw [g1]; exact a5, ?_, fun i hi => by rw [fr4]; exact a7 i hi⟩, ⟨b1, by rw [hp3]; omega⟩, ?_, ?_, fun i hi => ?_⟩
          · rw [hMa 20 (by omega) (by omega) (by omega) (by omega), mS_ne (by omega)]; exact a2
          · rw [hMa 21 (by omega) (by omega) (by omega) (by omega), mS_ne (by omega)]; exact a6
          · rw [hp3, fr4, g1, show x'.2.1 3 + 1 - hb t = x'.2.1 3 - hb t + 1 by omega]; exact FrOk_m hs2 c1
          · rw [fr4, g1]
            obtain ⟨f1, f2, f3, f4, f5, f6⟩ := c2
            refine ⟨?_, ?_, ?_, ⟨pl, p1', by omega, p3, ?_⟩, ?_, ?_⟩
            · rw [hMa 13 (by omega) (by omega) (by omega) (by omega), mS_ne (by omega)]; exact f1
            · rw [hMa 15 (by omega) (by omega) (by omega) (by omega), mS_ne (by omega)]; exact f2
            · rw [hMa 19 (by omega) (by omega) (by omega) (by omega), mS_ne (by omega)]; exact f3
            · rw [hMa 14 (by omega) (by omega) (by omega) (by omega), mS_eq, hpl2]; rfl
            · rw [hMa 5 (by omega) (by omega) (by omega) (by omega), mS_o (by omega)]; exact f5
            · rw [hMa 16 (by omega) (by omega) (by omega) (by omega), hMa 17 (by omega) (by omega) (by omega) (by omega), hMa 18 (by omega) (by omega) (by omega) (by omega), mS_ne (by omega), mS_ne (by omega), mS_ne (by omega)]; exact f6
          · rw [fr4, g1]
            refine ⟨(c4 i hi).1, bel_c (c4 i hi).2 hs2 ?_ (fun a z1 z2 => ?_)⟩
            · rw [hMa 5 (by omega) (by omega) (by omega) (by omega), mS_o (by omega)]
            · rw [hMa a (by omega) (by omega) (by omega) (by omega)]
              by_cases ha : a = 14
              · subst ha; exact mS_ne2 (by omega)
              · exact mS_ne ha
        · exact FXw_trans fx' ⟨fun _ _ _ _ => rfl, hs2, rfl⟩
        · refine FMw_trans fm' ⟨fun i hi => ?_, fun a z0 za => ?_⟩
          · rw [hM0, n3 i hi, mS_ne (by omega)]
          · rw [hMa a z0 (by omega) (by omega) (by omega), mS_o (by omega)]
        · have : mu (tap (pO x' e 10) (x'.2.1 3) (nI 1) (nI (x'.2.1 7))) = mu x' := by
            unfold mu
            rw [g1, r4', him, zc_newO]
          omega
      · have hO' : bO (im x') = 150 := by omega
        rw [xk_addObjectF n hn r2 he'.1 hB'.2.1 hO', bnd_s, if_pos rfl]
        refine Or.inr ⟨8, S', x', M', j, by omega, by omega, rfl, by omega, fun k => ?_, r2, r3, r4, WRm_FrS hm', hWr', fx', fm'⟩
        refine (r12 k).trans ?_
        unfold mkT
        rw [show orE none (-1) = (-1 : Int32) from rfl, fR_make_l7, if_pos m1_lt, if_pos m1_lt, rd_at (by omega) (by decide), r4.1.2.2.1, if_pos (by rw [hO']), bnd_as, bnd_as]
    | some s =>
      rw [show orE (some s) (-1) = nI s from rfl, if_neg (fun w => m1_n s (by
        obtain ⟨s1, _⟩ := nxt_some r3 150 e s (by omega) he'.1 he'.2 r8.symm
        omega) w.symm)]
      obtain ⟨s1, s2, s3, s4⟩ := nxt_some r3 150 e s (by omega) he'.1 he'.2 r8.symm
      have hsB : s < bE (im x') := by omega
      obtain ⟨nf, nm, l, hcl⟩ := wf_cls r3 hsB s2
      have c7 : bed (im x') s 7 = nI (mpl (ett (im x') s) nf nm - 1) := hcl.1.2.2.2.2.1
      have c8 : bed (im x') s 8 = nI l := hcl.1.2.2.2.2.2.1
      have hl60 : l ≤ 60 := hcl.1.2.2.2.2.2.2.2
      have hmp := hcl.1.2.2.2.2.2.2.1
      have hmg := mpl_ge (ett (im x') s) nf nm
      have hst : mpl (ett (im x') s) nf nm - 1 < l := by
        have := r9 s rfl
        rw [c7, c8] at this
        exact Nat.lt_of_not_le (fun w => nI_nlt w (by omega) this)
      have hok : okC (im x') (ett (im x') s) false l (mpl (ett (im x') s) nf nm - 1) 0 := by
        rcases hcl.2.2.1 with w | w
        · omega
        · exact w
      have hT := RE_tx (RE_of r4) hsB s2 hcl
      rw [x_deep n r2 a1 a5 (by omega) (by omega), bnd_s]
      have eS : mkT n (nI e) (nI s) M' = if t + 1 - cf < 20 then bnd (fR_start_b31 n (nI s) (nI (mpl (ett (im x') s) nf nm - 1)) M') (fun _ M8 => some (0, M8)) else bnd (fR_fail n (nI 7) M') (fun _ M' => some (0, M')) := by
        unfold mkT
        rw [fR_make_l7, if_pos m1_lt, if_neg (nI_pos (by omega))]
        unfold fR_start
        rw [r_startPlace n hn (show s < 150 by omega) hT (cls_text hcl), bnd_s, RE_len n r3 (RE_of r4) hsB s2 hcl, bnd_s, if_neg (nI_ge hst (by omega)), gf_e a6]
        by_cases hd : t + 1 - cf < 20
        · rw [if_pos hd, if_neg (fun w => by rw [nI_eq (by omega) (by omega)] at w; omega)]
        · rw [if_neg hd, if_pos (show nI (t + 1 - cf) = nI 20 by rw [show t + 1 - cf = 20 by omega]), bnd_as]
      by_cases hd : t + 1 - cf < 20
      · rw [if_pos hd] at eS
        rw [if_pos hd, if_pos n0_0]
        generalize hfrom : mpl (ett (im x') s) nf nm - 1 = from_ at *
        -- the class
        have hC1 : CR (tset S' 6 s 6 (nI 1)) (st x' 6 s 6 (nI 1)) := CR_st (by decide) (show 6 < 104 by decide) r2
        have hi1 : im (st x' 6 s 6 (nI 1)) = sE (im x') s 6 (nI 1) := im_st6
        have hs1 : Ims (im x') (im (st x' 6 s 6 (nI 1))) := by rw [hi1]; exact Ims_state (by decide)
        have hW1 : WF (im (st x' 6 s 6 (nI 1))) := by rw [hi1]; exact WF_state r3 hsB (Or.inl rfl) s4
        have g7 : bed (im (st x' 6 s 6 (nI 1))) s 7 = nI from_ := by rw [hs1.2.1 s 7 (by decide)]; exact c7
        have g8 : bed (im (st x' 6 s 6 (nI 1))) s 8 = nI l := by rw [hs1.2.1 s 8 (by decide)]; exact c8
        rw [b_set n (by decide) (r2.2.1 6 (by decide)) hsB (show 6 < 104 by decide), xg6 n hC1 hsB (by omega), xg6 n hC1 hsB (by omega), g7, g8]
        obtain ⟨S3, o1, o2⟩ := x_openFrame n hn hC1 (f := t + 1) a1 (by omega) (r := nI s) (a := nI from_) (b := nI l)
        rw [o1, bnd_s]
        have hr4 : t + 1 < (opf (st x' 6 s 6 (nI 1)) (t + 1) (nI s) (nI from_) (nI l)).2.1 4 := by show t + 1 < uf x'.2.1 4 (x'.2.1 4 + 1) 4; rw [uf_eq, a1]; omega
        have c6' := CR_st (r := t + 1) (w := nI s) (show 4 < 8 by decide) (show 6 < 8 by decide) o2
        have c7' := CR_st (r := t + 1) (w := nI e) (show 4 < 8 by decide) (show 7 < 8 by decide) c6'
        rw [b_set n (by decide) (o2.2.1 4 (by decide)) hr4 (show 6 < 8 by decide), b_set n (by decide) (c6'.2.1 4 (by decide)) hr4 (show 7 < 8 by decide)]
        have hrow : ∀ i c, (st (st (opf (st x' 6 s 6 (nI 1)) (t + 1) (nI s) (nI from_) (nI l)) 4 (t + 1) 6 (nI s)) 4 (t + 1) 7 (nI e)).2.2.1 4 i c = if i = t + 1 then (if c = 7 then nI e else if c = 6 then nI s else if c = 2 then nI l else if c = 1 then nI from_ else if c = 0 then nI s else 0) else x'.2.2.1 4 i c := by
          intro i c
          show st2 (st2 ((opf (st x' 6 s 6 (nI 1)) (t + 1) (nI s) (nI from_) (nI l)).2.2.1 4) (t + 1) 6 (nI s)) (t + 1) 7 (nI e) i c = _
          unfold st2
          rw [opf_c (x := st x' 6 s 6 (nI 1)) a1]
          by_cases hi : i = t + 1
          · by_cases c7 : c = 7
            · simp [hi, c7]
            · by_cases c6 : c = 6
              · simp [hi, c6]
              · simp [hi, c7, c6]
          · simp [hi]; rfl
        have y1 : (st (st (opf (st x' 6 s 6 (nI 1)) (t + 1) (nI s) (nI from_) (nI l)) 4 (t + 1) 6 (nI s)) 4 (t + 1) 7 (nI e)).2.1 4 = t + 1 + 1 := by show uf x'.2.1 4 (x'.2.1 4 + 1) 4 = _; rw [uf_eq, a1]
        have y3 : (st (st (opf (st x' 6 s 6 (nI 1)) (t + 1) (nI s) (nI from_) (nI l)) 4 (t + 1) 6 (nI s)) 4 (t + 1) 7 (nI e)).2.1 3 = x'.2.1 3 := by show uf x'.2.1 4 (x'.2.1 4 + 1) 3 = _; rw [uf_ne (by decide)]
        have y33 : (st (st (opf (st x' 6 s 6 (nI 1)) (t + 1) (nI s) (nI from_) (nI l)) 4 (t + 1) 6 (nI s)) 4 (t + 1) 7 (nI e)).2.2.1 3 = x'.2.2.1 3 := rfl
        have y0 : (st (st (opf (st x' 6 s 6 (nI 1)) (t + 1) (nI s) (nI from_) (nI l)) 4 (t + 1) 6 (nI s)) 4 (t + 1) 7 (nI e)).1 = x'.1 := rfl
        have y2 : (st (st (opf (st x' 6 s 6 (nI 1)) (t + 1) (nI s) (nI from_) (nI l)) 4 (t + 1) 6 (nI s)) 4 (t + 1) 7 (nI e)).2.1 2 = x'.2.1 2 := by show uf x'.2.1 4 (x'.2.1 4 + 1) 2 = _; rw [uf_ne (by decide)]
        have y22 : (st (st (opf (st x' 6 s 6 (nI 1)) (t + 1) (nI s) (nI from_) (nI l)) 4 (t + 1) 6 (nI s)) 4 (t + 1) 7 (nI e)).2.2.1 2 = x'.2.2.1 2 := rfl
        have y5 : (st (st (opf (st x' 6 s 6 (nI 1)) (t + 1) (nI s) (nI from_) (nI l)) 4 (t + 1) 6 (nI s)) 4 (t + 1) 7 (nI e)).2.2.2 = x'.2.2.2 := rfl
        have yi : im (st (st (opf (st x' 6 s 6 (nI 1)) (t + 1) (nI s) (nI from_) (nI l)) 4 (t + 1) 6 (nI s)) 4 (t + 1) 7 (nI e)) = sE (im x') s 6 (nI 1) := by
          rw [im_st0 (by decide), im_st0 (by decide)]
          unfold opf
          rw [im_st0 (by decide), im_st0 (by decide), im_st0 (by decide), im_st0 (by decide), im_ad0 (by decide)]
          exact hi1
        generalize (st (st (opf (st x' 6 s 6 (nI 1)) (t + 1) (nI s) (nI from_) (nI l)) 4 (t + 1) 6 (nI s)) 4 (t + 1) 7 (nI e)) = x2 at c7' hrow y1 y3 y33 y0 y2 y22 y5 yi
        rw [hi1] at hs1 hW1
        have w0 : x2.2.2.1 4 (t + 1) 0 = nI s := by rw [hrow, if_pos rfl]; rfl
        have w1 : x2.2.2.1 4 (t + 1) 1 = nI from_ := by rw [hrow, if_pos rfl]; rfl
        have w2 : x2.2.2.1 4 (t + 1) 2 = nI l := by rw [hrow, if_pos rfl]; rfl
        have w6 : x2.2.2.1 4 (t + 1) 6 = nI s := by rw [hrow, if_pos rfl]; rfl
        have w7 : x2.2.2.1 4 (t + 1) 7 = nI e := by rw [hrow, if_pos rfl]; rfl
        have ns : ¬ nI s = -1 := fun w => m1_n s (by omega) w.symm
        -- the reference
        let N1 : MR := mS (mS (mS M' 0 (7220 + 70 * s + 5) (nI 1)) 22 0 (nI 1)) 22 0 (nI 0)
        have hN1 : ∀ a, a ≠ 0 → a ≠ 22 → N1 a = M' a := fun a z0 z1 => by show mS (mS (mS M' 0 _ _) 22 0 _) 22 0 _ a = _; rw [mS_o z1, mS_o z1, mS_o z0]
        have hN0 : N1 0 = uf (M' 0) (7220 + 70 * s + 5) (nI 1) := by show mS (mS (mS M' 0 _ _) 22 0 _) 22 0 _ 0 = _; rw [mS_o (by omega), mS_o (by omega)]; rfl
        have hN22 : N1 22 0 = nI 0 := mS_eq
        have hlen : ∀ N : MR, N 0 = uf (M' 0) (7220 + 70 * s + 5) (nI 1) → fR_lengthOf n (nI s) N = some (nI l, N) := fun N hN => by
          rw [r_lengthOf n _ (show s < 150 by omega), hN, uf_ne (by omega), show 7227 + 70 * s = 7220 + 70 * s + 7 by omega, ri_e7 r4 hsB s2, c8]
        have key : fR_start_b31 n (nI s) (nI from_) M' = some (0, frM N1 (t + 1) (nI s) (nI from_) (nI l) (-1) (nI s) (t + 1 - cf + 1)) := by
          unfold fR_start_b31
          rw [r_editAt, bnd_s, nI_add, wr_at (by omega) (by decide), zt_1, pf_e, hlen _ (by rw [mS_o (by omega)]; rfl), bnd_s, if_neg (nI_ge hst (by omega)), zt_0, pf_e]
          show bnd (fR_lengthOf n (nI s) N1) _ = _
          rw [hlen N1 hN0, bnd_s, r_frame n (f := t + 1) (k := t + 1 - cf) (by rw [hN1 20 (by omega) (by omega)]; exact a2) (by omega) (by rw [hN1 21 (by omega) (by omega)]; exact a6) (by omega), bnd_s, if_neg (nI_pos (by omega))]
        have hM0 : frM N1 (t + 1) (nI s) (nI from_) (nI l) (-1) (nI s) (t + 1 - cf + 1) 0 = uf (M' 0) (7220 + 70 * s + 5) (nI 1) := by rw [frM_o (by omega), hN0]
        have hMo : ∀ a, a ≠ 0 → a ≠ 22 → (a < 13 ∨ 22 ≤ a) → frM N1 (t + 1) (nI s) (nI from_) (nI l) (-1) (nI s) (t + 1 - cf + 1) a = M' a := fun a z0 z1 z2 => by rw [frM_o z2, hN1 a z0 z1]
        have hMi : ∀ a, 13 ≤ a → a ≤ 19 → ∀ i, i < t + 1 → frM N1 (t + 1) (nI s) (nI from_) (nI l) (-1) (nI s) (t + 1 - cf + 1) a i = M' a i := fun a z1 z2 i hi => by rw [frM_i z2 (by omega), hN1 a (by omega) (by omega)]
        have hzc := zc_set hsB s3
        have e0 : txF (im x2) (x'.1 18) (x2.2.2.1 4 (t + 1)) = ett (im x') s := by
          unfold txF
          rw [w0, if_neg ns, nI_clamp (by omega), yi, Ims_ett hs1]
        have e2 : imF (x2.2.2.1 4 (t + 1)) = false := by
          unfold imF
          rw [w0, w6, decide_eq_true ns, decide_eq_false ns]
          rfl
        have hsI : Ims (im x') (im x2) := by rw [yi]; exact hs1
        refine Or.inl ⟨_, x2, _, j, rfl, by omega, fun k => ?_, c7', ⟨by rw [yi]; exact hW1, by rw [yi, hM0]; exact RelI_state r4 r3.1 hsB, ?_, ?_, ⟨?_, ?_, by rw [y0]; exact h17'⟩, Or.inr ⟨t + 1, cf, uf hb (t + 1) (x'.2.1 3), ?_⟩⟩, FXw_trans fx' ⟨fun _ _ _ _ => by rw [y0], hsI, y5⟩, FMw_trans fm' ⟨fun i hi => by rw [hM0, uf_ne (by omega)], fun a z0 za => hMo a z0 (by omega) (by omega)⟩, ?_⟩
        · refine (r12 k).trans ?_
          rw [show orE (some s) (-1) = nI s from rfl, eS, key, bnd_s, bnd_s, bnd_s]
        · refine ⟨by rw [hMo 12 (by omega) (by omega) (by omega), y3]; exact hP'.1, fun i hi => ?_⟩
          rw [y3] at hi
          obtain ⟨g1, g2, g3⟩ := hP'.2 i hi
          rw [hMo 10 (by omega) (by omega) (by omega), hMo 11 (by omega) (by omega) (by omega), y33]
          exact ⟨g1, g2, Ims_V hsI g3⟩
        · exact Wri_c hWr' (by rw [y0]) (by rw [y0]) y2 y22 (hMo 23 (by omega) (by omega) (by omega)) (hMo 25 (by omega) (by omega) (by omega)) (hMo 26 (by omega) (by omega) (by omega)) (hMo 27 (by omega) (by omega) (by omega))
        · rw [frM_o (by omega)]; exact hN22
        · rw [hMo 24 (by omega) (by omega) (by omega)]; exact h24'
        · refine WRt_push (x := x') (M := M') (f := t + 1) (q := x'.2.1 3) rfl ⟨a1, a3, a5, a7⟩ (by omega) b1 b2 y1 (fun i hi => funext fun c => by rw [hrow, if_neg (by omega)]) y3 ⟨by rw [y0], by rw [y0]⟩ frM_20 (by rw [frM_21]; congr 1; omega) (by rw [w0]; exact ns) ?_ ?_ ?_ (fun i hi => ⟨(c4 i hi).1, bel_c (c4 i hi).2 hsI (hMo 5 (by omega) (by omega) (by omega)) (fun a z1 z2 => hMi a z1 z2 i (by omega))⟩)
          · refine ⟨from_, l, ⟨w1, w2, by omega, hl60, by omega⟩, by rw [e0, e2]; exact Ims_ok hsI hok, Or.inr ⟨s, l, w0, Ims_Cc hsI ⟨hsB, s2⟩, by rw [hsI.2.1 s 8 (by decide)]; exact c8, Nat.le_refl _, hl60, Or.inr ⟨w6, ?_, e, w7, Ims_Cc hsI he'⟩⟩⟩
            rw [yi, show bed (sE (im x') s 6 (nI 1)) s 6 = nI 1 from st2_eq]; decide
          · refine ⟨by rw [frM_13, w0], by rw [frM_15, w2], by rw [frM_19, w6], ⟨from_, w1, by omega, by omega, by rw [frM_14]; rfl⟩, fun w => absurd (w0.symm.trans w) ns, fun _ w => absurd (w6.symm.trans w) ns⟩
          · refine ⟨FrOk_m hsI c1, Or.inr ⟨by rw [w6]; exact ns, FrR_c c2 (hMo 5 (by omega) (by omega) (by omega)) (fun a z1 z2 => hMi a z1 z2 t (by omega)), by rw [w7]; exact MkAt_m hsI c3⟩⟩
        · have : mu x2 + 1 ≤ mu x' := by
            unfold mu
            rw [y0, y1, yi, a1]; omega
          omega
      · rw [if_neg hd] at eS
        rw [if_neg hd, if_neg n1_0]
        refine Or.inr ⟨7, S', x', M', j, by omega, by omega, rfl, by omega, fun k => ?_, r2, r3, r4, WRm_FrS hm', hWr', fx', fm'⟩
        refine (r12 k).trans ?_
        rw [show orE (some s) (-1) = nI s from rfl, eS, bnd_as, bnd_as]
end JM
