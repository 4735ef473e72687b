def PushX (x x' : X) (f q : Nat) : Prop := x'.2.1 4 = f + 1 ∧ (∀ i, i < f → x'.2.2.1 4 i = x.2.2.1 4 i) ∧ x'.2.1 3 = q ∧ x'.2.2.1 3 = x.2.2.1 3 ∧ x'.1 = x.1 ∧ x'.2.1 2 = x.2.1 2 ∧ x'.2.2.1 2 = x.2.2.1 2 ∧ x'.2.2.2 = x.2.2.2
def PushM (M M' : MR) (f q cf : Nat) : Prop := M' 20 0 = nI (f + 1) ∧ M' 21 0 = nI (f + 1 - cf) ∧ M' 12 0 = nI q ∧ (∀ a, 13 ≤ a → a ≤ 19 → ∀ i, i < f → M' a i = M a i) ∧ ∀ a, a ≠ 0 → a < 12 ∨ 23 ≤ a → M' a = M a
theorem ro_e {x : X} {k R : Nat} : (ro x k R).2.1 k = R := by show uf x.2.1 k R k = R; exact uf_eq
section CALL2
variable {S : CS} {x : X} {M : MR} {q : Nat} (n : Nat)
theorem x_deep (hC : CR S x) {f cf : Nat} (hf : x.2.1 4 = f) (hcf : x.1 19 0 = nI cf) (h1 : cf ≤ f) (h2 : f ≤ 21) : f3_isDeep n S = some (if f - cf < 20 then nI 0 else nI 1, S) := by
  unfold f3_isDeep
  rw [xz4 n hC, hf, xcg hC (by decide), hcf, pk_sub h1]
  by_cases h : f - cf < 20
  · rw [if_pos (nI_lt h (by omega)), zt_0, if_pos h]
  · rw [if_neg (nI_nlt (by omega) (by omega)), zt_1, if_neg h]
theorem frM_o {f k : Nat} {e a b o s : Int32} {j : Nat} (h : j < 13 ∨ 22 ≤ j) : frM M f e a b o s k j = M j := by
  unfold frM
  rw [mS_o (by omega), mS_o (by omega), mS_o (by omega), mS_o (by omega), mS_o (by omega), mS_o (by omega), mS_o (by omega), mS_o (by omega), mS_o (by omega)]
theorem frM_i {f k : Nat} {e a b o s : Int32} {j i : Nat} (h : j ≤ 19) (hi : i ≠ f) : frM M f e a b o s k j i = M j i := by
  unfold frM
  rw [mS_ne (by omega), mS_ne (by omega)]
  have key : ∀ (N : MR) (a : Nat) (v : Int32), mS N a f v j i = N j i := fun N a v => by
    by_cases hj : j = a
    · subst hj; exact mS_ne2 hi
    · exact mS_ne hj
  rw [key, key, key, key, key, key, key]
theorem frM_13 {f k : Nat} {e a b o s : Int32} : frM M f e a b o s k 13 f = e := by
  unfold frM
  rw [mS_ne (by omega), mS_ne (by omega), mS_ne (by omega), mS_ne (by omega), mS_ne (by omega), mS_ne (by omega), mS_ne (by omega), mS_ne (by omega), mS_eq]
theorem frM_14 {f k : Nat} {e a b o s : Int32} : frM M f e a b o s k 14 f = a := by
  unfold frM
  rw [mS_ne (by omega), mS_ne (by omega), mS_ne (by omega), mS_ne (by omega), mS_ne (by omega), mS_ne (by omega), mS_ne (by omega), mS_eq]
theorem frM_15 {f k : Nat} {e a b o s : Int32} : frM M f e a b o s k 15 f = b := by
  unfold frM
  rw [mS_ne (by omega), mS_ne (by omega), mS_ne (by omega), mS_ne (by omega), mS_ne (by omega), mS_ne (by omega), mS_eq]
theorem frM_16 {f k : Nat} {e a b o s : Int32} : frM M f e a b o s k 16 f = o := by
  unfold frM
  rw [mS_ne (by omega), mS_ne (by omega), mS_ne (by omega), mS_ne (by omega), mS_ne (by omega), mS_eq]
theorem frM_19 {f k : Nat} {e a b o s : Int32} : frM M f e a b o s k 19 f = s := by
  unfold frM
  rw [mS_ne (by omega), mS_ne (by omega), mS_ne (by omega), mS_ne (by omega), mS_eq]
theorem frM_20 {f k : Nat} {e a b o s : Int32} : frM M f e a b o s k 20 0 = nI (f + 1) := by
  unfold frM
  rw [mS_ne (by omega), mS_eq]
theorem frM_21 {f k : Nat} {e a b o s : Int32} : frM M f e a b o s k 21 0 = nI k := mS_eq
def CallOk (x : X) (M : MR) (f q cf : Nat) (FC : Option (Int32 × CS)) (FR : Option (Int32 × MR)) : Prop := ∃ S' x' M', FC = some (nI 0, S') ∧ FR = some (0, M') ∧ CR S' x' ∧ PushX x x' f q ∧ PushM M M' f q cf ∧ M' 22 = M 22 ∧ FrOk (im x) (x.1 18) (x'.2.2.1 4 f) 0 ∧ FrR (x.1 18) (x'.2.2.1 4 f) M' f 0 ∧ ¬ x'.2.2.1 4 f 0 = -1 ∧ x'.2.2.1 4 f 6 = -1 ∧ im x' = im x ∧ M' 0 = M 0 ∧ f - cf < 20
theorem j_method (hn : 1000 ≤ n) (hC : CR S x) (hW : WF (im x)) (hR : RelI (im x) (M 0)) (hP : PlR x M) (hp : x.2.1 3 = q + 2) (hq : q < 1241) {f cf m o : Nat} (hf : x.2.1 4 = f) (h20 : M 20 0 = nI f) (hcf : x.1 19 0 = nI cf) (hc1 : cf ≤ 1) (hcf2 : cf ≤ f) (hf2 : f ≤ 20 + cf) (h21 : M 21 0 = nI (f - cf)) (hm : m < 5) (hk : x.2.2.1 3 q 0 = nI 1) (hv : x.2.2.1 3 q 1 = nI o) (ho : o < bO (im x)) : CallOk x M f q cf (f3_callMethod n (nI m) S) (fR_method n (nI o) (nI m) M) ∨ ∃ fl, 1 ≤ fl ∧ fl ≤ 8 ∧ f3_callMethod n (nI m) S = some (nI fl, S) ∧ fR_method n (nI o) (nI m) M = bnd (fR_fail n (nI fl) M) (fun _ M' => some (0, M')) := by
  have hB := hW.1
  have h12 : M 12 0 = nI (q + 2) := by rw [hP.1, hp]
  obtain ⟨d1, d2, d3⟩ := hP.2 (q + 1) (by omega)
  obtain ⟨⟨c, hc, hc2⟩, _⟩ := hW.2.2.2.1 o ho
  have hcE := hc.1
  unfold f3_callMethod fR_method
  rw [x_kind n hC hp (show 1 < q + 2 by omega), bnd_s, show q + 2 - 1 - 1 = q by omega, hk, if_pos rfl, x_num n hC hp (show 1 < q + 2 by omega), bnd_s, show q + 2 - 1 - 1 = q by omega, hv, xg7 n hC ho (by omega), hc2, nI_add, xg6 n hC hcE (by omega), r_objAt, bnd_s, rd_at (by omega) (by decide), ri_o0 hR ho, hc2, r_methodWalk n hn hW hm (nI o) (RE_of hR) c n (by omega) hcE hc.2]
  unfold fR_method_b32
  rcases mth_at hW hm c hcE hc.2 with hno | ⟨p, k, nf, nm, l, m1, m2, m3, m4, m5, m6, m7⟩
  · rw [hno, if_pos rfl, if_neg (by decide)]
    exact Or.inr ⟨4, by omega, by omega, rfl, rfl⟩
  · rw [m5, if_neg (fun w => m1_n p (by omega) w.symm), if_pos (nI_pos' (by omega)), x_deep n hC hf hcf hcf2 (by omega), bnd_s, gf_e h21]
    by_cases hd : f - cf < 20
    · rw [if_pos hd, if_pos n0_0, if_neg (fun w => by rw [nI_eq (by omega) (by omega)] at w; omega), nI_add, xg6 n hC hcE (by omega), nI_add, xg6 n hC hcE (by omega), m6, m7]
      have hX := cls_text m3
      have hkn := (fnd_some m4).2.1
      have mm1 := mpl_mono (ett (im x) p) nf (show k + 1 ≤ nm by omega)
      have mg := mpl_ge (ett (im x) p) nf k
      obtain ⟨len, hl1, hl2, hl3⟩ := m3.2.1 k (by omega)
      have hl0 : bed (im x) p 8 = nI l := m3.1.2.2.2.2.2.1
      have hmn : mpl (ett (im x) p) nf nm ≤ l + 1 := m3.1.2.2.2.2.2.2.1
      have hl60 : l ≤ 60 := m3.1.2.2.2.2.2.2.2
      have e1 : mpl (ett (im x) p) nf (k + 1) = mpl (ett (im x) p) nf k + 2 + len := by rw [mpl, hl1, nI_clamp (by omega)]
      rw [hl1, nI_clamp (by omega)]
      have hT := RE_tx (RE_of hR) m1 m2 m3
      have hom := r_ownMethod n hn (show p < 150 by omega) hT hX (m := m)
      rw [m4] at hom
      have hom : fR_ownMethod n (nI p) (nI m) M = some (nI (mpl (ett (im x) p) nf k), M) := hom
      generalize mpl (ett (im x) p) nf k = mp at *
      -- the class
      obtain ⟨S1, o1, o2⟩ := x_openFrame n hn hC hf (show f < 21 by omega) (r := nI p) (a := nI (mp + 1)) (b := nI (mp + 1 + len))
      rw [o1, bnd_s]
      have hr4 : f < (opf x f (nI p) (nI (mp + 1)) (nI (mp + 1 + len))).2.1 4 := by show f < uf x.2.1 4 (x.2.1 4 + 1) 4; rw [uf_eq, hf]; omega
      have hp1 : (st (opf x f (nI p) (nI (mp + 1)) (nI (mp + 1 + len))) 4 f 3 (nI o)).2.1 3 = q + 2 := hp
      have c1 : CR (tset S1 4 f 3 (nI o)) (st (opf x f (nI p) (nI (mp + 1)) (nI (mp + 1 + len))) 4 f 3 (nI o)) := CR_st (by decide) (show 3 < 8 by decide) o2
      have c2 := CR_st (r := f) (w := x.2.2.1 3 (q + 1) 0) (show 4 < 8 by decide) (show 4 < 8 by decide) c1
      have c3 := CR_st (r := f) (w := x.2.2.1 3 (q + 1) 1) (show 4 < 8 by decide) (show 5 < 8 by decide) c2
      have hp2 : (st (st (opf x f (nI p) (nI (mp + 1)) (nI (mp + 1 + len))) 4 f 3 (nI o)) 4 f 4 (x.2.2.1 3 (q + 1) 0)).2.1 3 = q + 2 := hp
      rw [b_set n (by decide) (o2.2.1 4 (by decide)) hr4 (show 3 < 8 by decide), x_kind n c1 hp1 (show 0 < q + 2 by omega), bnd_s, show q + 2 - 1 - 0 = q + 1 by omega]
      rw [show (st (opf x f (nI p) (nI (mp + 1)) (nI (mp + 1 + len))) 4 f 3 (nI o)).2.2.1 3 = x.2.2.1 3 from rfl]
      rw [b_set n (by decide) (c1.2.1 4 (by decide)) hr4 (show 4 < 8 by decide), x_num n c2 hp2 (show 0 < q + 2 by omega), bnd_s, show q + 2 - 1 - 0 = q + 1 by omega]
      rw [show (st (st (opf x f (nI p) (nI (mp + 1)) (nI (mp + 1 + len))) 4 f 3 (nI o)) 4 f 4 (x.2.2.1 3 (q + 1) 0)).2.2.1 3 = x.2.2.1 3 from rfl]
      rw [b_set n (by decide) (c2.2.1 4 (by decide)) hr4 (show 5 < 8 by decide)]
      have c4 := CR_ro (k := 3) (R := q + 1) (by decide) (by show q + 1 ≤ x.2.1 3; omega) c3
      have c5 := CR_ro (k := 3) (R := q) (by decide) (by show q ≤ uf x.2.1 3 (q + 1) 3; rw [uf_eq]; omega) c4
      rw [b_drop n (R := q + 1) (by decide) (by have := c3.2.1 3 (by decide); rw [show (st (st (st (opf x f (nI p) (nI (mp + 1)) (nI (mp + 1 + len))) 4 f 3 (nI o)) 4 f 4 (x.2.2.1 3 (q + 1) 0)) 4 f 5 (x.2.2.1 3 (q + 1) 1)).2.1 3 = q + 1 + 1 from hp] at this; exact this), b_drop n (R := q) (by decide) (by have := c4.2.1 3 (by decide); rw [show (ro (st (st (st (opf x f (nI p) (nI (mp + 1)) (nI (mp + 1 + len))) 4 f 3 (nI o)) 4 f 4 (x.2.2.1 3 (q + 1) 0)) 4 f 5 (x.2.2.1 3 (q + 1) 1)) 3 (q + 1)).2.1 3 = q + 1 from ro_e] at this; exact this)]
      -- the reference
      have hT4 : TxR (mS M 12 0 (nI q)) p (ett (im x) p) l := fun i hi => by rw [mS_ne (by omega)]; exact hT i hi
      have k20 : mS M 12 0 (nI q) 20 0 = nI f := by rw [mS_ne (by omega)]; exact h20
      have k21 : mS M 12 0 (nI q) 21 0 = nI (f - cf) := by rw [mS_ne (by omega)]; exact h21
      rw [hom, bnd_s, gf_e h12, pk_sub (by omega), q22, pf_e, gf_e mS_eq, nI_add, rd_at (by omega) (by decide), mS_ne (by omega), d1, gf_e mS_eq, nI_add, rd_at (by omega) (by decide), mS_ne (by omega), d2, r_tx n (show p < 150 by omega) hT4 hl60 (show mp < l by omega), bnd_s, hl1, nI_add, nI_add, r_frame n k20 (show f < 22 by omega) k21 (by omega), bnd_s, if_neg (nI_pos (by omega)), gf_e frM_20, pk_sub (by omega), Nat.add_sub_cancel, wz_at (VOk_bo d3) (show f < 22 by omega) (by decide), gf_e (v := nI (f + 1)) (by rw [mS_ne (by omega)]; exact frM_20), pk_sub (by omega), Nat.add_sub_cancel, wr_at (show f < 22 by omega) (by decide)]
      have hrow : ∀ i c, (ro (ro (st (st (st (opf x f (nI p) (nI (mp + 1)) (nI (mp + 1 + len))) 4 f 3 (nI o)) 4 f 4 (x.2.2.1 3 (q + 1) 0)) 4 f 5 (x.2.2.1 3 (q + 1) 1)) 3 (q + 1)) 3 q).2.2.1 4 i c = if i = f then (if c = 5 then x.2.2.1 3 (q + 1) 1 else if c = 4 then x.2.2.1 3 (q + 1) 0 else if c = 3 then nI o else if c = 6 then -1 else if c = 2 then nI (mp + 1 + len) else if c = 1 then nI (mp + 1) else if c = 0 then nI p else 0) else x.2.2.1 4 i c := by
        intro i c
        show st2 (st2 (st2 ((opf x f (nI p) (nI (mp + 1)) (nI (mp + 1 + len))).2.2.1 4) f 3 (nI o)) f 4 (x.2.2.1 3 (q + 1) 0)) f 5 (x.2.2.1 3 (q + 1) 1) i c = _
        unfold st2
        rw [opf_c hf]
        by_cases hi : i = f
        · by_cases c5 : c = 5
          · simp [hi, c5]
          · by_cases c4 : c = 4
            · simp [hi, c4]
            · by_cases c3 : c = 3
              · simp [hi, c3]
              · simp [hi, c5, c4, c3]
        · simp [hi]
      have y1 : (ro (ro (st (st (st (opf x f (nI p) (nI (mp + 1)) (nI (mp + 1 + len))) 4 f 3 (nI o)) 4 f 4 (x.2.2.1 3 (q + 1) 0)) 4 f 5 (x.2.2.1 3 (q + 1) 1)) 3 (q + 1)) 3 q).2.1 4 = f + 1 := by
        show uf x.2.1 4 (x.2.1 4 + 1) 4 = _
        rw [uf_eq, hf]
      have y3 : (ro (ro (st (st (st (opf x f (nI p) (nI (mp + 1)) (nI (mp + 1 + len))) 4 f 3 (nI o)) 4 f 4 (x.2.2.1 3 (q + 1) 0)) 4 f 5 (x.2.2.1 3 (q + 1) 1)) 3 (q + 1)) 3 q).2.1 3 = q := ro_e
      have y33 : (ro (ro (st (st (st (opf x f (nI p) (nI (mp + 1)) (nI (mp + 1 + len))) 4 f 3 (nI o)) 4 f 4 (x.2.2.1 3 (q + 1) 0)) 4 f 5 (x.2.2.1 3 (q + 1) 1)) 3 (q + 1)) 3 q).2.2.1 3 = x.2.2.1 3 := rfl
      have y0 : (ro (ro (st (st (st (opf x f (nI p) (nI (mp + 1)) (nI (mp + 1 + len))) 4 f 3 (nI o)) 4 f 4 (x.2.2.1 3 (q + 1) 0)) 4 f 5 (x.2.2.1 3 (q + 1) 1)) 3 (q + 1)) 3 q).1 = x.1 := rfl
      have y2 : (ro (ro (st (st (st (opf x f (nI p) (nI (mp + 1)) (nI (mp + 1 + len))) 4 f 3 (nI o)) 4 f 4 (x.2.2.1 3 (q + 1) 0)) 4 f 5 (x.2.2.1 3 (q + 1) 1)) 3 (q + 1)) 3 q).2.1 2 = x.2.1 2 := rfl
      have y22 : (ro (ro (st (st (st (opf x f (nI p) (nI (mp + 1)) (nI (mp + 1 + len))) 4 f 3 (nI o)) 4 f 4 (x.2.2.1 3 (q + 1) 0)) 4 f 5 (x.2.2.1 3 (q + 1) 1)) 3 (q + 1)) 3 q).2.2.1 2 = x.2.2.1 2 := rfl
      have y5 : (ro (ro (st (st (st (opf x f (nI p) (nI (mp + 1)) (nI (mp + 1 + len))) 4 f 3 (nI o)) 4 f 4 (x.2.2.1 3 (q + 1) 0)) 4 f 5 (x.2.2.1 3 (q + 1) 1)) 3 (q + 1)) 3 q).2.2.2 = x.2.2.2 := rfl
      have yi : im (ro (ro (st (st (st (opf x f (nI p) (nI (mp + 1)) (nI (mp + 1 + len))) 4 f 3 (nI o)) 4 f 4 (x.2.2.1 3 (q + 1) 0)) 4 f 5 (x.2.2.1 3 (q + 1) 1)) 3 (q + 1)) 3 q) = im x := by
        rw [im_ro0 (by decide), im_ro0 (by decide), im_st0 (by decide), im_st0 (by decide), im_st0 (by decide)]
        unfold opf
        rw [im_st0 (by decide), im_st0 (by decide), im_st0 (by decide), im_st0 (by decide), im_ad0 (by decide)]
      generalize (ro (ro (st (st (st (opf x f (nI p) (nI (mp + 1)) (nI (mp + 1 + len))) 4 f 3 (nI o)) 4 f 4 (x.2.2.1 3 (q + 1) 0)) 4 f 5 (x.2.2.1 3 (q + 1) 1)) 3 (q + 1)) 3 q) = x' at c5 hrow y1 y3 y33 y0 y2 y22 y5 yi
      have w0 : x'.2.2.1 4 f 0 = nI p := by rw [hrow, if_pos rfl]; rfl
      have w1 : x'.2.2.1 4 f 1 = nI (mp + 1) := by rw [hrow, if_pos rfl]; rfl
      have w2 : x'.2.2.1 4 f 2 = nI (mp + 1 + len) := by rw [hrow, if_pos rfl]; rfl
      have w3 : x'.2.2.1 4 f 3 = nI o := by rw [hrow, if_pos rfl]; rfl
      have w4 : x'.2.2.1 4 f 4 = x.2.2.1 3 (q + 1) 0 := by rw [hrow, if_pos rfl]; rfl
      have w5 : x'.2.2.1 4 f 5 = x.2.2.1 3 (q + 1) 1 := by rw [hrow, if_pos rfl]; rfl
      have w6 : x'.2.2.1 4 f 6 = -1 := by rw [hrow, if_pos rfl]; rfl
      have np : ¬ nI p = -1 := fun w => m1_n p (by omega) w.symm
      refine Or.inl ⟨_, x', _, rfl, rfl, c5, ⟨y1, fun i hi => funext fun c => by rw [hrow, if_neg (by omega)], y3, y33, y0, y2, y22, y5⟩, ⟨?_, ?_, ?_, fun a a1 a2 i hi => ?_, fun a a0 ha => ?_⟩, ?_, ?_, ?_, by rw [w0]; exact np, w6, yi, ?_, hd⟩
      · rw [mS_ne (by omega), mS_ne (by omega)]; exact frM_20
      · rw [mS_ne (by omega), mS_ne (by omega), frM_21]; congr 1; omega
      · rw [mS_ne (by omega), mS_ne (by omega), frM_o (by omega), mS_eq]
      · have key : ∀ (N : MR) (b : Nat) (v : Int32), mS N b f v a i = N a i := fun N b v => by
          by_cases hj : a = b
          · subst hj; exact mS_ne2 (by omega)
          · exact mS_ne hj
        rw [key, key, frM_i a2 (by omega), mS_ne (by omega)]
      · rw [mS_o (by omega), mS_o (by omega), frM_o (by omega), mS_o (by omega)]
      · rw [mS_o (by omega), mS_o (by omega), frM_o (by omega), mS_o (by omega)]
      · have e0 : txF (im x) (x.1 18) (x'.2.2.1 4 f) = ett (im x) p := by
          unfold txF
          rw [w0, if_neg np, nI_clamp (by omega)]
        have e2 : imF (x'.2.2.1 4 f) = true := by
          unfold imF
          rw [w0, w6, decide_eq_true np]
          rfl
        exact ⟨mp + 1, mp + 1 + len, ⟨w1, w2, by omega, by omega, by omega⟩, by rw [e0, e2]; exact hl3, Or.inr ⟨p, l, w0, ⟨m1, m2⟩, hl0, by omega, hl60, Or.inl ⟨w6, ⟨o, ho, w3⟩, by rw [w4, w5]; exact d3⟩⟩⟩
      · refine ⟨?_, ?_, ?_, ⟨mp + 1, w1, by omega, by omega, ?_⟩, fun w => absurd (w0.symm.trans w) np, fun _ _ => ⟨?_, ?_, ?_⟩⟩
        · rw [mS_ne (by omega), mS_ne (by omega), frM_13, w0]
        · rw [mS_ne (by omega), mS_ne (by omega), frM_15, w2]
        · rw [mS_ne (by omega), mS_ne (by omega), frM_19, w6]
        · rw [mS_ne (by omega), mS_ne (by omega), frM_14]; rfl
        · rw [mS_ne (by omega), mS_ne (by omega), frM_16, w3]
        · rw [mS_ne (by omega), mS_eq, w4]
        · rw [mS_eq, w5]
      · rw [mS_o (by omega), mS_o (by omega), frM_o (by omega), mS_o (by omega)]
    · rw [if_neg hd, if_neg n1_0, if_pos (show nI (f - cf) = nI 20 by rw [show f - cf = 20 by omega])]
      exact Or.inr ⟨7, by omega, by omega, rfl, rfl⟩
end CALL2
