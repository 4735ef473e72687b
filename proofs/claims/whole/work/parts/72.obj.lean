-- ===== frames: what the reference's inner calls leave alone =====
def Fr (M M' : MR) : Prop := (∀ i, 20870 ≤ i → M' 0 i = M 0 i) ∧ ∀ a, (a = 1 ∨ a = 2 ∨ a = 3 ∨ 30 ≤ a) → M' a = M a
theorem Fr_refl (M : MR) : Fr M M := ⟨fun _ _ => rfl, fun _ _ => rfl⟩
theorem Fr_trans {M M' M'' : MR} (h : Fr M M') (h' : Fr M' M'') : Fr M M'' := ⟨fun i hi => (h'.1 i hi).trans (h.1 i hi), fun a ha => (h'.2 a ha).trans (h.2 a ha)⟩
theorem Fr_0 {M M' : MR} {i : Nat} {v : Int32} (h : Fr M M') (hi : i < 20870) : Fr M (mS M' 0 i v) := ⟨fun j hj => by rw [mS_ne2 (by omega)]; exact h.1 j hj, fun a ha => by funext b; rw [mS_ne (by omega)]; exact congrFun (h.2 a ha) b⟩
theorem Fr_a {M M' : MR} {a i : Nat} {v : Int32} (h : Fr M M') (h0 : 4 ≤ a) (h1 : a < 30) : Fr M (mS M' a i v) := ⟨fun j hj => by rw [mS_ne (by omega)]; exact h.1 j hj, fun b hb => by funext c; rw [mS_ne (by omega)]; exact congrFun (h.2 b hb) c⟩
theorem mS_uf {M : MR} {i : Nat} {v : Int32} : mS M 0 i v 0 = uf (M 0) i v := rfl
theorem mS_o {M : MR} {j i a : Nat} {v : Int32} (h : a ≠ j) : mS M j i v a = M a := funext fun _ => mS_ne h
-- ===== a new object =====
def okd (B : Im) (e f : Nat) : Int32 := if bed B e (24 + f) = nI 1 then nI 0 else -1
def onm (B : Im) (e f : Nat) : Int32 := if bed B e (24 + f) = nI 1 then bed B e (34 + f) else nI 0
def orow (B : Im) (e q c : Nat) : Int32 := if c = 0 then nI e else if 1 ≤ c ∧ c < 1 + q then okd B e (c - 1) else if 11 ≤ c ∧ c < 11 + q then onm B e (c - 11) else 0
def pO (x : X) (e q : Nat) : X := (x.1, uf x.2.1 7 (x.2.1 7 + 1), uf x.2.2.1 7 (fun r c => if r = x.2.1 7 then orow (im x) e q c else x.2.2.1 7 r c), x.2.2.2)
def nO (B : Im) (e : Nat) : Im := (bC B, bE B, bO B + 1, bce B, bed B, (fun r c => if r = bO B then orow B e 10 c else bob B r c), bnw B)
theorem im_pO {x : X} {e : Nat} : im (pO x e 10) = nO (im x) e := rfl
section ADDO
variable (n : Nat)
theorem xk_addObj_l {x : X} {e : Nat} (he : e < bE (im x)) (hE : bE (im x) ≤ 150) (hO : x.2.1 7 < 150) : ∀ d f k S, f + d = 10 → d < k → CR S (pO x e f) → Ru (f0_addObject_l20 n k (nI e) (nI (x.2.1 7)) (nI f) S) (nI (x.2.1 7)) (fun S' => CR S' (pO x e 10))
  | 0, f, k, S, hf, hk, h => by
    obtain ⟨k, rfl⟩ : ∃ k', k = k' + 1 := ⟨k - 1, by omega⟩
    obtain rfl : f = 10 := by omega
    rw [f0_addObject_l20]
    simp (disch := omega) only [y_lt, y_nlt, y_le, y_nle, y_ne, y_eq, y_n0, y_00, y_l0, y_0l, y_le0, y_m1, y_m1', y_ml, y_m0, y_0m, y_mm, y_lem, y_mle, ↓reduceIte, if_true, if_false]
    exact Ru_some h
  | d + 1, f, k, S, hf, hk, h => by
    obtain ⟨k, rfl⟩ : ∃ k', k = k' + 1 := ⟨k - 1, by omega⟩
    rw [f0_addObject_l20]
    have hr : x.2.1 7 < (pO x e f).2.1 7 := by show x.2.1 7 < uf x.2.1 7 (x.2.1 7 + 1) 7; rw [uf_eq]; omega
    have ext : ∀ S', CR S' (st (st (pO x e f) 7 (x.2.1 7) (1 + f) (okd (im x) e f)) 7 (x.2.1 7) (11 + f) (onm (im x) e f)) → CR S' (pO x e (f + 1)) := by
      intro S' h'
      refine CR_ext h' (fun _ _ => rfl) (fun _ _ => rfl) (fun q r c hq hr hc => ?_) rfl
      by_cases hq7 : q = 7
      · subst hq7
        show (if r = x.2.1 7 then orow (im x) e (f + 1) c else _) = st2 (st2 (fun r c => if r = x.2.1 7 then orow (im x) e f c else x.2.2.1 7 r c) _ _ _) _ _ _ r c
        by_cases hrr : r = x.2.1 7
        · subst hrr
          rw [if_pos rfl]
          by_cases c1 : c = 11 + f
          · subst c1
            rw [st2_eq]
            unfold orow
            rw [if_neg (by omega), if_neg (by omega), if_pos (by omega), show 11 + f - 11 = f by omega]
          · rw [st2_ne (Or.inr c1)]
            by_cases c2 : c = 1 + f
            · subst c2
              rw [st2_eq]
              unfold orow
              rw [if_neg (by omega), if_pos (by omega), show 1 + f - 1 = f by omega]
            · rw [st2_ne (Or.inr c2), if_pos rfl]
              unfold orow
              repeat' split
              all_goals first | rfl | omega
        · rw [if_neg hrr, st2_ne (Or.inl hrr), st2_ne (Or.inl hrr), if_neg hrr]
      · show uf x.2.2.1 7 _ q r c = uf (uf (uf x.2.2.1 7 _) 7 _) 7 _ q r c
        rw [uf_ne hq7, uf_ne hq7, uf_ne hq7, uf_ne hq7]
    have g1 : ∀ c (K : Int32 → CS → Option (Int32 × CS)), c < 104 → bT 6 S (f2_get n (nI e) (nI c) (tOf 6 S)) K = K (bed (im x) e c) S := fun c K hc => xg6 n h he hc
    by_cases hh : bed (im x) e (24 + f) = nI 1
    · simp (disch := omega) only [y_lt, y_nlt, y_le, y_nle, y_ne, y_eq, y_n0, y_00, y_l0, y_0l, y_le0, y_m1, y_m1', y_ml, y_m0, y_0m, y_mm, y_lem, y_mle, ↓reduceIte, if_true, if_false, nI_add, g1, hh, f0_addObject_b47, f0_addObject_b67]
      refine Rc_set n (by decide) h hr (show 1 + f < 21 by omega) (fun S1 h1 => ?_)
      have g2 : ∀ c (K : Int32 → CS → Option (Int32 × CS)), c < 104 → bT 6 S1 (f2_get n (nI e) (nI c) (tOf 6 S1)) K = K (bed (im x) e c) S1 := fun c K hc => xg6 n h1 he hc
      simp (disch := omega) only [y_lt, y_nlt, y_le, y_nle, y_ne, y_eq, y_n0, y_00, y_l0, y_0l, y_le0, y_m1, y_m1', y_ml, y_m0, y_0m, y_mm, y_lem, y_mle, ↓reduceIte, if_true, if_false, nI_add, g2, f0_addObject_b100]
      refine Rc_set n (by decide) h1 hr (show 11 + f < 21 by omega) (fun S2 h2 => ?_)
      refine xk_addObj_l he hE hO d (f + 1) k S2 (by omega) (by omega) (ext S2 ?_)
      unfold okd onm
      rw [if_pos hh, if_pos hh]
      exact h2
    · simp (disch := omega) only [y_lt, y_nlt, y_le, y_nle, y_ne, y_eq, y_n0, y_00, y_l0, y_0l, y_le0, y_m1, y_m1', y_ml, y_m0, y_0m, y_mm, y_lem, y_mle, ↓reduceIte, if_true, if_false, nI_add, g1, hh, f0_addObject_b47, f0_addObject_b67]
      refine Rc_set n (by decide) h hr (show 1 + f < 21 by omega) (fun S1 h1 => ?_)
      simp (disch := omega) only [y_lt, y_nlt, y_le, y_nle, y_ne, y_eq, y_n0, y_00, y_l0, y_0l, y_le0, y_m1, y_m1', y_ml, y_m0, y_0m, y_mm, y_lem, y_mle, ↓reduceIte, if_true, if_false, nI_add, f0_addObject_b100]
      refine Rc_set n (by decide) h1 hr (show 11 + f < 21 by omega) (fun S2 h2 => ?_)
      refine xk_addObj_l he hE hO d (f + 1) k S2 (by omega) (by omega) (ext S2 ?_)
      unfold okd onm
      rw [if_neg hh, if_neg hh]
      exact h2
theorem xk_addObject (hn : 1000 ≤ n) {S : CS} {x : X} {e : Nat} (h : CR S x) (he : e < bE (im x)) (hE : bE (im x) ≤ 150) (hO : x.2.1 7 < 150) : Ru (f0_addObject n (nI e) S) (nI (x.2.1 7)) (fun S' => CR S' (pO x e 10)) := by
  unfold f0_addObject
  refine Rc_add n (by decide) h hO (by omega) (fun S1 h1 => ?_)
  have hr : x.2.1 7 < (ad x 7).2.1 7 := by show x.2.1 7 < uf x.2.1 7 (x.2.1 7 + 1) 7; rw [uf_eq]; omega
  refine Rc_set n (by decide) h1 hr (show 0 < 21 by omega) (fun S2 h2 => ?_)
  refine xk_addObj_l n he hE hO 10 0 n S2 (by omega) (by omega) (CR_ext h2 (fun _ _ => rfl) (fun _ _ => rfl) (fun q r c hq hr hc => ?_) rfl)
  by_cases hq7 : q = 7
  · subst hq7
    show (if r = x.2.1 7 then orow (im x) e 0 c else _) = st2 (fun r c => if r = x.2.1 7 then 0 else x.2.2.1 7 r c) _ _ _ r c
    by_cases hrr : r = x.2.1 7
    · subst hrr
      rw [if_pos rfl]
      by_cases c1 : c = 0
      · subst c1
        rw [st2_eq]; rfl
      · rw [st2_ne (Or.inr c1), if_pos rfl]
        unfold orow
        repeat' split
        all_goals first | rfl | omega
    · rw [if_neg hrr, st2_ne (Or.inl hrr), if_neg hrr]
  · show uf x.2.2.1 7 _ q r c = uf (uf x.2.2.1 7 _) 7 _ q r c
    rw [uf_ne hq7, uf_ne hq7, uf_ne hq7]
theorem xk_addObjF_l {x : X} {S : CS} {e : Nat} (he : e < bE (im x)) (hE : bE (im x) ≤ 150) (h : CR S x) : ∀ d f k, f + d = 10 → d < k → f0_addObject_l20 n k (nI e) (-1) (nI f) S = some (-1, S)
  | 0, f, k, hf, hk => by
    obtain ⟨k, rfl⟩ : ∃ k', k = k' + 1 := ⟨k - 1, by omega⟩
    obtain rfl : f = 10 := by omega
    rw [f0_addObject_l20]
    simp (disch := omega) only [y_lt, y_nlt, y_le, y_nle, y_ne, y_eq, y_n0, y_00, y_l0, y_0l, y_le0, y_m1, y_m1', y_ml, y_m0, y_0m, y_mm, y_lem, y_mle, ↓reduceIte, if_true, if_false]
  | d + 1, f, k, hf, hk => by
    obtain ⟨k, rfl⟩ : ∃ k', k = k' + 1 := ⟨k - 1, by omega⟩
    have ih := xk_addObjF_l he hE h d (f + 1) k (by omega) (by omega)
    rw [f0_addObject_l20]
    by_cases hh : bed (im x) e (24 + f) = nI 1
    · simp (disch := omega) only [bnd_s, xg0 _ h, xg1 _ h, xg2 _ h, xg3 _ h, xg4 _ h, xg5 _ h, xg6 _ h, xg7 _ h, xz0 _ h, xz1 _ h, xz2 _ h, xz3 _ h, xz4 _ h, xz5 _ h, xz6 _ h, xz7 _ h, xh5 _ h, xh6 _ h, xh7 _ h, xcg h, xcr h, nI_add, pk_mul, Nat.add_zero, zt_0, zt_1, y_lt, y_nlt, y_le, y_nle, y_ne, y_eq, y_n0, y_00, y_l0, y_0l, y_le0, y_m1, y_m1', y_ml, y_m0, y_0m, y_mm, y_lem, y_mle, ↓reduceIte, if_true, if_false, hh, f0_addObject_b47, f0_addObject_b67, b_set_o n (show 7 < 8 by decide) (h.2.1 7 (by decide)) (Or.inl m1_lt), f0_addObject_b100, ih]
    · simp (disch := omega) only [bnd_s, xg0 _ h, xg1 _ h, xg2 _ h, xg3 _ h, xg4 _ h, xg5 _ h, xg6 _ h, xg7 _ h, xz0 _ h, xz1 _ h, xz2 _ h, xz3 _ h, xz4 _ h, xz5 _ h, xz6 _ h, xz7 _ h, xh5 _ h, xh6 _ h, xh7 _ h, xcg h, xcr h, nI_add, pk_mul, Nat.add_zero, zt_0, zt_1, y_lt, y_nlt, y_le, y_nle, y_ne, y_eq, y_n0, y_00, y_l0, y_0l, y_le0, y_m1, y_m1', y_ml, y_m0, y_0m, y_mm, y_lem, y_mle, ↓reduceIte, if_true, if_false, hh, f0_addObject_b47, f0_addObject_b67, b_set_o n (show 7 < 8 by decide) (h.2.1 7 (by decide)) (Or.inl m1_lt), f0_addObject_b100, ih]
theorem xk_addObjectF (hn : 1000 ≤ n) {S : CS} {x : X} {e : Nat} (h : CR S x) (he : e < bE (im x)) (hE : bE (im x) ≤ 150) (hO : x.2.1 7 = 150) : f0_addObject n (nI e) S = some (-1, S) := by
  unfold f0_addObject
  rw [b_addF n (by decide) (show sOk S 7 (mk 7) from (show mk 7 = x.2.1 7 from hO.symm) ▸ h.2.1 7 (by decide)), b_set_o n (show 7 < 8 by decide) (h.2.1 7 (by decide)) (Or.inl m1_lt)]
  exact xk_addObjF_l n he hE h 10 0 n (by omega) (by omega)
/-- the reference's rows after the first q fields of a new object -/
def NO (B : Im) (e : Nat) (M : MR) (q : Nat) (M' : MR) : Prop := (∀ a, a ≠ 0 → M' a = M a) ∧ (∀ i, i ≠ 2 → i ≠ 7220 + 70 * e + 6 → (i < 17720 + 21 * bO B ∨ 17720 + 21 * bO B + 21 ≤ i) → M' 0 i = M 0 i) ∧ M' 0 2 = nI (bO B + 1) ∧ M' 0 (7220 + 70 * e + 6) = M 0 (7220 + 70 * e + 6) + nI 1 ∧ M' 0 (17720 + 21 * bO B) = nI e ∧ ∀ f, f < q → M' 0 (17720 + 21 * bO B + 1 + f) = okd B e f + nI 1 ∧ M' 0 (17720 + 21 * bO B + 11 + f) = onm B e f
theorem r_newObj_l (hn : 1000 ≤ n) {B : Im} {M : MR} {e : Nat} (hW : WF B) (hE : RE B (M 0)) (he : e < bE B) (hc : cls B e) (hO : bO B < 150) : ∀ d f k M', f + d = 10 → d < k → NO B e M f M' → ∃ M'', fR_newObject_l45 n k (nI e) (nI (bO B)) (nI f) M' = some (nI (bO B), M'') ∧ NO B e M 10 M''
  | 0, f, k, M', hf, hk, h => by
    obtain ⟨k, rfl⟩ : ∃ k', k = k' + 1 := ⟨k - 1, by omega⟩
    obtain rfl : f = 10 := by omega
    rw [fR_newObject_l45]
    simp (disch := omega) only [y_lt, y_nlt, y_le, y_nle, y_ne, y_eq, y_n0, y_00, y_l0, y_0l, y_le0, y_m1, y_m1', y_ml, y_m0, y_0m, y_mm, y_lem, y_mle, ↓reduceIte, if_true, if_false]
    exact ⟨_, rfl, h⟩
  | d + 1, f, k, M', hf, hk, h => by
    obtain ⟨k, rfl⟩ : ∃ k', k = k' + 1 := ⟨k - 1, by omega⟩
    have hB := hW.1
    obtain ⟨n1, n2, n3, n4, n5, n6⟩ := h
    rw [fR_newObject_l45]
    simp (disch := omega) only [bnd_s, gf, pf, rd_at, wr_at, nI_add, pk_mul, Nat.add_zero, zt_0, zt_1, r_cellAt, r_editAt, r_objAt, y_lt, y_nlt, y_le, y_nle, y_ne, y_eq, y_n0, y_00, y_l0, y_0l, y_le0, y_m1, y_m1', y_ml, y_m0, y_0m, y_mm, y_lem, y_mle, ↓reduceIte, if_true, if_false]
    rw [r_fieldWalk n hn hW hO (show f < 10 by omega) _ _ (RE_c hE (fun i h1 h2 h3 => by
      rw [mS_ne2 (by omega), mS_ne2 (by omega)]
      exact n2 i (by omega) (by omega) (by omega))) e n (by omega) he hc]
    refine r_newObj_l hn hW hE he hc hO d (f + 1) k _ (by omega) (by omega) ?_
    by_cases hh : bed B e (24 + f) = nI 1
    · rw [if_pos hh]
      refine ⟨fun a ha => by rw [mS_o ha, mS_o ha, mS_o ha, mS_o ha]; exact n1 a ha, fun i h1 h2 h3 => by rw [mS_ne2 (by omega), mS_ne2 (by omega), mS_ne2 (by omega), mS_ne2 (by omega)]; exact n2 i h1 h2 h3, by rw [mS_ne2 (by omega), mS_ne2 (by omega), mS_ne2 (by omega), mS_ne2 (by omega)]; exact n3, by rw [mS_ne2 (by omega), mS_ne2 (by omega), mS_ne2 (by omega), mS_ne2 (by omega)]; exact n4, by rw [mS_ne2 (by omega), mS_ne2 (by omega), mS_ne2 (by omega), mS_ne2 (by omega)]; exact n5, fun f' hf' => ?_⟩
      by_cases hff : f' = f
      · subst hff
        unfold okd onm
        rw [if_pos hh, if_pos hh, mS_ne2 (by omega), mS_eq, mS_eq]
        exact ⟨by decide, rfl⟩
      · rw [mS_ne2 (by omega), mS_ne2 (by omega), mS_ne2 (by omega), mS_ne2 (by omega), mS_ne2 (by omega), mS_ne2 (by omega), mS_ne2 (by omega), mS_ne2 (by omega)]
        exact n6 f' (by omega)
    · rw [if_neg hh]
      refine ⟨fun a ha => by rw [mS_o ha, mS_o ha]; exact n1 a ha, fun i h1 h2 h3 => by rw [mS_ne2 (by omega), mS_ne2 (by omega)]; exact n2 i h1 h2 h3, by rw [mS_ne2 (by omega), mS_ne2 (by omega)]; exact n3, by rw [mS_ne2 (by omega), mS_ne2 (by omega)]; exact n4, by rw [mS_ne2 (by omega), mS_ne2 (by omega)]; exact n5, fun f' hf' => ?_⟩
      by_cases hff : f' = f
      · subst hff
        unfold okd onm
        rw [if_neg hh, if_neg hh, mS_ne2 (by omega), mS_eq, mS_eq]
        exact ⟨by decide, rfl⟩
      · rw [mS_ne2 (by omega), mS_ne2 (by omega), mS_ne2 (by omega), mS_ne2 (by omega)]
        exact n6 f' (by omega)
theorem r_newObject (hn : 1000 ≤ n) {B : Im} {M : MR} {e : Nat} (hW : WF B) (hR : RelI B (M 0)) (he : e < bE B) (hc : cls B e) (hO : bO B < 150) : ∃ M', fR_newObject n (nI e) M = some (nI (bO B), M') ∧ (∀ a, a ≠ 0 → M' a = M a) ∧ (∀ i, 20870 ≤ i → M' 0 i = M 0 i) ∧ RelI (nO B e) (M' 0) := by
  have hB := hW.1
  unfold fR_newObject
  simp (disch := omega) only [bnd_s, gf, pf, rd_at, wr_at, nI_add, pk_mul, Nat.add_zero, zt_0, zt_1, r_cellAt, r_editAt, r_objAt, y_lt, y_nlt, y_le, y_nle, y_ne, y_eq, y_n0, y_00, y_l0, y_0l, y_le0, y_m1, y_m1', y_ml, y_m0, y_0m, y_mm, y_lem, y_mle, ↓reduceIte, if_true, if_false, hR.1.2.2.1]
  obtain ⟨M', q1, n1, n2, n3, n4, n5, n6⟩ := r_newObj_l n hn hW (RE_of hR) he hc hO 10 0 n (mS (mS (mS M 0 2 (nI (bO B + 1))) 0 (17720 + 21 * bO B) (nI e)) 0 (7220 + 70 * e + 6) (M 0 (7220 + 70 * e + 6) + nI 1)) (by omega) (by omega) ⟨fun a ha => by rw [mS_o ha, mS_o ha, mS_o ha], fun i h1 h2 h3 => by rw [mS_ne2 (by omega), mS_ne2 (by omega), mS_ne2 (by omega)], by rw [mS_ne2 (by omega), mS_ne2 (by omega), mS_eq], by rw [mS_eq], by rw [mS_ne2 (by omega), mS_eq], fun f hf => by omega⟩
  rw [show mS (mS M 0 2 (nI (bO B + 1))) 0 (17720 + 21 * bO B) (nI e) 0 (7220 + 70 * e + 6) = M 0 (7220 + 70 * e + 6) by rw [mS_ne2 (by omega), mS_ne2 (by omega)]]
  refine ⟨M', q1, n1, fun i hi => n2 i (by omega) (by omega) (by omega), ?_⟩
  have hC : bC B ≤ 40 := hB.1
  have hE : bE B ≤ 150 := hB.2.1
  refine RelI_upd hR ?_ ?_ n3 (fun j hj => ?_) (fun c hc => Or.inl ⟨hc, fun _ _ => rfl, fun i hi => ?_⟩) (fun e' he' => Or.inl ⟨he', fun _ _ => rfl, fun i hi _ => ?_⟩) (fun e' he' hs => ?_) (fun o' ho' => ?_)
  · rw [n2 _ (by omega) (by omega) (by omega)]; exact hR.1.1
  · rw [n2 _ (by omega) (by omega) (by omega)]; exact hR.1.2.1
  · rw [n2 _ (by omega) (by omega) (by omega)]; exact hR.1.2.2.2 j hj
  · have hc : c < bC B := hc
    exact n2 _ (by omega) (by omega) (by omega)
  · have he' : e' < bE B := he'
    exact n2 _ (by omega) (by omega) (by omega)
  · have he' : e' < bE B := he'
    have hcn : ∀ e', cntO (nO B e) e' = cntO B e' + (if nI e = nI e' then 1 else 0) := by
      intro e'
      show cnt (fun o => decide ((if o = bO B then orow B e 10 0 else bob B o 0) = nI e')) (bO B + 1) = _
      rw [cnt, cnt_congr (P' := fun o => decide (bob B o 0 = nI e')) (bO B) (fun i hi => by rw [if_neg (by omega)])]
      congr 1
      rw [if_pos rfl, show orow B e 10 0 = nI e from rfl]
      by_cases q : nI e = nI e'
      · rw [if_pos q, if_pos (decide_eq_true q)]
      · rw [if_neg q, if_neg (by simp [q])]
    rw [hcn]
    by_cases hee : e' = e
    · subst hee
      rw [n4, if_pos rfl, (hR.2.2.1 e' he').2 hs, nI_add]
    · rw [if_neg (fun q => hee ((nI_eq (by omega) (by omega)).mp q).symm), n2 _ (by omega) (by omega) (by omega), (hR.2.2.1 e' he').2 hs, Nat.add_zero]
  · have ho' : o' < bO B + 1 := ho'
    by_cases hoo : o' = bO B
    · subst hoo
      right
      have rw1 : bob (nO B e) (bO B) = orow B e 10 := by funext c; exact if_pos rfl
      rw [rw1]
      refine ⟨n5, fun f hf => ⟨?_, ?_⟩⟩
      · show M' 0 (17720 + 21 * bO B + (1 + f)) = _
        rw [← Nat.add_assoc, (n6 f hf).1]
        unfold orow
        rw [if_neg (by omega), if_pos (by omega), show 1 + f - 1 = f by omega]
      · show M' 0 (17720 + 21 * bO B + (11 + f)) = _
        rw [← Nat.add_assoc, (n6 f hf).2]
        unfold orow
        rw [if_neg (by omega), if_neg (by omega), if_pos (by omega), show 11 + f - 11 = f by omega]
    · exact Or.inl ⟨by omega, fun i hi => if_neg hoo, fun i hi => n2 _ (by omega) (by omega) (by omega)⟩
end ADDO
theorem WF_newO {B : Im} (hW : WF B) {e : Nat} (he : e < bE B) (hc : cls B e) (hO : bO B < 150) : WF (nO B e) := by
  refine WF_same hW rfl rfl rfl rfl (Nat.le_succ _) (show bO B + 1 ≤ 150 by omega) (fun o ho => ?_) hW.2.2.2.2
  by_cases hoo : o = bO B
  · subst hoo
    have rw1 : bob (nO B e) (bO B) = orow B e 10 := by funext c; exact if_pos rfl
    unfold ObOk
    rw [rw1]
    refine ⟨⟨e, ⟨he, hc⟩, rfl⟩, fun f hf => ?_⟩
    have r1 : orow B e 10 (1 + f) = okd B e f := by
      unfold orow
      rw [if_neg (by omega), if_pos (by omega), show 1 + f - 1 = f by omega]
    rw [r1]
    unfold okd
    by_cases hh : bed B e (24 + f) = nI 1
    · rw [if_pos hh]; exact Or.inr (Or.inl rfl)
    · rw [if_neg hh]; exact Or.inl rfl
  · have ho : o < bO B + 1 := ho
    refine ObOk_c (hW.2.2.2.1 o (by omega)) (fun i => if_neg hoo) (fun _ _ => rfl) (Nat.le_refl _) (Nat.le_succ _)
