theorem cnt_t {P : Nat → Bool} {m : Nat} (h : P m = true) : cnt P (m + 1) = cnt P m + 1 := by rw [cnt, if_pos h]
theorem cnt_f {P : Nat → Bool} {m : Nat} (h : ¬ P m = true) : cnt P (m + 1) = cnt P m := by rw [cnt, if_neg h, Nat.add_zero]
-- ===== parents, out of what is right =====
def par (B : Im) (e : Nat) : Option Nat := if bed B e 5 = -1 then none else some (bed B e 5).toNatClampNeg
def cls (B : Im) (e : Nat) : Prop := bed B e 2 = nI 1
def bel (B : Im) (e o : Nat) : Bool := belB (par B) 151 e o
section WFS
variable {B : Im} (hW : WF B)
theorem wf_cls {e : Nat} (hW : WF B) (he : e < bE B) (hc : cls B e) : ∃ nf nm l, ClsOk B e nf nm l := ((hW.2.2.1 e he).2.2.2.2 hc).1
theorem wf_st {e : Nat} (hW : WF B) (he : e < bE B) (hc : cls B e) : StOk B e := ((hW.2.2.1 e he).2.2.2.2 hc).2
theorem mpl_ge (tx : Nat → Int32) (nf : Nat) : ∀ k, 4 + 2 * nf + 2 * k ≤ mpl tx nf k
  | 0 => by rw [mpl]; omega
  | k + 1 => by have := mpl_ge tx nf k; rw [mpl]; omega
theorem wf_par (hW : WF B) : parOk (par B) (cls B) (bE B) := by
  intro e p he hc hp
  obtain ⟨nf, nm, l, h⟩ := wf_cls hW he hc
  unfold par at hp
  rcases h.2.2.2.1.2 with h1 | ⟨p', h1, h2, h3⟩
  · rw [if_pos h1] at hp; exact absurd hp (by simp)
  · rw [if_neg (by rw [h1]; exact fun e' => m1_n p' (by have := hW.1; omega) e'.symm), h1, nI_clamp (by have := hW.1; omega)] at hp
    cases hp
    exact ⟨h2, h3⟩
theorem wf_ni {e : Nat} (hW : WF B) (he : e < bE B) (hc : cls B e) : bed B e 5 = ni (par B e) := by
  obtain ⟨nf, nm, l, h⟩ := wf_cls hW he hc
  unfold par
  rcases h.2.2.2.1.2 with h1 | ⟨p', h1, h2, h3⟩
  · rw [if_pos h1, h1]; rfl
  · rw [if_neg (by rw [h1]; exact fun e' => m1_n p' (by have := hW.1; omega) e'.symm), h1, nI_clamp (by have := hW.1; omega)]
    rfl
theorem wf_rp {e : Nat} {g : Nat → Int32} (hW : WF B) (hR : RelI B g) (he : e < bE B) (hc : cls B e) : g (7228 + 70 * e) = ni (par B e) := by
  obtain ⟨nf, nm, l, h⟩ := wf_cls hW he hc
  have hl := h.1.2.2.2.2.2.1
  have := mpl_ge (ett B e) nf nm
  have h3 := ri_et hR he hc (show 0 < 60 by decide) (by rw [hl]; exact nI_lt (by have := h.1.2.2.2.2.2.2.1; omega) (by have := h.1.2.2.2.2.2.2.2; omega))
  rw [← wf_ni hW he hc, ← h.2.2.2.1.1]
  rw [show 7228 + 70 * e = 7220 + 70 * e + 8 + 0 by omega, h3]
  rfl
theorem belB_cls {par : Nat → Option Nat} {cls : Nat → Prop} {nE o : Nat} (hp : parOk par cls nE) : ∀ (k e : Nat), e < nE → cls e → belB par k e o = true → cls o
  | 0, _, _, _, h => absurd h (by simp [belB])
  | k + 1, e, he, hc, h => by
    rw [belB] at h
    by_cases heo : e = o
    · exact heo ▸ hc
    · rw [if_neg heo] at h
      cases hpe : par e with
      | none => rw [hpe] at h; exact absurd h (by simp)
      | some p =>
        rw [hpe] at h
        have := hp e p he hc hpe
        exact belB_cls hp k p (by omega) this.2 h
end WFS
section KB
variable {S : CS} {x : X} {M : MR} (n : Nat)
theorem xk_below (hn : 1000 ≤ n) (h : CR S x) (hW : WF (im x)) {e o : Nat} (he : e < bE (im x)) (hc : cls (im x) e) (ho : o < 2147483648) : f0_isBelow n (nI e) (nI o) S = some (if bel (im x) e o = true then nI 1 else nI 0, S) := by
  have hE := hW.1
  exact q_below n (wf_par hW) (h.2.1 6 (by decide)) (fun e he hc => by rw [h.2.2.1 6 e 5 (by decide) he (by decide)]; exact wf_ni hW he hc) ho 150 e n 0 (by omega) (by omega) (by omega) he hc
theorem r_below' (hn : 1000 ≤ n) (hR : RelI (im x) (M 0)) (hW : WF (im x)) {e o : Nat} (he : e < bE (im x)) (hc : cls (im x) e) (ho : o < 2147483648) : fR_isBelow n (nI e) (nI o) M = some (if bel (im x) e o = true then nI 1 else nI 0, M) := by
  have hE := hW.1
  exact r_below n (by omega) (wf_par hW) (fun e he hc => wf_rp hW hR he hc) ho 150 e n (by omega) (by omega) he hc
theorem xk_isClass (h : CR S x) {e : Nat} (he : e < bE (im x)) (hE : bE (im x) ≤ 150) : f0_isClass n (nI e) S = some (if bed (im x) e 2 = nI 1 then nI 1 else nI 0, S) := by
  unfold f0_isClass
  simp (disch := omega) only [bnd_s, xg0 _ h, xg1 _ h, xg2 _ h, xg3 _ h, xg4 _ h, xg5 _ h, xg6 _ h, xg7 _ h, xz0 _ h, xz1 _ h, xz2 _ h, xz3 _ h, xz4 _ h, xz5 _ h, xz6 _ h, xz7 _ h, xh5 _ h, xh6 _ h, xh7 _ h, xcg h, xcr h, nI_add, pk_mul, Nat.add_zero, zt_0, zt_1, he, y_lt, y_nlt, y_le, y_nle, y_ne, y_eq, y_n0, y_00, y_l0, y_0l, y_le0, y_m1, y_m1', y_ml, y_m0, y_0m, y_mm, y_lem, y_mle, ↓reduceIte, if_true, if_false]
  split <;> rfl
theorem xk_isClass_n (h : CR S x) {a : Int32} (ha : a < 0) : f0_isClass n a S = some (nI 0, S) := by
  unfold f0_isClass
  simp (disch := omega) only [b_has_n n (show 6 < 8 by decide) ha, zt_0, y_lt, y_nlt, y_le, y_nle, y_ne, y_eq, y_n0, y_00, y_l0, y_0l, y_le0, y_m1, y_m1', y_ml, y_m0, y_0m, y_mm, y_lem, y_mle, ↓reduceIte, if_true, if_false]
theorem r_isClass' (hR : RelI (im x) (M 0)) {e : Nat} (he : e < bE (im x)) (hE : bE (im x) ≤ 150) : fR_isClass n (nI e) M = some (if bed (im x) e 2 = nI 1 then nI 1 else nI 0, M) := by
  unfold fR_isClass
  simp (disch := omega) only [r_isEdition n M _ _ hR.1.2.1, bnd_s, gf, pf, rd_at, wr_at, nI_add, pk_mul, Nat.add_zero, zt_0, zt_1, r_cellAt, r_editAt, r_objAt, he, y_lt, y_nlt, y_le, y_nle, y_ne, y_eq, y_n0, y_00, y_l0, y_0l, y_le0, y_m1, y_m1', y_ml, y_m0, y_0m, y_mm, y_lem, y_mle, ↓reduceIte, if_true, if_false, ri_e1 hR he]
  split <;> rfl
theorem xk_isNewest (h : CR S x) (hW : WF (im x)) {e j : Nat} (he : e < bE (im x)) (hj : j < 16) (hn : bed (im x) e 0 = nI j) : f0_isNewest n (nI e) S = some (if bnw (im x) j = nI e then nI 1 else nI 0, S) := by
  have hE := hW.1
  unfold f0_isNewest
  simp (disch := omega) only [bnd_s, xg0 _ h, xg1 _ h, xg2 _ h, xg3 _ h, xg4 _ h, xg5 _ h, xg6 _ h, xg7 _ h, xz0 _ h, xz1 _ h, xz2 _ h, xz3 _ h, xz4 _ h, xz5 _ h, xz6 _ h, xz7 _ h, xh5 _ h, xh6 _ h, xh7 _ h, xcg h, xcr h, nI_add, pk_mul, Nat.add_zero, zt_0, zt_1, he, y_lt, y_nlt, y_le, y_nle, y_ne, y_eq, y_n0, y_00, y_l0, y_0l, y_le0, y_m1, y_m1', y_ml, y_m0, y_0m, y_mm, y_lem, y_mle, ↓reduceIte, if_true, if_false, hn, q_newestOf n S hj, h.1 20 (by decide)]
  show (if bnw (im x) j = nI e then _ else _) = _
  split <;> rfl
theorem xk_older (h : CR S x) {e : Nat} (he : e < bE (im x)) (hE : bE (im x) ≤ 150) {P : Nat → Bool} (hP : P = fun i => decide (bed (im x) i 0 = bed (im x) e 0)) : ∀ d i k, i + d = e → d < k → f0_countOlder_l4 n k (nI e) (nI (cnt P i)) (nI i) S = some (nI (cnt P e), S)
  | 0, i, k, hi, hk => by
    obtain ⟨k, rfl⟩ : ∃ k', k = k' + 1 := ⟨k - 1, by omega⟩
    obtain rfl : i = e := by omega
    rw [f0_countOlder_l4]
    simp (disch := omega) only [y_lt, y_nlt, y_le, y_nle, y_ne, y_eq, y_n0, y_00, y_l0, y_0l, y_le0, y_m1, y_m1', y_ml, y_m0, y_0m, y_mm, y_lem, y_mle, ↓reduceIte, if_true, if_false]
  | d + 1, i, k, hi, hk => by
    obtain ⟨k, rfl⟩ : ∃ k', k = k' + 1 := ⟨k - 1, by omega⟩
    rw [f0_countOlder_l4]
    simp (disch := omega) only [bnd_s, xg0 _ h, xg1 _ h, xg2 _ h, xg3 _ h, xg4 _ h, xg5 _ h, xg6 _ h, xg7 _ h, xz0 _ h, xz1 _ h, xz2 _ h, xz3 _ h, xz4 _ h, xz5 _ h, xz6 _ h, xz7 _ h, xh5 _ h, xh6 _ h, xh7 _ h, xcg h, xcr h, nI_add, pk_mul, Nat.add_zero, zt_0, zt_1, y_lt, y_nlt, y_le, y_nle, y_ne, y_eq, y_n0, y_00, y_l0, y_0l, y_le0, y_m1, y_m1', y_ml, y_m0, y_0m, y_mm, y_lem, y_mle, ↓reduceIte, if_true, if_false, f0_countOlder_b44]
    have ih := xk_older h he hE hP d (i + 1) k (by omega) (by omega)
    by_cases hc : bed (im x) i 0 = bed (im x) e 0
    · rw [if_pos hc, ← cnt_t (P := P) (by rw [hP]; exact decide_eq_true hc)]; exact ih
    · rw [if_neg hc, ← cnt_f (P := P) (m := i) (by rw [hP]; simp [hc])]; exact ih
theorem xk_made (h : CR S x) (hE : bO (im x) ≤ 150) {e : Nat} : ∀ d i k, i + d = bO (im x) → d < k → f0_countMadeOf_l4 n k (nI e) (nI (cnt (fun o => decide (bob (im x) o 0 = nI e)) i)) (nI i) S = some (nI (cntO (im x) e), S)
  | 0, i, k, hi, hk => by
    obtain ⟨k, rfl⟩ : ∃ k', k = k' + 1 := ⟨k - 1, by omega⟩
    obtain rfl : i = bO (im x) := by omega
    rw [f0_countMadeOf_l4]
    simp (disch := omega) only [bnd_s, xg0 _ h, xg1 _ h, xg2 _ h, xg3 _ h, xg4 _ h, xg5 _ h, xg6 _ h, xg7 _ h, xz0 _ h, xz1 _ h, xz2 _ h, xz3 _ h, xz4 _ h, xz5 _ h, xz6 _ h, xz7 _ h, xh5 _ h, xh6 _ h, xh7 _ h, xcg h, xcr h, nI_add, pk_mul, Nat.add_zero, zt_0, zt_1, y_lt, y_nlt, y_le, y_nle, y_ne, y_eq, y_n0, y_00, y_l0, y_0l, y_le0, y_m1, y_m1', y_ml, y_m0, y_0m, y_mm, y_lem, y_mle, ↓reduceIte, if_true, if_false]
    rfl
  | d + 1, i, k, hi, hk => by
    obtain ⟨k, rfl⟩ : ∃ k', k = k' + 1 := ⟨k - 1, by omega⟩
    rw [f0_countMadeOf_l4]
    simp (disch := omega) only [bnd_s, xg0 _ h, xg1 _ h, xg2 _ h, xg3 _ h, xg4 _ h, xg5 _ h, xg6 _ h, xg7 _ h, xz0 _ h, xz1 _ h, xz2 _ h, xz3 _ h, xz4 _ h, xz5 _ h, xz6 _ h, xz7 _ h, xh5 _ h, xh6 _ h, xh7 _ h, xcg h, xcr h, nI_add, pk_mul, Nat.add_zero, zt_0, zt_1, y_lt, y_nlt, y_le, y_nle, y_ne, y_eq, y_n0, y_00, y_l0, y_0l, y_le0, y_m1, y_m1', y_ml, y_m0, y_0m, y_mm, y_lem, y_mle, ↓reduceIte, if_true, if_false, f0_countMadeOf_b31]
    have ih := xk_made h hE (e := e) d (i + 1) k (by omega) (by omega)
    by_cases hc : bob (im x) i 0 = nI e
    · rw [if_pos hc, ← cnt_t (P := fun o => decide (bob (im x) o 0 = nI e)) (decide_eq_true hc)]; exact ih
    · rw [if_neg hc, ← cnt_f (P := fun o => decide (bob (im x) o 0 = nI e)) (m := i) (by simp [hc])]; exact ih
theorem r_older (hR : RelI (im x) (M 0)) {e : Nat} {x2 x4 : Int32} (he : e < bE (im x)) (hE : bE (im x) ≤ 150) {P : Nat → Bool} (hP : P = fun i => decide (bed (im x) i 0 = bed (im x) e 0)) : ∀ d i k, i + d = e → d < k → fR_edition_l41 n k (nI e) x2 (nI (7220 + 70 * e)) x4 (nI (cnt P i)) (nI i) M = fR_edition_l41 n 1 (nI e) x2 (nI (7220 + 70 * e)) x4 (nI (cnt P e)) (nI e) M
  | 0, i, k, hi, hk => by
    obtain ⟨k, rfl⟩ : ∃ k', k = k' + 1 := ⟨k - 1, by omega⟩
    obtain rfl : i = e := by omega
    rw [fR_edition_l41, fR_edition_l41]
    simp (disch := omega) only [y_lt, y_nlt, y_le, y_nle, y_ne, y_eq, y_n0, y_00, y_l0, y_0l, y_le0, y_m1, y_m1', y_ml, y_m0, y_0m, y_mm, y_lem, y_mle, ↓reduceIte, if_true, if_false]
  | d + 1, i, k, hi, hk => by
    obtain ⟨k, rfl⟩ : ∃ k', k = k' + 1 := ⟨k - 1, by omega⟩
    rw [fR_edition_l41]
    simp (disch := omega) only [bnd_s, gf, pf, rd_at, wr_at, nI_add, pk_mul, Nat.add_zero, zt_0, zt_1, r_cellAt, r_editAt, r_objAt, y_lt, y_nlt, y_le, y_nle, y_ne, y_eq, y_n0, y_00, y_l0, y_0l, y_le0, y_m1, y_m1', y_ml, y_m0, y_0m, y_mm, y_lem, y_mle, ↓reduceIte, if_true, if_false, fR_edition_b77]
    have ih := r_older hR (x2 := x2) (x4 := x4) he hE hP d (i + 1) k (by omega) (by omega)
    have g1 : M 0 (7220 + 70 * i) = bed (im x) i 0 := ri_e0 hR (show i < bE (im x) by omega)
    have g2 : M 0 (7220 + 70 * e) = bed (im x) e 0 := ri_e0 hR he
    rw [g1, g2]
    by_cases hc : bed (im x) i 0 = bed (im x) e 0
    · rw [if_pos hc, ← cnt_t (P := P) (by rw [hP]; exact decide_eq_true hc)]; exact ih
    · rw [if_neg hc, ← cnt_f (P := P) (m := i) (by rw [hP]; simp [hc])]; exact ih
end KB
theorem op_edition (n : Nat) (hn : 1000 ≤ n) (a b : Int32) : OpS (f4_edition n a b) (fR_edition n a b) := by
  refine Op_ro (fun S x M h hM => ?_)
  obtain ⟨hW, hR, hT, hCm, hF⟩ := hM
  have hB := hW.1
  unfold f4_edition fR_edition
  rcases i_cases a with ha | ⟨e, he0, rfl⟩
  · simp (disch := omega) only [b_has_n n (show 6 < 8 by decide) ha, r_isEdition_n n M ha, bnd_s, gf, pf, rd_at, wr_at, nI_add, pk_mul, Nat.add_zero, zt_0, zt_1, r_cellAt, r_editAt, r_objAt, y_lt, y_nlt, y_le, y_nle, y_ne, y_eq, y_n0, y_00, y_l0, y_0l, y_le0, y_m1, y_m1', y_ml, y_m0, y_0m, y_mm, y_lem, y_mle, ↓reduceIte, if_true, if_false]
    exact ⟨_, rfl, rfl⟩
  · by_cases he : e < bE (im x)
    · obtain ⟨⟨j, hj, hj2⟩, _, hs, _, hcl⟩ := hW.2.2.1 e he
      have ho := fun x2 x4 => r_older n hR (x2 := x2) (x4 := x4) he (by omega) (P := fun i => decide (bed (im x) i 0 = bed (im x) e 0)) rfl e 0 n (by omega) (by omega)
      have hk := xk_older n h he (by omega) (P := fun i => decide (bed (im x) i 0 = bed (im x) e 0)) rfl e 0 n (by omega) (by omega)
      rw [cnt] at hk
      simp only [cnt] at ho
      have g1 : M 0 (7220 + 70 * e) = nI j := by rw [ri_e0 hR he, hj2]
      have gm := fun hc => (hR.2.2.1 e he).2 hc
      have km := xk_made n h hB.2.2 (e := e) (bO (im x)) 0 n (by omega) (by omega)
      rw [cnt] at km
      have gp := wf_rp hW hR he
      rw [xh6 n h he0, if_pos he, if_neg n1_0, xk_isClass n h he hB.2.1, bnd_s, r_isEdition n M he0 (by omega) hR.1.2.1, if_pos he, bnd_s, if_neg n1_0, r_editAt, bnd_s, nI_add, rd_at (by omega) (by decide), ri_e1 hR he]
      unfold fR_edition_b33
      rw [ho, ho, fR_edition_l41, fR_edition_l41, if_pos (Int32.le_refl _), if_pos (Int32.le_refl _)]
      have hh : (b = nI 0 ∨ b = nI 1 ∨ b = nI 2 ∨ b = nI 3) ∨ (b = nI 4 ∨ b = nI 5 ∨ b = nI 6 ∨ b = nI 7) ∨ (¬ b = nI 0 ∧ ¬ b = nI 1 ∧ ¬ b = nI 2 ∧ ¬ b = nI 3 ∧ ¬ b = nI 4 ∧ ¬ b = nI 5 ∧ ¬ b = nI 6 ∧ ¬ b = nI 7) := by
        by_cases b0 : b = nI 0
        · exact Or.inl (Or.inl b0)
        by_cases b1 : b = nI 1
        · exact Or.inl (Or.inr (Or.inl b1))
        by_cases b2 : b = nI 2
        · exact Or.inl (Or.inr (Or.inr (Or.inl b2)))
        by_cases b3 : b = nI 3
        · exact Or.inl (Or.inr (Or.inr (Or.inr b3)))
        by_cases b4 : b = nI 4
        · exact Or.inr (Or.inl (Or.inl b4))
        by_cases b5 : b = nI 5
        · exact Or.inr (Or.inl (Or.inr (Or.inl b5)))
        by_cases b6 : b = nI 6
        · exact Or.inr (Or.inl (Or.inr (Or.inr (Or.inl b6))))
        by_cases b7 : b = nI 7
        · exact Or.inr (Or.inl (Or.inr (Or.inr (Or.inr b7))))
        exact Or.inr (Or.inr ⟨b0, b1, b2, b3, b4, b5, b6, b7⟩)
      by_cases hc : bed (im x) e 2 = nI 1
      · have gm := gm hc
        have gp : M 0 (7228 + 70 * e) = bed (im x) e 5 := by rw [gp hc, wf_ni hW he hc]
        rcases hh with (rfl | rfl | rfl | rfl) | (rfl | rfl | rfl | rfl) | ⟨b0, b1, b2, b3, b4, b5, b6, b7⟩
        · simp (disch := omega) only [bnd_s, xg0 _ h, xg1 _ h, xg2 _ h, xg3 _ h, xg4 _ h, xg5 _ h, xg6 _ h, xg7 _ h, xz0 _ h, xz1 _ h, xz2 _ h, xz3 _ h, xz4 _ h, xz5 _ h, xz6 _ h, xz7 _ h, xh5 _ h, xh6 _ h, xh7 _ h, xcg h, xcr h, nI_add, pk_mul, Nat.add_zero, zt_0, zt_1, bnd_s, gf, pf, rd_at, wr_at, nI_add, pk_mul, Nat.add_zero, zt_0, zt_1, r_cellAt, r_editAt, r_objAt, y_lt, y_nlt, y_le, y_nle, y_ne, y_eq, y_n0, y_00, y_l0, y_0l, y_le0, y_m1, y_m1', y_ml, y_m0, y_0m, y_mm, y_lem, y_mle, ↓reduceIte, if_true, if_false, hc, ri_e0 hR he]
          exact ⟨_, rfl, rfl⟩
        · simp (disch := omega) only [bnd_s, xg0 _ h, xg1 _ h, xg2 _ h, xg3 _ h, xg4 _ h, xg5 _ h, xg6 _ h, xg7 _ h, xz0 _ h, xz1 _ h, xz2 _ h, xz3 _ h, xz4 _ h, xz5 _ h, xz6 _ h, xz7 _ h, xh5 _ h, xh6 _ h, xh7 _ h, xcg h, xcr h, nI_add, pk_mul, Nat.add_zero, zt_0, zt_1, bnd_s, gf, pf, rd_at, wr_at, nI_add, pk_mul, Nat.add_zero, zt_0, zt_1, r_cellAt, r_editAt, r_objAt, y_lt, y_nlt, y_le, y_nle, y_ne, y_eq, y_n0, y_00, y_l0, y_0l, y_le0, y_m1, y_m1', y_ml, y_m0, y_0m, y_mm, y_lem, y_mle, ↓reduceIte, if_true, if_false, hc, f0_countOlder, hk]
          exact ⟨_, rfl, rfl⟩
        · simp (disch := omega) only [bnd_s, xg0 _ h, xg1 _ h, xg2 _ h, xg3 _ h, xg4 _ h, xg5 _ h, xg6 _ h, xg7 _ h, xz0 _ h, xz1 _ h, xz2 _ h, xz3 _ h, xz4 _ h, xz5 _ h, xz6 _ h, xz7 _ h, xh5 _ h, xh6 _ h, xh7 _ h, xcg h, xcr h, nI_add, pk_mul, Nat.add_zero, zt_0, zt_1, bnd_s, gf, pf, rd_at, wr_at, nI_add, pk_mul, Nat.add_zero, zt_0, zt_1, r_cellAt, r_editAt, r_objAt, y_lt, y_nlt, y_le, y_nle, y_ne, y_eq, y_n0, y_00, y_l0, y_0l, y_le0, y_m1, y_m1', y_ml, y_m0, y_0m, y_mm, y_lem, y_mle, ↓reduceIte, if_true, if_false, hc, ri_e2 hR he]
          exact ⟨_, rfl, rfl⟩
        · simp (disch := omega) only [bnd_s, xg0 _ h, xg1 _ h, xg2 _ h, xg3 _ h, xg4 _ h, xg5 _ h, xg6 _ h, xg7 _ h, xz0 _ h, xz1 _ h, xz2 _ h, xz3 _ h, xz4 _ h, xz5 _ h, xz6 _ h, xz7 _ h, xh5 _ h, xh6 _ h, xh7 _ h, xcg h, xcr h, nI_add, pk_mul, Nat.add_zero, zt_0, zt_1, bnd_s, gf, pf, rd_at, wr_at, nI_add, pk_mul, Nat.add_zero, zt_0, zt_1, r_cellAt, r_editAt, r_objAt, y_lt, y_nlt, y_le, y_nle, y_ne, y_eq, y_n0, y_00, y_l0, y_0l, y_le0, y_m1, y_m1', y_ml, y_m0, y_0m, y_mm, y_lem, y_mle, ↓reduceIte, if_true, if_false, hc, ri_e1 hR he]
          exact ⟨_, rfl, rfl⟩
        · simp (disch := omega) only [bnd_s, xg0 _ h, xg1 _ h, xg2 _ h, xg3 _ h, xg4 _ h, xg5 _ h, xg6 _ h, xg7 _ h, xz0 _ h, xz1 _ h, xz2 _ h, xz3 _ h, xz4 _ h, xz5 _ h, xz6 _ h, xz7 _ h, xh5 _ h, xh6 _ h, xh7 _ h, xcg h, xcr h, nI_add, pk_mul, Nat.add_zero, zt_0, zt_1, bnd_s, gf, pf, rd_at, wr_at, nI_add, pk_mul, Nat.add_zero, zt_0, zt_1, r_cellAt, r_editAt, r_objAt, y_lt, y_nlt, y_le, y_nle, y_ne, y_eq, y_n0, y_00, y_l0, y_0l, y_le0, y_m1, y_m1', y_ml, y_m0, y_0m, y_mm, y_lem, y_mle, ↓reduceIte, if_true, if_false, hc, g1, xk_isNewest n h hW he hj hj2, r_newest n M hj, hR.1.2.2.2 j hj, p1_m1]
          by_cases hw : bnw (im x) j = nI e
          · simp (disch := omega) only [y_lt, y_nlt, y_le, y_nle, y_ne, y_eq, y_n0, y_00, y_l0, y_0l, y_le0, y_m1, y_m1', y_ml, y_m0, y_0m, y_mm, y_lem, y_mle, ↓reduceIte, if_true, if_false, hw]
            exact ⟨_, rfl, rfl⟩
          · simp (disch := omega) only [y_lt, y_nlt, y_le, y_nle, y_ne, y_eq, y_n0, y_00, y_l0, y_0l, y_le0, y_m1, y_m1', y_ml, y_m0, y_0m, y_mm, y_lem, y_mle, ↓reduceIte, if_true, if_false, hw]
            exact ⟨_, rfl, rfl⟩
        · simp (disch := omega) only [bnd_s, xg0 _ h, xg1 _ h, xg2 _ h, xg3 _ h, xg4 _ h, xg5 _ h, xg6 _ h, xg7 _ h, xz0 _ h, xz1 _ h, xz2 _ h, xz3 _ h, xz4 _ h, xz5 _ h, xz6 _ h, xz7 _ h, xh5 _ h, xh6 _ h, xh7 _ h, xcg h, xcr h, nI_add, pk_mul, Nat.add_zero, zt_0, zt_1, bnd_s, gf, pf, rd_at, wr_at, nI_add, pk_mul, Nat.add_zero, zt_0, zt_1, r_cellAt, r_editAt, r_objAt, y_lt, y_nlt, y_le, y_nle, y_ne, y_eq, y_n0, y_00, y_l0, y_0l, y_le0, y_m1, y_m1', y_ml, y_m0, y_0m, y_mm, y_lem, y_mle, ↓reduceIte, if_true, if_false, hc, f4_edition_b154, r_parentOf n M (show e < 150 by omega), gp]
          exact ⟨_, rfl, rfl⟩
        · simp (disch := omega) only [bnd_s, xg0 _ h, xg1 _ h, xg2 _ h, xg3 _ h, xg4 _ h, xg5 _ h, xg6 _ h, xg7 _ h, xz0 _ h, xz1 _ h, xz2 _ h, xz3 _ h, xz4 _ h, xz5 _ h, xz6 _ h, xz7 _ h, xh5 _ h, xh6 _ h, xh7 _ h, xcg h, xcr h, nI_add, pk_mul, Nat.add_zero, zt_0, zt_1, bnd_s, gf, pf, rd_at, wr_at, nI_add, pk_mul, Nat.add_zero, zt_0, zt_1, r_cellAt, r_editAt, r_objAt, y_lt, y_nlt, y_le, y_nle, y_ne, y_eq, y_n0, y_00, y_l0, y_0l, y_le0, y_m1, y_m1', y_ml, y_m0, y_0m, y_mm, y_lem, y_mle, ↓reduceIte, if_true, if_false, hc, f4_edition_b176, ri_e5 hR he]
          exact ⟨_, rfl, rfl⟩
        · simp (disch := omega) only [bnd_s, xg0 _ h, xg1 _ h, xg2 _ h, xg3 _ h, xg4 _ h, xg5 _ h, xg6 _ h, xg7 _ h, xz0 _ h, xz1 _ h, xz2 _ h, xz3 _ h, xz4 _ h, xz5 _ h, xz6 _ h, xz7 _ h, xh5 _ h, xh6 _ h, xh7 _ h, xcg h, xcr h, nI_add, pk_mul, Nat.add_zero, zt_0, zt_1, bnd_s, gf, pf, rd_at, wr_at, nI_add, pk_mul, Nat.add_zero, zt_0, zt_1, r_cellAt, r_editAt, r_objAt, y_lt, y_nlt, y_le, y_nle, y_ne, y_eq, y_n0, y_00, y_l0, y_0l, y_le0, y_m1, y_m1', y_ml, y_m0, y_0m, y_mm, y_lem, y_mle, ↓reduceIte, if_true, if_false, hc, f0_countMadeOf, km, gm]
          exact ⟨_, rfl, rfl⟩
        · simp only [b0, b1, b2, b3, b4, b5, b6, b7, hc, if_true, if_false]
          exact ⟨_, rfl, rfl⟩
      · rcases hh with (rfl | rfl | rfl | rfl) | (rfl | rfl | rfl | rfl) | ⟨b0, b1, b2, b3, b4, b5, b6, b7⟩
        · simp (disch := omega) only [bnd_s, xg0 _ h, xg1 _ h, xg2 _ h, xg3 _ h, xg4 _ h, xg5 _ h, xg6 _ h, xg7 _ h, xz0 _ h, xz1 _ h, xz2 _ h, xz3 _ h, xz4 _ h, xz5 _ h, xz6 _ h, xz7 _ h, xh5 _ h, xh6 _ h, xh7 _ h, xcg h, xcr h, nI_add, pk_mul, Nat.add_zero, zt_0, zt_1, bnd_s, gf, pf, rd_at, wr_at, nI_add, pk_mul, Nat.add_zero, zt_0, zt_1, r_cellAt, r_editAt, r_objAt, y_lt, y_nlt, y_le, y_nle, y_ne, y_eq, y_n0, y_00, y_l0, y_0l, y_le0, y_m1, y_m1', y_ml, y_m0, y_0m, y_mm, y_lem, y_mle, ↓reduceIte, if_true, if_false, hc, ri_e0 hR he]
          exact ⟨_, rfl, rfl⟩
        · simp (disch := omega) only [bnd_s, xg0 _ h, xg1 _ h, xg2 _ h, xg3 _ h, xg4 _ h, xg5 _ h, xg6 _ h, xg7 _ h, xz0 _ h, xz1 _ h, xz2 _ h, xz3 _ h, xz4 _ h, xz5 _ h, xz6 _ h, xz7 _ h, xh5 _ h, xh6 _ h, xh7 _ h, xcg h, xcr h, nI_add, pk_mul, Nat.add_zero, zt_0, zt_1, bnd_s, gf, pf, rd_at, wr_at, nI_add, pk_mul, Nat.add_zero, zt_0, zt_1, r_cellAt, r_editAt, r_objAt, y_lt, y_nlt, y_le, y_nle, y_ne, y_eq, y_n0, y_00, y_l0, y_0l, y_le0, y_m1, y_m1', y_ml, y_m0, y_0m, y_mm, y_lem, y_mle, ↓reduceIte, if_true, if_false, hc, f0_countOlder, hk]
          exact ⟨_, rfl, rfl⟩
        · simp (disch := omega) only [bnd_s, xg0 _ h, xg1 _ h, xg2 _ h, xg3 _ h, xg4 _ h, xg5 _ h, xg6 _ h, xg7 _ h, xz0 _ h, xz1 _ h, xz2 _ h, xz3 _ h, xz4 _ h, xz5 _ h, xz6 _ h, xz7 _ h, xh5 _ h, xh6 _ h, xh7 _ h, xcg h, xcr h, nI_add, pk_mul, Nat.add_zero, zt_0, zt_1, bnd_s, gf, pf, rd_at, wr_at, nI_add, pk_mul, Nat.add_zero, zt_0, zt_1, r_cellAt, r_editAt, r_objAt, y_lt, y_nlt, y_le, y_nle, y_ne, y_eq, y_n0, y_00, y_l0, y_0l, y_le0, y_m1, y_m1', y_ml, y_m0, y_0m, y_mm, y_lem, y_mle, ↓reduceIte, if_true, if_false, hc, ri_e2 hR he]
          exact ⟨_, rfl, rfl⟩
        · simp (disch := omega) only [bnd_s, xg0 _ h, xg1 _ h, xg2 _ h, xg3 _ h, xg4 _ h, xg5 _ h, xg6 _ h, xg7 _ h, xz0 _ h, xz1 _ h, xz2 _ h, xz3 _ h, xz4 _ h, xz5 _ h, xz6 _ h, xz7 _ h, xh5 _ h, xh6 _ h, xh7 _ h, xcg h, xcr h, nI_add, pk_mul, Nat.add_zero, zt_0, zt_1, bnd_s, gf, pf, rd_at, wr_at, nI_add, pk_mul, Nat.add_zero, zt_0, zt_1, r_cellAt, r_editAt, r_objAt, y_lt, y_nlt, y_le, y_nle, y_ne, y_eq, y_n0, y_00, y_l0, y_0l, y_le0, y_m1, y_m1', y_ml, y_m0, y_0m, y_mm, y_lem, y_mle, ↓reduceIte, if_true, if_false, hc, ri_e1 hR he]
          exact ⟨_, rfl, rfl⟩
        · simp (disch := omega) only [bnd_s, xg0 _ h, xg1 _ h, xg2 _ h, xg3 _ h, xg4 _ h, xg5 _ h, xg6 _ h, xg7 _ h, xz0 _ h, xz1 _ h, xz2 _ h, xz3 _ h, xz4 _ h, xz5 _ h, xz6 _ h, xz7 _ h, xh5 _ h, xh6 _ h, xh7 _ h, xcg h, xcr h, nI_add, pk_mul, Nat.add_zero, zt_0, zt_1, bnd_s, gf, pf, rd_at, wr_at, nI_add, pk_mul, Nat.add_zero, zt_0, zt_1, r_cellAt, r_editAt, r_objAt, y_lt, y_nlt, y_le, y_nle, y_ne, y_eq, y_n0, y_00, y_l0, y_0l, y_le0, y_m1, y_m1', y_ml, y_m0, y_0m, y_mm, y_lem, y_mle, ↓reduceIte, if_true, if_false, hc, g1, xk_isNewest n h hW he hj hj2, r_newest n M hj, hR.1.2.2.2 j hj, p1_m1]
          by_cases hw : bnw (im x) j = nI e
          · simp (disch := omega) only [y_lt, y_nlt, y_le, y_nle, y_ne, y_eq, y_n0, y_00, y_l0, y_0l, y_le0, y_m1, y_m1', y_ml, y_m0, y_0m, y_mm, y_lem, y_mle, ↓reduceIte, if_true, if_false, hw]
            exact ⟨_, rfl, rfl⟩
          · simp (disch := omega) only [y_lt, y_nlt, y_le, y_nle, y_ne, y_eq, y_n0, y_00, y_l0, y_0l, y_le0, y_m1, y_m1', y_ml, y_m0, y_0m, y_mm, y_lem, y_mle, ↓reduceIte, if_true, if_false, hw]
            exact ⟨_, rfl, rfl⟩
        · simp (disch := omega) only [bnd_s, xg0 _ h, xg1 _ h, xg2 _ h, xg3 _ h, xg4 _ h, xg5 _ h, xg6 _ h, xg7 _ h, xz0 _ h, xz1 _ h, xz2 _ h, xz3 _ h, xz4 _ h, xz5 _ h, xz6 _ h, xz7 _ h, xh5 _ h, xh6 _ h, xh7 _ h, xcg h, xcr h, nI_add, pk_mul, Nat.add_zero, zt_0, zt_1, bnd_s, gf, pf, rd_at, wr_at, nI_add, pk_mul, Nat.add_zero, zt_0, zt_1, r_cellAt, r_editAt, r_objAt, y_lt, y_nlt, y_le, y_nle, y_ne, y_eq, y_n0, y_00, y_l0, y_0l, y_le0, y_m1, y_m1', y_ml, y_m0, y_0m, y_mm, y_lem, y_mle, ↓reduceIte, if_true, if_false, hc, f4_edition_b154, ri_e3 hR he]
          exact ⟨_, rfl, rfl⟩
        · simp (disch := omega) only [bnd_s, xg0 _ h, xg1 _ h, xg2 _ h, xg3 _ h, xg4 _ h, xg5 _ h, xg6 _ h, xg7 _ h, xz0 _ h, xz1 _ h, xz2 _ h, xz3 _ h, xz4 _ h, xz5 _ h, xz6 _ h, xz7 _ h, xh5 _ h, xh6 _ h, xh7 _ h, xcg h, xcr h, nI_add, pk_mul, Nat.add_zero, zt_0, zt_1, bnd_s, gf, pf, rd_at, wr_at, nI_add, pk_mul, Nat.add_zero, zt_0, zt_1, r_cellAt, r_editAt, r_objAt, y_lt, y_nlt, y_le, y_nle, y_ne, y_eq, y_n0, y_00, y_l0, y_0l, y_le0, y_m1, y_m1', y_ml, y_m0, y_0m, y_mm, y_lem, y_mle, ↓reduceIte, if_true, if_false, hc, f4_edition_b176, ri_e4 hR he]
          exact ⟨_, rfl, rfl⟩
        · simp (disch := omega) only [bnd_s, xg0 _ h, xg1 _ h, xg2 _ h, xg3 _ h, xg4 _ h, xg5 _ h, xg6 _ h, xg7 _ h, xz0 _ h, xz1 _ h, xz2 _ h, xz3 _ h, xz4 _ h, xz5 _ h, xz6 _ h, xz7 _ h, xh5 _ h, xh6 _ h, xh7 _ h, xcg h, xcr h, nI_add, pk_mul, Nat.add_zero, zt_0, zt_1, bnd_s, gf, pf, rd_at, wr_at, nI_add, pk_mul, Nat.add_zero, zt_0, zt_1, r_cellAt, r_editAt, r_objAt, y_lt, y_nlt, y_le, y_nle, y_ne, y_eq, y_n0, y_00, y_l0, y_0l, y_le0, y_m1, y_m1', y_ml, y_m0, y_0m, y_mm, y_lem, y_mle, ↓reduceIte, if_true, if_false, hc]
          exact ⟨_, rfl, rfl⟩
        · simp only [b0, b1, b2, b3, b4, b5, b6, b7, hc, if_true, if_false]
          exact ⟨_, rfl, rfl⟩
    · rw [xh6 n h he0, if_neg he, if_pos n0_0, r_isEdition n M he0 (by omega) hR.1.2.1, if_neg he, bnd_s, if_pos n0_0]
      exact ⟨_, rfl, rfl⟩
theorem op_is (n : Nat) (hn : 1000 ≤ n) (a b : Int32) : OpS (f4_is n a b) (fR_is n a b) := by
  refine Op_ro (fun S x M h hM => ?_)
  obtain ⟨hW, hR, hT, hCm, hF⟩ := hM
  have hB := hW.1
  unfold f4_is fR_is
  rcases i_cases a with ha | ⟨o, ho0, rfl⟩
  · simp (disch := omega) only [b_has_n n (show 7 < 8 by decide) ha, r_isObject_n n M ha, bnd_s, gf, pf, rd_at, wr_at, nI_add, pk_mul, Nat.add_zero, zt_0, zt_1, r_cellAt, r_editAt, r_objAt, y_lt, y_nlt, y_le, y_nle, y_ne, y_eq, y_n0, y_00, y_l0, y_0l, y_le0, y_m1, y_m1', y_ml, y_m0, y_0m, y_mm, y_lem, y_mle, ↓reduceIte, if_true, if_false]
    exact ⟨_, rfl, rfl⟩
  · by_cases ho : o < bO (im x)
    · rcases i_cases b with hb | ⟨e, he0, rfl⟩
      · simp (disch := omega) only [bnd_s, xg0 _ h, xg1 _ h, xg2 _ h, xg3 _ h, xg4 _ h, xg5 _ h, xg6 _ h, xg7 _ h, xz0 _ h, xz1 _ h, xz2 _ h, xz3 _ h, xz4 _ h, xz5 _ h, xz6 _ h, xz7 _ h, xh5 _ h, xh6 _ h, xh7 _ h, xcg h, xcr h, nI_add, pk_mul, Nat.add_zero, zt_0, zt_1, b_has_n n (show 6 < 8 by decide) hb, r_isObject n M _ _ hR.1.2.2.1, fR_isClass, r_isEdition_n n M hb, bnd_s, gf, pf, rd_at, wr_at, nI_add, pk_mul, Nat.add_zero, zt_0, zt_1, r_cellAt, r_editAt, r_objAt, y_lt, y_nlt, y_le, y_nle, y_ne, y_eq, y_n0, y_00, y_l0, y_0l, y_le0, y_m1, y_m1', y_ml, y_m0, y_0m, y_mm, y_lem, y_mle, ↓reduceIte, if_true, if_false, ho]
        exact ⟨_, rfl, rfl⟩
      · by_cases he : e < bE (im x)
        · obtain ⟨⟨c, ⟨hc1, hc2⟩, hc3⟩, _⟩ := hW.2.2.2.1 o ho
          by_cases hcl : bed (im x) e 2 = nI 1
          · simp (disch := omega) only [bnd_s, xg0 _ h, xg1 _ h, xg2 _ h, xg3 _ h, xg4 _ h, xg5 _ h, xg6 _ h, xg7 _ h, xz0 _ h, xz1 _ h, xz2 _ h, xz3 _ h, xz4 _ h, xz5 _ h, xz6 _ h, xz7 _ h, xh5 _ h, xh6 _ h, xh7 _ h, xcg h, xcr h, nI_add, pk_mul, Nat.add_zero, zt_0, zt_1, r_isObject n M _ _ hR.1.2.2.1, r_isClass' n hR he, bnd_s, gf, pf, rd_at, wr_at, nI_add, pk_mul, Nat.add_zero, zt_0, zt_1, r_cellAt, r_editAt, r_objAt, y_lt, y_nlt, y_le, y_nle, y_ne, y_eq, y_n0, y_00, y_l0, y_0l, y_le0, y_m1, y_m1', y_ml, y_m0, y_0m, y_mm, y_lem, y_mle, ↓reduceIte, if_true, if_false, ho, he, hcl, ri_o0 hR ho, hc3, xk_below n hn h hW hc1 hc2, r_below' n hn hR hW hc1 hc2]
            split <;> simp (disch := omega) only [y_lt, y_nlt, y_le, y_nle, y_ne, y_eq, y_n0, y_00, y_l0, y_0l, y_le0, y_m1, y_m1', y_ml, y_m0, y_0m, y_mm, y_lem, y_mle, ↓reduceIte, if_true, if_false, zt_0, zt_1] <;> exact ⟨_, rfl, rfl⟩
          · have hb : ¬ bel (im x) c e = true := fun hh => hcl (belB_cls (wf_par hW) _ c hc1 hc2 hh)
            simp (disch := omega) only [bnd_s, xg0 _ h, xg1 _ h, xg2 _ h, xg3 _ h, xg4 _ h, xg5 _ h, xg6 _ h, xg7 _ h, xz0 _ h, xz1 _ h, xz2 _ h, xz3 _ h, xz4 _ h, xz5 _ h, xz6 _ h, xz7 _ h, xh5 _ h, xh6 _ h, xh7 _ h, xcg h, xcr h, nI_add, pk_mul, Nat.add_zero, zt_0, zt_1, r_isObject n M _ _ hR.1.2.2.1, r_isClass' n hR he, bnd_s, gf, pf, rd_at, wr_at, nI_add, pk_mul, Nat.add_zero, zt_0, zt_1, r_cellAt, r_editAt, r_objAt, y_lt, y_nlt, y_le, y_nle, y_ne, y_eq, y_n0, y_00, y_l0, y_0l, y_le0, y_m1, y_m1', y_ml, y_m0, y_0m, y_mm, y_lem, y_mle, ↓reduceIte, if_true, if_false, ho, he, hcl, hc3, xk_below n hn h hW hc1 hc2, hb]
            exact ⟨_, rfl, rfl⟩
        · simp (disch := omega) only [bnd_s, xg0 _ h, xg1 _ h, xg2 _ h, xg3 _ h, xg4 _ h, xg5 _ h, xg6 _ h, xg7 _ h, xz0 _ h, xz1 _ h, xz2 _ h, xz3 _ h, xz4 _ h, xz5 _ h, xz6 _ h, xz7 _ h, xh5 _ h, xh6 _ h, xh7 _ h, xcg h, xcr h, nI_add, pk_mul, Nat.add_zero, zt_0, zt_1, r_isObject n M _ _ hR.1.2.2.1, fR_isClass, r_isEdition n M _ _ hR.1.2.1, bnd_s, gf, pf, rd_at, wr_at, nI_add, pk_mul, Nat.add_zero, zt_0, zt_1, r_cellAt, r_editAt, r_objAt, y_lt, y_nlt, y_le, y_nle, y_ne, y_eq, y_n0, y_00, y_l0, y_0l, y_le0, y_m1, y_m1', y_ml, y_m0, y_0m, y_mm, y_lem, y_mle, ↓reduceIte, if_true, if_false, ho, he]
          exact ⟨_, rfl, rfl⟩
    · simp (disch := omega) only [bnd_s, xg0 _ h, xg1 _ h, xg2 _ h, xg3 _ h, xg4 _ h, xg5 _ h, xg6 _ h, xg7 _ h, xz0 _ h, xz1 _ h, xz2 _ h, xz3 _ h, xz4 _ h, xz5 _ h, xz6 _ h, xz7 _ h, xh5 _ h, xh6 _ h, xh7 _ h, xcg h, xcr h, nI_add, pk_mul, Nat.add_zero, zt_0, zt_1, r_isObject n M _ _ hR.1.2.2.1, bnd_s, gf, pf, rd_at, wr_at, nI_add, pk_mul, Nat.add_zero, zt_0, zt_1, r_cellAt, r_editAt, r_objAt, y_lt, y_nlt, y_le, y_nle, y_ne, y_eq, y_n0, y_00, y_l0, y_0l, y_le0, y_m1, y_m1', y_ml, y_m0, y_0m, y_mm, y_lem, y_mle, ↓reduceIte, if_true, if_false, ho]
      exact ⟨_, rfl, rfl⟩
