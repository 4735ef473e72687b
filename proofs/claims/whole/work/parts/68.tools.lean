theorem y_lem {a : Nat} (ha : a < 2147483648) : (nI a ≤ -1) = False := eq_false (fun (h : nI a ≤ -1) => by
  rw [Int32.le_iff_toInt_le, nI_toInt ha] at h
  have h2 : (-1 : Int32).toInt = -1 := by decide
  omega)
theorem y_mle {a : Nat} (ha : a < 2147483648) : ((-1 : Int32) ≤ nI a) = True := eq_true (m1_le a ha)
theorem y_neg {x : Int32} {a : Nat} (h : x < 0) (ha : a < 2147483648) : (x = nI a) = False := eq_false (fun e => nI_pos ha (e ▸ h))
theorem y_neg0 {x : Int32} (h : x < 0) : (x = 0) = False := eq_false (fun e => by rw [e] at h; exact absurd h (by decide))
theorem y_nle' {x : Int32} {a : Nat} (h : x < 0) (ha : a < 2147483648) : (x ≤ nI a) = True := eq_true (by
  rw [Int32.le_iff_toInt_le, nI_toInt ha]
  rw [Int32.lt_iff_toInt_lt] at h
  have h0 : (0 : Int32).toInt = 0 := by decide
  omega)
theorem y_nlt' {x : Int32} {a : Nat} (h : x < 0) (ha : a < 2147483648) : (x < nI a) = True := eq_true (by
  rw [Int32.lt_iff_toInt_lt, nI_toInt ha]
  rw [Int32.lt_iff_toInt_lt] at h
  have h0 : (0 : Int32).toInt = 0 := by decide
  omega)
theorem y_gt' {x : Int32} {a : Nat} (h : x < 0) (ha : a < 2147483648) : (nI a ≤ x) = False := eq_false (fun e => by
  rw [Int32.le_iff_toInt_le, nI_toInt ha] at e
  rw [Int32.lt_iff_toInt_lt] at h
  have h0 : (0 : Int32).toInt = 0 := by decide
  omega)
-- ===== reading the class's state =====
section TT
variable {ρ : Type} {S : CS} {x : X} (n : Nat) {K : Int32 → CS → Option ρ}
theorem x_get {k i c : Nat} (h : CR S x) (hk : k < 8) (hi : i < x.2.1 k) (hc : c < wk k) : bT k S (f2_get n (nI i) (nI c) (tOf k S)) K = K (x.2.2.1 k i c) S := by
  rw [b_get n hk (h.2.1 k hk) hi hc, h.2.2.1 k i c hk hi hc]
theorem xg0 (h : CR S x) {i c : Nat} (hi : i < x.2.1 0) (hc : c < 2) : bT 0 S (f2_get n (nI i) (nI c) (tOf 0 S)) K = K (x.2.2.1 0 i c) S := x_get n h (by decide) hi hc
theorem xg1 (h : CR S x) {i c : Nat} (hi : i < x.2.1 1) (hc : c < 3) : bT 1 S (f2_get n (nI i) (nI c) (tOf 1 S)) K = K (x.2.2.1 1 i c) S := x_get n h (by decide) hi hc
theorem xg2 (h : CR S x) {i c : Nat} (hi : i < x.2.1 2) (hc : c < 2) : bT 2 S (f2_get n (nI i) (nI c) (tOf 2 S)) K = K (x.2.2.1 2 i c) S := x_get n h (by decide) hi hc
theorem xg3 (h : CR S x) {i c : Nat} (hi : i < x.2.1 3) (hc : c < 2) : bT 3 S (f2_get n (nI i) (nI c) (tOf 3 S)) K = K (x.2.2.1 3 i c) S := x_get n h (by decide) hi hc
theorem xg4 (h : CR S x) {i c : Nat} (hi : i < x.2.1 4) (hc : c < 8) : bT 4 S (f2_get n (nI i) (nI c) (tOf 4 S)) K = K (x.2.2.1 4 i c) S := x_get n h (by decide) hi hc
theorem xg5 (h : CR S x) {i c : Nat} (hi : i < bC (im x)) (hc : c < 125) : bT 5 S (f2_get n (nI i) (nI c) (tOf 5 S)) K = K (bce (im x) i c) S := x_get n h (by decide) hi hc
theorem xg6 (h : CR S x) {i c : Nat} (hi : i < bE (im x)) (hc : c < 104) : bT 6 S (f2_get n (nI i) (nI c) (tOf 6 S)) K = K (bed (im x) i c) S := x_get n h (by decide) hi hc
theorem xg7 (h : CR S x) {i c : Nat} (hi : i < bO (im x)) (hc : c < 21) : bT 7 S (f2_get n (nI i) (nI c) (tOf 7 S)) K = K (bob (im x) i c) S := x_get n h (by decide) hi hc
theorem x_size {k : Nat} (h : CR S x) (hk : k < 8) : bT k S (f2_size n (tOf k S)) K = K (nI (x.2.1 k)) S := b_size n hk (h.2.1 k hk) K
theorem xz0 (h : CR S x) : bT 0 S (f2_size n (tOf 0 S)) K = K (nI (x.2.1 0)) S := x_size n h (by decide)
theorem xz1 (h : CR S x) : bT 1 S (f2_size n (tOf 1 S)) K = K (nI (x.2.1 1)) S := x_size n h (by decide)
theorem xz2 (h : CR S x) : bT 2 S (f2_size n (tOf 2 S)) K = K (nI (x.2.1 2)) S := x_size n h (by decide)
theorem xz3 (h : CR S x) : bT 3 S (f2_size n (tOf 3 S)) K = K (nI (x.2.1 3)) S := x_size n h (by decide)
theorem xz4 (h : CR S x) : bT 4 S (f2_size n (tOf 4 S)) K = K (nI (x.2.1 4)) S := x_size n h (by decide)
theorem xz5 (h : CR S x) : bT 5 S (f2_size n (tOf 5 S)) K = K (nI (bC (im x))) S := x_size n h (by decide)
theorem xz6 (h : CR S x) : bT 6 S (f2_size n (tOf 6 S)) K = K (nI (bE (im x))) S := x_size n h (by decide)
theorem xz7 (h : CR S x) : bT 7 S (f2_size n (tOf 7 S)) K = K (nI (bO (im x))) S := x_size n h (by decide)
theorem xh5 (h : CR S x) {i : Nat} (hi : i < 2147483648) : bT 5 S (f2_has n (nI i) (tOf 5 S)) K = K (if i < bC (im x) then nI 1 else nI 0) S := b_has n (by decide) (h.2.1 5 (by decide)) hi K
theorem xh6 (h : CR S x) {i : Nat} (hi : i < 2147483648) : bT 6 S (f2_has n (nI i) (tOf 6 S)) K = K (if i < bE (im x) then nI 1 else nI 0) S := b_has n (by decide) (h.2.1 6 (by decide)) hi K
theorem xh7 (h : CR S x) {i : Nat} (hi : i < 2147483648) : bT 7 S (f2_has n (nI i) (tOf 7 S)) K = K (if i < bO (im x) then nI 1 else nI 0) S := b_has n (by decide) (h.2.1 7 (by decide)) hi K
theorem xcg (h : CR S x) {a : Nat} {K : Int32 → Option ρ} (ha : a < 30) : cg S a K = K (x.1 a 0) := by unfold cg; rw [h.1 a ha]
theorem xcr (h : CR S x) {a len i : Nat} {K : Int32 → Option ρ} (ha : a < 30) (hi : i < len) (hl : len < 2147483648) : cr S a len (nI i) K = K (x.1 a i) := by rw [cr_at hi hl, h.1 a ha]
end TT
theorem CR_ext {S : CS} {x x' : X} (h : CR S x) (h1 : ∀ a, a < 30 → x'.1 a = x.1 a) (h2 : ∀ k, k < 8 → x'.2.1 k = x.2.1 k) (h3 : ∀ k r c, k < 8 → r < x.2.1 k → c < wk k → x'.2.2.1 k r c = x.2.2.1 k r c) (h4 : x'.2.2.2 = x.2.2.2) : CR S x' := by
  obtain ⟨g1, g2, g3, g4⟩ := h
  refine ⟨fun a ha => by rw [h1 a ha, g1 a ha], fun k hk => by rw [h2 k hk]; exact g2 k hk, fun k r c hk hr hc => ?_, by rw [h4]; exact g4⟩
  rw [h2 k hk] at hr
  rw [h3 k r c hk hr hc, g3 k r c hk hr hc]
-- ===== the relation between the two states; a call that keeps it =====
def Tp (x : X) (M : MR) : Prop := ∃ t, t ≤ 60 ∧ x.1 1 0 = nI t ∧ M 3 0 = nI t ∧ ∀ i, i < t → M 2 i = x.1 0 i
def Cm (x : X) (M : MR) : Prop := M 30 0 = x.1 2 0 ∧ M 31 0 = x.1 3 0 ∧ M 32 0 = x.1 4 0 ∧ M 33 0 = x.1 5 0
def Mn (x : X) (M : MR) : Prop := WF (im x) ∧ RelI (im x) (M 0) ∧ Tp x M ∧ Cm x M ∧ Fz (im x)
def InvK (K : (Nat → Option CS) → (Nat → Int32) → (Nat → Int32) → Nat × Nat → Prop) (S : CS) (k : Nat → Option CS) (M : MR) : Prop := ∃ x, CR S x ∧ Mn x M ∧ K k (M 1) (fun i => M 0 (20870 + i)) x.2.2.2
def OpS (FC : CS → Option (Int32 × CS)) (FR : MR → Option (Int32 × MR)) : Prop := ∀ S x M, CR S x → Mn x M → ∃ r S' x' M', FC S = some (r, S') ∧ FR M = some (r, M') ∧ CR S' x' ∧ Mn x' M' ∧ x'.2.2.2 = x.2.2.2 ∧ M' 1 = M 1 ∧ ∀ i, 20870 ≤ i → M' 0 i = M 0 i
theorem Op_ro {FC : CS → Option (Int32 × CS)} {FR : MR → Option (Int32 × MR)} (h : ∀ S x M, CR S x → Mn x M → ∃ r, FC S = some (r, S) ∧ FR M = some (r, M))   : OpS FC FR := by
  intro S x M hC hM
  obtain ⟨r, h1, h2⟩ := h S x M hC hM
  exact ⟨r, S, x, M, h1, h2, hC, hM, rfl, rfl, fun _ _ => rfl⟩
theorem Op_inv {K : (Nat → Option CS) → (Nat → Int32) → (Nat → Int32) → Nat × Nat → Prop} {FC : CS → Option (Int32 × CS)} {FR : MR → Option (Int32 × MR)} (h   : OpS FC FR) (S : CS) (k : Nat → Option CS) (M : MR) (hI : InvK K S k M) : ∃ r S' M', FC S = some (r, S') ∧ FR M = some (r, M') ∧ InvK K S' k M' := by
  obtain ⟨x, hC, hM, hK⟩ := hI
  obtain ⟨r, S', x', M', h1, h2, h3, h4, h5, h6, h7⟩ := h S x M hC hM
  refine ⟨r, S', M', h1, h2, x', h3, h4, ?_⟩
  rw [h5, h6, show (fun i => M' 0 (20870 + i)) = (fun i => M 0 (20870 + i)) from funext fun i => h7 _ (by omega)]
  exact hK
-- ===== the calls that only tell =====
section TELL
variable (n : Nat)
theorem op_newest (a : Int32) : OpS (f4_newest n a) (fR_newest n a) := by
  refine Op_ro (fun S x M h hM => ?_)
  obtain ⟨hW, hR, hT, hCm, hF⟩ := hM
  unfold f4_newest
  by_cases ho : a < 0 ∨ nI 16 ≤ a
  · rw [r_newest_o n M ho, q_newestOf_o n S ho, bnd_s]
    exact ⟨_, rfl, rfl⟩
  · rcases i_cases a with ha | ⟨c, hc, rfl⟩
    · exact absurd (Or.inl ha) ho
    have hj : c < 16 := by
      refine Nat.lt_of_not_le (fun hh => ho (Or.inr (nI_le hh hc)))
    rw [r_newest n M hj, q_newestOf n S hj, bnd_s, hR.1.2.2.2 c hj, p1_m1, h.1 20 (by decide)]
    exact ⟨_, rfl, rfl⟩
theorem op_count (a : Int32) : OpS (f4_count n a) (fR_count n a) := by
  refine Op_ro (fun S x M h hM => ?_)
  obtain ⟨hW, hR, ⟨t, ht, ht1, ht2, ht3⟩, hCm, hF⟩ := hM
  have h0 := hR.1.1
  have h1 := hR.1.2.1
  have h2 := hR.1.2.2.1
  unfold f4_count fR_count
  by_cases c0 : a = nI 0
  · subst c0
    simp (disch := omega) only [bnd_s, xg0 _ h, xg1 _ h, xg2 _ h, xg3 _ h, xg4 _ h, xg5 _ h, xg6 _ h, xg7 _ h, xz0 _ h, xz1 _ h, xz2 _ h, xz3 _ h, xz4 _ h, xz5 _ h, xz6 _ h, xz7 _ h, xh5 _ h, xh6 _ h, xh7 _ h, xcg h, xcr h, nI_add, pk_mul, Nat.add_zero, zt_0, zt_1, bnd_s, gf, pf, rd_at, wr_at, nI_add, pk_mul, Nat.add_zero, zt_0, zt_1, r_cellAt, r_editAt, r_objAt, y_lt, y_nlt, y_le, y_nle, y_ne, y_eq, y_n0, y_00, y_l0, y_0l, y_le0, y_m1, y_m1', y_ml, y_m0, y_0m, y_mm, y_lem, y_mle, ↓reduceIte, if_true, if_false, h0, h1, h2]
    exact ⟨_, rfl, rfl⟩
  · have c00 : ¬ a = 0 := fun e => c0 (by rw [e, nI_0])
    by_cases c1 : a = nI 1
    · subst c1
      simp (disch := omega) only [bnd_s, xg0 _ h, xg1 _ h, xg2 _ h, xg3 _ h, xg4 _ h, xg5 _ h, xg6 _ h, xg7 _ h, xz0 _ h, xz1 _ h, xz2 _ h, xz3 _ h, xz4 _ h, xz5 _ h, xz6 _ h, xz7 _ h, xh5 _ h, xh6 _ h, xh7 _ h, xcg h, xcr h, nI_add, pk_mul, Nat.add_zero, zt_0, zt_1, bnd_s, gf, pf, rd_at, wr_at, nI_add, pk_mul, Nat.add_zero, zt_0, zt_1, r_cellAt, r_editAt, r_objAt, y_lt, y_nlt, y_le, y_nle, y_ne, y_eq, y_n0, y_00, y_l0, y_0l, y_le0, y_m1, y_m1', y_ml, y_m0, y_0m, y_mm, y_lem, y_mle, ↓reduceIte, if_true, if_false, h0, h1, h2]
      exact ⟨_, rfl, rfl⟩
    · by_cases c2 : a = nI 2
      · subst c2
        simp (disch := omega) only [bnd_s, xg0 _ h, xg1 _ h, xg2 _ h, xg3 _ h, xg4 _ h, xg5 _ h, xg6 _ h, xg7 _ h, xz0 _ h, xz1 _ h, xz2 _ h, xz3 _ h, xz4 _ h, xz5 _ h, xz6 _ h, xz7 _ h, xh5 _ h, xh6 _ h, xh7 _ h, xcg h, xcr h, nI_add, pk_mul, Nat.add_zero, zt_0, zt_1, bnd_s, gf, pf, rd_at, wr_at, nI_add, pk_mul, Nat.add_zero, zt_0, zt_1, r_cellAt, r_editAt, r_objAt, y_lt, y_nlt, y_le, y_nle, y_ne, y_eq, y_n0, y_00, y_l0, y_0l, y_le0, y_m1, y_m1', y_ml, y_m0, y_0m, y_mm, y_lem, y_mle, ↓reduceIte, if_true, if_false, h0, h1, h2]
        exact ⟨_, rfl, rfl⟩
      · by_cases c3 : a = nI 3
        · subst c3
          simp (disch := omega) only [bnd_s, xg0 _ h, xg1 _ h, xg2 _ h, xg3 _ h, xg4 _ h, xg5 _ h, xg6 _ h, xg7 _ h, xz0 _ h, xz1 _ h, xz2 _ h, xz3 _ h, xz4 _ h, xz5 _ h, xz6 _ h, xz7 _ h, xh5 _ h, xh6 _ h, xh7 _ h, xcg h, xcr h, nI_add, pk_mul, Nat.add_zero, zt_0, zt_1, bnd_s, gf, pf, rd_at, wr_at, nI_add, pk_mul, Nat.add_zero, zt_0, zt_1, r_cellAt, r_editAt, r_objAt, y_lt, y_nlt, y_le, y_nle, y_ne, y_eq, y_n0, y_00, y_l0, y_0l, y_le0, y_m1, y_m1', y_ml, y_m0, y_0m, y_mm, y_lem, y_mle, ↓reduceIte, if_true, if_false, h0, h1, h2, ht1, ht2]
          exact ⟨_, rfl, rfl⟩
        · simp only [c0, c00, c1, c2, c3, if_false]
          exact ⟨_, rfl, rfl⟩
theorem op_came (a : Int32) : OpS (f4_came n a) (fR_came n a) := by
  refine Op_ro (fun S x M h hM => ?_)
  obtain ⟨hW, hR, hT, ⟨g0, g1, g2, g3⟩, hF⟩ := hM
  unfold f4_came fR_came
  by_cases c0 : a = nI 0
  · subst c0
    simp (disch := omega) only [bnd_s, xg0 _ h, xg1 _ h, xg2 _ h, xg3 _ h, xg4 _ h, xg5 _ h, xg6 _ h, xg7 _ h, xz0 _ h, xz1 _ h, xz2 _ h, xz3 _ h, xz4 _ h, xz5 _ h, xz6 _ h, xz7 _ h, xh5 _ h, xh6 _ h, xh7 _ h, xcg h, xcr h, nI_add, pk_mul, Nat.add_zero, zt_0, zt_1, bnd_s, gf, pf, rd_at, wr_at, nI_add, pk_mul, Nat.add_zero, zt_0, zt_1, r_cellAt, r_editAt, r_objAt, y_lt, y_nlt, y_le, y_nle, y_ne, y_eq, y_n0, y_00, y_l0, y_0l, y_le0, y_m1, y_m1', y_ml, y_m0, y_0m, y_mm, y_lem, y_mle, ↓reduceIte, if_true, if_false, g0]
    exact ⟨_, rfl, rfl⟩
  · have c00 : ¬ a = 0 := fun e => c0 (by rw [e, nI_0])
    by_cases c1 : a = nI 1
    · subst c1
      simp (disch := omega) only [bnd_s, xg0 _ h, xg1 _ h, xg2 _ h, xg3 _ h, xg4 _ h, xg5 _ h, xg6 _ h, xg7 _ h, xz0 _ h, xz1 _ h, xz2 _ h, xz3 _ h, xz4 _ h, xz5 _ h, xz6 _ h, xz7 _ h, xh5 _ h, xh6 _ h, xh7 _ h, xcg h, xcr h, nI_add, pk_mul, Nat.add_zero, zt_0, zt_1, bnd_s, gf, pf, rd_at, wr_at, nI_add, pk_mul, Nat.add_zero, zt_0, zt_1, r_cellAt, r_editAt, r_objAt, y_lt, y_nlt, y_le, y_nle, y_ne, y_eq, y_n0, y_00, y_l0, y_0l, y_le0, y_m1, y_m1', y_ml, y_m0, y_0m, y_mm, y_lem, y_mle, ↓reduceIte, if_true, if_false, g1]
      exact ⟨_, rfl, rfl⟩
    · by_cases c2 : a = nI 2
      · subst c2
        simp (disch := omega) only [bnd_s, xg0 _ h, xg1 _ h, xg2 _ h, xg3 _ h, xg4 _ h, xg5 _ h, xg6 _ h, xg7 _ h, xz0 _ h, xz1 _ h, xz2 _ h, xz3 _ h, xz4 _ h, xz5 _ h, xz6 _ h, xz7 _ h, xh5 _ h, xh6 _ h, xh7 _ h, xcg h, xcr h, nI_add, pk_mul, Nat.add_zero, zt_0, zt_1, bnd_s, gf, pf, rd_at, wr_at, nI_add, pk_mul, Nat.add_zero, zt_0, zt_1, r_cellAt, r_editAt, r_objAt, y_lt, y_nlt, y_le, y_nle, y_ne, y_eq, y_n0, y_00, y_l0, y_0l, y_le0, y_m1, y_m1', y_ml, y_m0, y_0m, y_mm, y_lem, y_mle, ↓reduceIte, if_true, if_false, g2]
        exact ⟨_, rfl, rfl⟩
      · by_cases c3 : a = nI 3
        · subst c3
          simp (disch := omega) only [bnd_s, xg0 _ h, xg1 _ h, xg2 _ h, xg3 _ h, xg4 _ h, xg5 _ h, xg6 _ h, xg7 _ h, xz0 _ h, xz1 _ h, xz2 _ h, xz3 _ h, xz4 _ h, xz5 _ h, xz6 _ h, xz7 _ h, xh5 _ h, xh6 _ h, xh7 _ h, xcg h, xcr h, nI_add, pk_mul, Nat.add_zero, zt_0, zt_1, bnd_s, gf, pf, rd_at, wr_at, nI_add, pk_mul, Nat.add_zero, zt_0, zt_1, r_cellAt, r_editAt, r_objAt, y_lt, y_nlt, y_le, y_nle, y_ne, y_eq, y_n0, y_00, y_l0, y_0l, y_le0, y_m1, y_m1', y_ml, y_m0, y_0m, y_mm, y_lem, y_mle, ↓reduceIte, if_true, if_false, g3]
          exact ⟨_, rfl, rfl⟩
        · simp only [c0, c00, c1, c2, c3, if_false]
          exact ⟨_, rfl, rfl⟩
theorem op_classOf (a : Int32) : OpS (f4_classOf n a) (fR_classOf n a) := by
  refine Op_ro (fun S x M h hM => ?_)
  obtain ⟨hW, hR, hT, hCm, hF⟩ := hM
  have hB := hW.1
  unfold f4_classOf fR_classOf
  rcases i_cases a with ha | ⟨c, hc, rfl⟩
  · simp (disch := omega) only [b_has_n n (show 7 < 8 by decide) ha, r_isObject_n n M ha, bnd_s, gf, pf, rd_at, wr_at, nI_add, pk_mul, Nat.add_zero, zt_0, zt_1, r_cellAt, r_editAt, r_objAt, y_lt, y_nlt, y_le, y_nle, y_ne, y_eq, y_n0, y_00, y_l0, y_0l, y_le0, y_m1, y_m1', y_ml, y_m0, y_0m, y_mm, y_lem, y_mle, ↓reduceIte, if_true, if_false]
    exact ⟨_, rfl, rfl⟩
  · by_cases h1 : c < bO (im x)
    · simp (disch := omega) only [bnd_s, xg0 _ h, xg1 _ h, xg2 _ h, xg3 _ h, xg4 _ h, xg5 _ h, xg6 _ h, xg7 _ h, xz0 _ h, xz1 _ h, xz2 _ h, xz3 _ h, xz4 _ h, xz5 _ h, xz6 _ h, xz7 _ h, xh5 _ h, xh6 _ h, xh7 _ h, xcg h, xcr h, nI_add, pk_mul, Nat.add_zero, zt_0, zt_1, r_isObject n M _ _ hR.1.2.2.1, bnd_s, gf, pf, rd_at, wr_at, nI_add, pk_mul, Nat.add_zero, zt_0, zt_1, r_cellAt, r_editAt, r_objAt, y_lt, y_nlt, y_le, y_nle, y_ne, y_eq, y_n0, y_00, y_l0, y_0l, y_le0, y_m1, y_m1', y_ml, y_m0, y_0m, y_mm, y_lem, y_mle, ↓reduceIte, if_true, if_false, h1, ri_o0 hR h1]
      exact ⟨_, rfl, rfl⟩
    · simp (disch := omega) only [bnd_s, xg0 _ h, xg1 _ h, xg2 _ h, xg3 _ h, xg4 _ h, xg5 _ h, xg6 _ h, xg7 _ h, xz0 _ h, xz1 _ h, xz2 _ h, xz3 _ h, xz4 _ h, xz5 _ h, xz6 _ h, xz7 _ h, xh5 _ h, xh6 _ h, xh7 _ h, xcg h, xcr h, nI_add, pk_mul, Nat.add_zero, zt_0, zt_1, r_isObject n M _ _ hR.1.2.2.1, bnd_s, gf, pf, rd_at, wr_at, nI_add, pk_mul, Nat.add_zero, zt_0, zt_1, r_cellAt, r_editAt, r_objAt, y_lt, y_nlt, y_le, y_nle, y_ne, y_eq, y_n0, y_00, y_l0, y_0l, y_le0, y_m1, y_m1', y_ml, y_m0, y_0m, y_mm, y_lem, y_mle, ↓reduceIte, if_true, if_false, h1]
      exact ⟨_, rfl, rfl⟩
theorem op_of (a b : Int32) : OpS (f4_of n a b) (fR_of n a b) := by
  refine Op_ro (fun S x M h hM => ?_)
  obtain ⟨hW, hR, hT, hCm, hF⟩ := hM
  have hB := hW.1
  unfold f4_of fR_of
  rcases i_cases a with ha | ⟨c, hc, rfl⟩
  · simp (disch := omega) only [b_has_n n (show 5 < 8 by decide) ha, r_isCell_n n M ha, bnd_s, gf, pf, rd_at, wr_at, nI_add, pk_mul, Nat.add_zero, zt_0, zt_1, r_cellAt, r_editAt, r_objAt, y_lt, y_nlt, y_le, y_nle, y_ne, y_eq, y_n0, y_00, y_l0, y_0l, y_le0, y_m1, y_m1', y_ml, y_m0, y_0m, y_mm, y_lem, y_mle, ↓reduceIte, if_true, if_false]
    exact ⟨_, rfl, rfl⟩
  · by_cases h1 : c < bC (im x)
    · rcases i_cases b with hb | ⟨w, hw, rfl⟩
      · simp (disch := first | omega | assumption) only [bnd_s, xg0 _ h, xg1 _ h, xg2 _ h, xg3 _ h, xg4 _ h, xg5 _ h, xg6 _ h, xg7 _ h, xz0 _ h, xz1 _ h, xz2 _ h, xz3 _ h, xz4 _ h, xz5 _ h, xz6 _ h, xz7 _ h, xh5 _ h, xh6 _ h, xh7 _ h, xcg h, xcr h, nI_add, pk_mul, Nat.add_zero, zt_0, zt_1, r_isCell n M _ _ hR.1.1, bnd_s, gf, pf, rd_at, wr_at, nI_add, pk_mul, Nat.add_zero, zt_0, zt_1, r_cellAt, r_editAt, r_objAt, y_lt, y_nlt, y_le, y_nle, y_ne, y_eq, y_n0, y_00, y_l0, y_0l, y_le0, y_m1, y_m1', y_ml, y_m0, y_0m, y_mm, y_lem, y_mle, ↓reduceIte, if_true, if_false, h1, hb, y_neg]
        exact ⟨_, rfl, rfl⟩
      · by_cases hw8 : w ≤ 8
        · have hh : w = 0 ∨ w = 1 ∨ w = 2 ∨ w = 3 ∨ w = 4 ∨ w = 5 ∨ w = 6 ∨ w = 7 ∨ w = 8 := by omega
          rcases hh with rfl | rfl | rfl | rfl | rfl | rfl | rfl | rfl | rfl <;>
          · simp (disch := omega) only [bnd_s, xg0 _ h, xg1 _ h, xg2 _ h, xg3 _ h, xg4 _ h, xg5 _ h, xg6 _ h, xg7 _ h, xz0 _ h, xz1 _ h, xz2 _ h, xz3 _ h, xz4 _ h, xz5 _ h, xz6 _ h, xz7 _ h, xh5 _ h, xh6 _ h, xh7 _ h, xcg h, xcr h, nI_add, pk_mul, Nat.add_zero, zt_0, zt_1, r_isCell n M _ _ hR.1.1, bnd_s, gf, pf, rd_at, wr_at, nI_add, pk_mul, Nat.add_zero, zt_0, zt_1, r_cellAt, r_editAt, r_objAt, y_lt, y_nlt, y_le, y_nle, y_ne, y_eq, y_n0, y_00, y_l0, y_0l, y_le0, y_m1, y_m1', y_ml, y_m0, y_0m, y_mm, y_lem, y_mle, ↓reduceIte, if_true, if_false, h1, ri_c0 hR h1, ri_c1 hR h1, ri_c2 hR h1, ri_c3 hR hF h1, ri_c4 hR hF h1, ri_c5 hR hF h1, ri_c6 hR hF h1, ri_c7 hR hF h1, ri_c8 hR hF h1, p1_m1]
            exact ⟨_, rfl, rfl⟩
        · simp (disch := omega) only [bnd_s, xg0 _ h, xg1 _ h, xg2 _ h, xg3 _ h, xg4 _ h, xg5 _ h, xg6 _ h, xg7 _ h, xz0 _ h, xz1 _ h, xz2 _ h, xz3 _ h, xz4 _ h, xz5 _ h, xz6 _ h, xz7 _ h, xh5 _ h, xh6 _ h, xh7 _ h, xcg h, xcr h, nI_add, pk_mul, Nat.add_zero, zt_0, zt_1, r_isCell n M _ _ hR.1.1, bnd_s, gf, pf, rd_at, wr_at, nI_add, pk_mul, Nat.add_zero, zt_0, zt_1, r_cellAt, r_editAt, r_objAt, y_lt, y_nlt, y_le, y_nle, y_ne, y_eq, y_n0, y_00, y_l0, y_0l, y_le0, y_m1, y_m1', y_ml, y_m0, y_0m, y_mm, y_lem, y_mle, ↓reduceIte, if_true, if_false, h1]
          exact ⟨_, rfl, rfl⟩
    · rw [xh5 n h hc, if_neg h1, r_isCell n M hc (by omega) hR.1.1, if_neg h1, bnd_s, if_pos n0_0, if_pos n0_0]
      exact ⟨_, rfl, rfl⟩
theorem op_leans (a b : Int32) : OpS (f4_leans n a b) (fR_leans n a b) := by
  refine Op_ro (fun S x M h hM => ?_)
  obtain ⟨hW, hR, hT, hCm, hF⟩ := hM
  have hB := hW.1
  unfold f4_leans fR_leans
  rcases i_cases a with ha | ⟨c, hc, rfl⟩
  · simp (disch := omega) only [b_has_n n (show 5 < 8 by decide) ha, r_isCell_n n M ha, bnd_s, gf, pf, rd_at, wr_at, nI_add, pk_mul, Nat.add_zero, zt_0, zt_1, r_cellAt, r_editAt, r_objAt, y_lt, y_nlt, y_le, y_nle, y_ne, y_eq, y_n0, y_00, y_l0, y_0l, y_le0, y_m1, y_m1', y_ml, y_m0, y_0m, y_mm, y_lem, y_mle, ↓reduceIte, if_true, if_false]
    exact ⟨_, rfl, rfl⟩
  · by_cases h1 : c < bC (im x)
    · rcases i_cases b with hb | ⟨w, hw, rfl⟩
      · simp (disch := omega) only [bnd_s, xg0 _ h, xg1 _ h, xg2 _ h, xg3 _ h, xg4 _ h, xg5 _ h, xg6 _ h, xg7 _ h, xz0 _ h, xz1 _ h, xz2 _ h, xz3 _ h, xz4 _ h, xz5 _ h, xz6 _ h, xz7 _ h, xh5 _ h, xh6 _ h, xh7 _ h, xcg h, xcr h, nI_add, pk_mul, Nat.add_zero, zt_0, zt_1, r_isCell n M _ _ hR.1.1, bnd_s, gf, pf, rd_at, wr_at, nI_add, pk_mul, Nat.add_zero, zt_0, zt_1, r_cellAt, r_editAt, r_objAt, y_lt, y_nlt, y_le, y_nle, y_ne, y_eq, y_n0, y_00, y_l0, y_0l, y_le0, y_m1, y_m1', y_ml, y_m0, y_0m, y_mm, y_lem, y_mle, ↓reduceIte, if_true, if_false, h1, hb]
        exact ⟨_, rfl, rfl⟩
      · obtain ⟨_, _, _, q, hq, hq2, _⟩ := hW.2.1 c h1
        by_cases hwq : w < q
        · simp (disch := omega) only [bnd_s, xg0 _ h, xg1 _ h, xg2 _ h, xg3 _ h, xg4 _ h, xg5 _ h, xg6 _ h, xg7 _ h, xz0 _ h, xz1 _ h, xz2 _ h, xz3 _ h, xz4 _ h, xz5 _ h, xz6 _ h, xz7 _ h, xh5 _ h, xh6 _ h, xh7 _ h, xcg h, xcr h, nI_add, pk_mul, Nat.add_zero, zt_0, zt_1, r_isCell n M _ _ hR.1.1, bnd_s, gf, pf, rd_at, wr_at, nI_add, pk_mul, Nat.add_zero, zt_0, zt_1, r_cellAt, r_editAt, r_objAt, y_lt, y_nlt, y_le, y_nle, y_ne, y_eq, y_n0, y_00, y_l0, y_0l, y_le0, y_m1, y_m1', y_ml, y_m0, y_0m, y_mm, y_lem, y_mle, ↓reduceIte, if_true, if_false, h1, ri_c8 hR hF h1, hq2, f0_leanOf, ri_cl hR hF h1 (show w < 16 by omega) (by rw [hq2]; exact nI_lt hwq (by omega))]
          exact ⟨_, rfl, rfl⟩
        · simp (disch := omega) only [bnd_s, xg0 _ h, xg1 _ h, xg2 _ h, xg3 _ h, xg4 _ h, xg5 _ h, xg6 _ h, xg7 _ h, xz0 _ h, xz1 _ h, xz2 _ h, xz3 _ h, xz4 _ h, xz5 _ h, xz6 _ h, xz7 _ h, xh5 _ h, xh6 _ h, xh7 _ h, xcg h, xcr h, nI_add, pk_mul, Nat.add_zero, zt_0, zt_1, r_isCell n M _ _ hR.1.1, bnd_s, gf, pf, rd_at, wr_at, nI_add, pk_mul, Nat.add_zero, zt_0, zt_1, r_cellAt, r_editAt, r_objAt, y_lt, y_nlt, y_le, y_nle, y_ne, y_eq, y_n0, y_00, y_l0, y_0l, y_le0, y_m1, y_m1', y_ml, y_m0, y_0m, y_mm, y_lem, y_mle, ↓reduceIte, if_true, if_false, h1, ri_c8 hR hF h1, hq2]
          exact ⟨_, rfl, rfl⟩
    · simp (disch := omega) only [bnd_s, xg0 _ h, xg1 _ h, xg2 _ h, xg3 _ h, xg4 _ h, xg5 _ h, xg6 _ h, xg7 _ h, xz0 _ h, xz1 _ h, xz2 _ h, xz3 _ h, xz4 _ h, xz5 _ h, xz6 _ h, xz7 _ h, xh5 _ h, xh6 _ h, xh7 _ h, xcg h, xcr h, nI_add, pk_mul, Nat.add_zero, zt_0, zt_1, r_isCell n M _ _ hR.1.1, bnd_s, gf, pf, rd_at, wr_at, nI_add, pk_mul, Nat.add_zero, zt_0, zt_1, r_cellAt, r_editAt, r_objAt, y_lt, y_nlt, y_le, y_nle, y_ne, y_eq, y_n0, y_00, y_l0, y_0l, y_le0, y_m1, y_m1', y_ml, y_m0, y_0m, y_mm, y_lem, y_mle, ↓reduceIte, if_true, if_false, h1]
      exact ⟨_, rfl, rfl⟩
theorem op_written (a b d : Int32) : OpS (f4_written n a b d) (fR_written n a b d) := by
  refine Op_ro (fun S x M h hM => ?_)
  obtain ⟨hW, hR, hT, hCm, hF⟩ := hM
  have hB := hW.1
  unfold f4_written fR_written
  rcases i_cases a with ha | ⟨c, hc, rfl⟩
  · simp (disch := omega) only [b_has_n n (show 5 < 8 by decide) ha, r_isCell_n n M ha, bnd_s, gf, pf, rd_at, wr_at, nI_add, pk_mul, Nat.add_zero, zt_0, zt_1, r_cellAt, r_editAt, r_objAt, y_lt, y_nlt, y_le, y_nle, y_ne, y_eq, y_n0, y_00, y_l0, y_0l, y_le0, y_m1, y_m1', y_ml, y_m0, y_0m, y_mm, y_lem, y_mle, ↓reduceIte, if_true, if_false]
    exact ⟨_, rfl, rfl⟩
  · by_cases h1 : c < bC (im x)
    · rcases i_cases b with hb | ⟨w, hw, rfl⟩
      · simp (disch := omega) only [bnd_s, xg0 _ h, xg1 _ h, xg2 _ h, xg3 _ h, xg4 _ h, xg5 _ h, xg6 _ h, xg7 _ h, xz0 _ h, xz1 _ h, xz2 _ h, xz3 _ h, xz4 _ h, xz5 _ h, xz6 _ h, xz7 _ h, xh5 _ h, xh6 _ h, xh7 _ h, xcg h, xcr h, nI_add, pk_mul, Nat.add_zero, zt_0, zt_1, r_isCell n M _ _ hR.1.1, bnd_s, gf, pf, rd_at, wr_at, nI_add, pk_mul, Nat.add_zero, zt_0, zt_1, r_cellAt, r_editAt, r_objAt, y_lt, y_nlt, y_le, y_nle, y_ne, y_eq, y_n0, y_00, y_l0, y_0l, y_le0, y_m1, y_m1', y_ml, y_m0, y_0m, y_mm, y_lem, y_mle, ↓reduceIte, if_true, if_false, h1, hb]
        exact ⟨_, rfl, rfl⟩
      · by_cases hw2 : w < 20
        · by_cases hl : nI w < bce (im x) c 3
          · have hl2 : (bce (im x) c 3 ≤ nI w) = False := eq_false (Int32.not_le.mpr hl)
            obtain ⟨hk1, hk2⟩ := ri_cw hR hF h1 hw2 hl
            rcases i_cases d with hd | ⟨v, hv, rfl⟩
            · simp (disch := first | omega | assumption) only [bnd_s, xg0 _ h, xg1 _ h, xg2 _ h, xg3 _ h, xg4 _ h, xg5 _ h, xg6 _ h, xg7 _ h, xz0 _ h, xz1 _ h, xz2 _ h, xz3 _ h, xz4 _ h, xz5 _ h, xz6 _ h, xz7 _ h, xh5 _ h, xh6 _ h, xh7 _ h, xcg h, xcr h, nI_add, pk_mul, Nat.add_zero, zt_0, zt_1, r_isCell n M _ _ hR.1.1, bnd_s, gf, pf, rd_at, wr_at, nI_add, pk_mul, Nat.add_zero, zt_0, zt_1, r_cellAt, r_editAt, r_objAt, y_lt, y_nlt, y_le, y_nle, y_ne, y_eq, y_n0, y_00, y_l0, y_0l, y_le0, y_m1, y_m1', y_ml, y_m0, y_0m, y_mm, y_lem, y_mle, ↓reduceIte, if_true, if_false, h1, hl, hl2, ri_c6 hR hF h1, hd, y_neg, y_neg0]
              exact ⟨_, rfl, rfl⟩
            · have hh : v = 0 ∨ v = 1 ∨ 2 ≤ v := by omega
              rcases hh with rfl | rfl | hv2
              · simp (disch := omega) only [bnd_s, xg0 _ h, xg1 _ h, xg2 _ h, xg3 _ h, xg4 _ h, xg5 _ h, xg6 _ h, xg7 _ h, xz0 _ h, xz1 _ h, xz2 _ h, xz3 _ h, xz4 _ h, xz5 _ h, xz6 _ h, xz7 _ h, xh5 _ h, xh6 _ h, xh7 _ h, xcg h, xcr h, nI_add, pk_mul, Nat.add_zero, zt_0, zt_1, r_isCell n M _ _ hR.1.1, bnd_s, gf, pf, rd_at, wr_at, nI_add, pk_mul, Nat.add_zero, zt_0, zt_1, r_cellAt, r_editAt, r_objAt, y_lt, y_nlt, y_le, y_nle, y_ne, y_eq, y_n0, y_00, y_l0, y_0l, y_le0, y_m1, y_m1', y_ml, y_m0, y_0m, y_mm, y_lem, y_mle, ↓reduceIte, if_true, if_false, h1, hl, hl2, ri_c6 hR hF h1, hk1]
                exact ⟨_, rfl, rfl⟩
              · simp (disch := omega) only [bnd_s, xg0 _ h, xg1 _ h, xg2 _ h, xg3 _ h, xg4 _ h, xg5 _ h, xg6 _ h, xg7 _ h, xz0 _ h, xz1 _ h, xz2 _ h, xz3 _ h, xz4 _ h, xz5 _ h, xz6 _ h, xz7 _ h, xh5 _ h, xh6 _ h, xh7 _ h, xcg h, xcr h, nI_add, pk_mul, Nat.add_zero, zt_0, zt_1, r_isCell n M _ _ hR.1.1, bnd_s, gf, pf, rd_at, wr_at, nI_add, pk_mul, Nat.add_zero, zt_0, zt_1, r_cellAt, r_editAt, r_objAt, y_lt, y_nlt, y_le, y_nle, y_ne, y_eq, y_n0, y_00, y_l0, y_0l, y_le0, y_m1, y_m1', y_ml, y_m0, y_0m, y_mm, y_lem, y_mle, ↓reduceIte, if_true, if_false, h1, hl, hl2, ri_c6 hR hF h1, hk2]
                exact ⟨_, rfl, rfl⟩
              · simp (disch := omega) only [bnd_s, xg0 _ h, xg1 _ h, xg2 _ h, xg3 _ h, xg4 _ h, xg5 _ h, xg6 _ h, xg7 _ h, xz0 _ h, xz1 _ h, xz2 _ h, xz3 _ h, xz4 _ h, xz5 _ h, xz6 _ h, xz7 _ h, xh5 _ h, xh6 _ h, xh7 _ h, xcg h, xcr h, nI_add, pk_mul, Nat.add_zero, zt_0, zt_1, r_isCell n M _ _ hR.1.1, bnd_s, gf, pf, rd_at, wr_at, nI_add, pk_mul, Nat.add_zero, zt_0, zt_1, r_cellAt, r_editAt, r_objAt, y_lt, y_nlt, y_le, y_nle, y_ne, y_eq, y_n0, y_00, y_l0, y_0l, y_le0, y_m1, y_m1', y_ml, y_m0, y_0m, y_mm, y_lem, y_mle, ↓reduceIte, if_true, if_false, h1, hl, hl2, ri_c6 hR hF h1]
                exact ⟨_, rfl, rfl⟩
          · have hl2 : bce (im x) c 3 ≤ nI w := Int32.not_lt.mp hl
            simp (disch := omega) only [bnd_s, xg0 _ h, xg1 _ h, xg2 _ h, xg3 _ h, xg4 _ h, xg5 _ h, xg6 _ h, xg7 _ h, xz0 _ h, xz1 _ h, xz2 _ h, xz3 _ h, xz4 _ h, xz5 _ h, xz6 _ h, xz7 _ h, xh5 _ h, xh6 _ h, xh7 _ h, xcg h, xcr h, nI_add, pk_mul, Nat.add_zero, zt_0, zt_1, r_isCell n M _ _ hR.1.1, bnd_s, gf, pf, rd_at, wr_at, nI_add, pk_mul, Nat.add_zero, zt_0, zt_1, r_cellAt, r_editAt, r_objAt, y_lt, y_nlt, y_le, y_nle, y_ne, y_eq, y_n0, y_00, y_l0, y_0l, y_le0, y_m1, y_m1', y_ml, y_m0, y_0m, y_mm, y_lem, y_mle, ↓reduceIte, if_true, if_false, h1, hl, hl2, ri_c6 hR hF h1]
            exact ⟨_, rfl, rfl⟩
        · simp (disch := omega) only [bnd_s, xg0 _ h, xg1 _ h, xg2 _ h, xg3 _ h, xg4 _ h, xg5 _ h, xg6 _ h, xg7 _ h, xz0 _ h, xz1 _ h, xz2 _ h, xz3 _ h, xz4 _ h, xz5 _ h, xz6 _ h, xz7 _ h, xh5 _ h, xh6 _ h, xh7 _ h, xcg h, xcr h, nI_add, pk_mul, Nat.add_zero, zt_0, zt_1, r_isCell n M _ _ hR.1.1, bnd_s, gf, pf, rd_at, wr_at, nI_add, pk_mul, Nat.add_zero, zt_0, zt_1, r_cellAt, r_editAt, r_objAt, y_lt, y_nlt, y_le, y_nle, y_ne, y_eq, y_n0, y_00, y_l0, y_0l, y_le0, y_m1, y_m1', y_ml, y_m0, y_0m, y_mm, y_lem, y_mle, ↓reduceIte, if_true, if_false, h1]
          exact ⟨_, rfl, rfl⟩
    · simp (disch := omega) only [bnd_s, xg0 _ h, xg1 _ h, xg2 _ h, xg3 _ h, xg4 _ h, xg5 _ h, xg6 _ h, xg7 _ h, xz0 _ h, xz1 _ h, xz2 _ h, xz3 _ h, xz4 _ h, xz5 _ h, xz6 _ h, xz7 _ h, xh5 _ h, xh6 _ h, xh7 _ h, xcg h, xcr h, nI_add, pk_mul, Nat.add_zero, zt_0, zt_1, r_isCell n M _ _ hR.1.1, bnd_s, gf, pf, rd_at, wr_at, nI_add, pk_mul, Nat.add_zero, zt_0, zt_1, r_cellAt, r_editAt, r_objAt, y_lt, y_nlt, y_le, y_nle, y_ne, y_eq, y_n0, y_00, y_l0, y_0l, y_le0, y_m1, y_m1', y_ml, y_m0, y_0m, y_mm, y_lem, y_mle, ↓reduceIte, if_true, if_false, h1]
      exact ⟨_, rfl, rfl⟩
theorem m1_p1 {x : Int32} : (x + nI 1 = 0) = (x = -1) := by
  refine propext ⟨fun h => ?_, fun h => by rw [h]; decide⟩
  have := congrArg (fun y => y - nI 1) h
  rw [Int32.add_sub_cancel] at this
  rw [this]; decide
theorem op_field (a b d : Int32) : OpS (f4_field n a b d) (fR_field n a b d) := by
  refine Op_ro (fun S x M h hM => ?_)
  obtain ⟨hW, hR, hT, hCm, hF⟩ := hM
  have hB := hW.1
  unfold f4_field fR_field f4_field_b26 fR_field_b38
  rcases i_cases b with hb | ⟨f, hf, rfl⟩
  · have e : ∀ (v : Int32) (M' : MR), (if v = 0 then fR_field_b39 n a b d (nI 0) M' else if b < 0 then fR_field_b39 n a b d (nI 0) M' else if nI 9 < b then fR_field_b39 n a b d (nI 0) M' else bnd (fR_objAt n a M') fun v2 M2 => rd M2 0 62610 (v2 + nI 1 + b) fun v3 => if v3 = 0 then fR_field_b39 n a b d (nI 0) M2 else fR_field_b39 n a b d (nI 1) M2) = fR_field_b39 n a b d (nI 0) M' := by
      intro v M'
      by_cases hv : v = 0
      · rw [if_pos hv]
      · rw [if_neg hv, if_pos hb]
    obtain ⟨v, hv⟩ : ∃ v, fR_isObject n a M = some (v, M) := by
      rcases i_cases a with ha | ⟨c, hc, rfl⟩
      · exact ⟨_, r_isObject_n n M ha⟩
      · exact ⟨_, r_isObject n M hc (by omega) hR.1.2.2.1⟩
    rw [hv, bnd_s, if_pos hb, e]
    unfold f4_field_b27 fR_field_b39
    simp only [y_lt, y_nlt, y_le, y_nle, y_ne, y_eq, y_n0, y_00, y_l0, y_0l, y_le0, y_m1, y_m1', y_ml, y_m0, y_0m, y_mm, y_lem, y_mle, ↓reduceIte, if_true, if_false]
    by_cases d0 : d = 0
    · simp only [d0, if_true]
      exact ⟨_, rfl, rfl⟩
    · by_cases d1 : d = nI 1
      · simp only [d0, d1, if_true, if_false]
        exact ⟨_, rfl, rfl⟩
      · simp only [d0, d1, if_false]
        exact ⟨_, rfl, rfl⟩
  · by_cases hf2 : f < 10
    · rcases i_cases a with ha | ⟨c, hc, rfl⟩
      · simp (disch := omega) only [f0_hasField, b_has_n n (show 7 < 8 by decide) ha, r_isObject_n n M ha, bnd_s, gf, pf, rd_at, wr_at, nI_add, pk_mul, Nat.add_zero, zt_0, zt_1, r_cellAt, r_editAt, r_objAt, y_lt, y_nlt, y_le, y_nle, y_ne, y_eq, y_n0, y_00, y_l0, y_0l, y_le0, y_m1, y_m1', y_ml, y_m0, y_0m, y_mm, y_lem, y_mle, ↓reduceIte, if_true, if_false]
        unfold f4_field_b27 fR_field_b39
        simp only [y_lt, y_nlt, y_le, y_nle, y_ne, y_eq, y_n0, y_00, y_l0, y_0l, y_le0, y_m1, y_m1', y_ml, y_m0, y_0m, y_mm, y_lem, y_mle, ↓reduceIte, if_true, if_false]
        by_cases d0 : d = 0
        · simp only [d0, if_true]
          exact ⟨_, rfl, rfl⟩
        · by_cases d1 : d = nI 1
          · simp only [d0, d1, if_true, if_false]
            exact ⟨_, rfl, rfl⟩
          · simp only [d0, d1, if_false]
            exact ⟨_, rfl, rfl⟩
      · by_cases h1 : c < bO (im x)
        · by_cases h2 : bob (im x) c (1 + f) = -1
          · simp (disch := omega) only [bnd_s, xg0 _ h, xg1 _ h, xg2 _ h, xg3 _ h, xg4 _ h, xg5 _ h, xg6 _ h, xg7 _ h, xz0 _ h, xz1 _ h, xz2 _ h, xz3 _ h, xz4 _ h, xz5 _ h, xz6 _ h, xz7 _ h, xh5 _ h, xh6 _ h, xh7 _ h, xcg h, xcr h, nI_add, pk_mul, Nat.add_zero, zt_0, zt_1, f0_hasField, r_isObject n M _ _ hR.1.2.2.1, bnd_s, gf, pf, rd_at, wr_at, nI_add, pk_mul, Nat.add_zero, zt_0, zt_1, r_cellAt, r_editAt, r_objAt, y_lt, y_nlt, y_le, y_nle, y_ne, y_eq, y_n0, y_00, y_l0, y_0l, y_le0, y_m1, y_m1', y_ml, y_m0, y_0m, y_mm, y_lem, y_mle, ↓reduceIte, if_true, if_false, h1, ri_ok hR h1 hf2, h2, m1_p1]
            unfold f4_field_b27 fR_field_b39
            simp only [y_lt, y_nlt, y_le, y_nle, y_ne, y_eq, y_n0, y_00, y_l0, y_0l, y_le0, y_m1, y_m1', y_ml, y_m0, y_0m, y_mm, y_lem, y_mle, ↓reduceIte, if_true, if_false]
            by_cases d0 : d = 0
            · simp only [d0, if_true]
              exact ⟨_, rfl, rfl⟩
            · by_cases d1 : d = nI 1
              · simp only [d0, d1, if_true, if_false]
                exact ⟨_, rfl, rfl⟩
              · simp only [d0, d1, if_false]
                exact ⟨_, rfl, rfl⟩
          · simp (disch := omega) only [bnd_s, xg0 _ h, xg1 _ h, xg2 _ h, xg3 _ h, xg4 _ h, xg5 _ h, xg6 _ h, xg7 _ h, xz0 _ h, xz1 _ h, xz2 _ h, xz3 _ h, xz4 _ h, xz5 _ h, xz6 _ h, xz7 _ h, xh5 _ h, xh6 _ h, xh7 _ h, xcg h, xcr h, nI_add, pk_mul, Nat.add_zero, zt_0, zt_1, f0_hasField, r_isObject n M _ _ hR.1.2.2.1, bnd_s, gf, pf, rd_at, wr_at, nI_add, pk_mul, Nat.add_zero, zt_0, zt_1, r_cellAt, r_editAt, r_objAt, y_lt, y_nlt, y_le, y_nle, y_ne, y_eq, y_n0, y_00, y_l0, y_0l, y_le0, y_m1, y_m1', y_ml, y_m0, y_0m, y_mm, y_lem, y_mle, ↓reduceIte, if_true, if_false, h1, ri_ok hR h1 hf2, h2, m1_p1]
            unfold f4_field_b27 fR_field_b39
            by_cases d0 : d = 0
            · simp (disch := omega) only [bnd_s, xg0 _ h, xg1 _ h, xg2 _ h, xg3 _ h, xg4 _ h, xg5 _ h, xg6 _ h, xg7 _ h, xz0 _ h, xz1 _ h, xz2 _ h, xz3 _ h, xz4 _ h, xz5 _ h, xz6 _ h, xz7 _ h, xh5 _ h, xh6 _ h, xh7 _ h, xcg h, xcr h, nI_add, pk_mul, Nat.add_zero, zt_0, zt_1, bnd_s, gf, pf, rd_at, wr_at, nI_add, pk_mul, Nat.add_zero, zt_0, zt_1, r_cellAt, r_editAt, r_objAt, y_lt, y_nlt, y_le, y_nle, y_ne, y_eq, y_n0, y_00, y_l0, y_0l, y_le0, y_m1, y_m1', y_ml, y_m0, y_0m, y_mm, y_lem, y_mle, ↓reduceIte, if_true, if_false, d0, ri_ok hR h1 hf2, p1_m1]
              exact ⟨_, rfl, rfl⟩
            · by_cases d1 : d = nI 1
              · simp (disch := omega) only [bnd_s, xg0 _ h, xg1 _ h, xg2 _ h, xg3 _ h, xg4 _ h, xg5 _ h, xg6 _ h, xg7 _ h, xz0 _ h, xz1 _ h, xz2 _ h, xz3 _ h, xz4 _ h, xz5 _ h, xz6 _ h, xz7 _ h, xh5 _ h, xh6 _ h, xh7 _ h, xcg h, xcr h, nI_add, pk_mul, Nat.add_zero, zt_0, zt_1, bnd_s, gf, pf, rd_at, wr_at, nI_add, pk_mul, Nat.add_zero, zt_0, zt_1, r_cellAt, r_editAt, r_objAt, y_lt, y_nlt, y_le, y_nle, y_ne, y_eq, y_n0, y_00, y_l0, y_0l, y_le0, y_m1, y_m1', y_ml, y_m0, y_0m, y_mm, y_lem, y_mle, ↓reduceIte, if_true, if_false, d0, d1, ri_ov hR h1 hf2]
                exact ⟨_, rfl, rfl⟩
              · simp (disch := omega) only [bnd_s, xg0 _ h, xg1 _ h, xg2 _ h, xg3 _ h, xg4 _ h, xg5 _ h, xg6 _ h, xg7 _ h, xz0 _ h, xz1 _ h, xz2 _ h, xz3 _ h, xz4 _ h, xz5 _ h, xz6 _ h, xz7 _ h, xh5 _ h, xh6 _ h, xh7 _ h, xcg h, xcr h, nI_add, pk_mul, Nat.add_zero, zt_0, zt_1, bnd_s, gf, pf, rd_at, wr_at, nI_add, pk_mul, Nat.add_zero, zt_0, zt_1, r_cellAt, r_editAt, r_objAt, y_lt, y_nlt, y_le, y_nle, y_ne, y_eq, y_n0, y_00, y_l0, y_0l, y_le0, y_m1, y_m1', y_ml, y_m0, y_0m, y_mm, y_lem, y_mle, ↓reduceIte, if_true, if_false, d0, d1]
                exact ⟨_, rfl, rfl⟩
        · simp (disch := omega) only [bnd_s, xg0 _ h, xg1 _ h, xg2 _ h, xg3 _ h, xg4 _ h, xg5 _ h, xg6 _ h, xg7 _ h, xz0 _ h, xz1 _ h, xz2 _ h, xz3 _ h, xz4 _ h, xz5 _ h, xz6 _ h, xz7 _ h, xh5 _ h, xh6 _ h, xh7 _ h, xcg h, xcr h, nI_add, pk_mul, Nat.add_zero, zt_0, zt_1, f0_hasField, r_isObject n M _ _ hR.1.2.2.1, bnd_s, gf, pf, rd_at, wr_at, nI_add, pk_mul, Nat.add_zero, zt_0, zt_1, r_cellAt, r_editAt, r_objAt, y_lt, y_nlt, y_le, y_nle, y_ne, y_eq, y_n0, y_00, y_l0, y_0l, y_le0, y_m1, y_m1', y_ml, y_m0, y_0m, y_mm, y_lem, y_mle, ↓reduceIte, if_true, if_false, h1]
          unfold f4_field_b27 fR_field_b39
          simp only [y_lt, y_nlt, y_le, y_nle, y_ne, y_eq, y_n0, y_00, y_l0, y_0l, y_le0, y_m1, y_m1', y_ml, y_m0, y_0m, y_mm, y_lem, y_mle, ↓reduceIte, if_true, if_false]
          by_cases d0 : d = 0
          · simp only [d0, if_true]
            exact ⟨_, rfl, rfl⟩
          · by_cases d1 : d = nI 1
            · simp only [d0, d1, if_true, if_false]
              exact ⟨_, rfl, rfl⟩
            · simp only [d0, d1, if_false]
              exact ⟨_, rfl, rfl⟩
    · have e : ∀ (v : Int32) (M' : MR), (if v = 0 then fR_field_b39 n a (nI f) d (nI 0) M' else if nI f < 0 then fR_field_b39 n a (nI f) d (nI 0) M' else if nI 9 < nI f then fR_field_b39 n a (nI f) d (nI 0) M' else bnd (fR_objAt n a M') fun v2 M2 => rd M2 0 62610 (v2 + nI 1 + nI f) fun v3 => if v3 = 0 then fR_field_b39 n a (nI f) d (nI 0) M2 else fR_field_b39 n a (nI f) d (nI 1) M2) = fR_field_b39 n a (nI f) d (nI 0) M' := by
        intro v M'
        by_cases hv : v = 0
        · rw [if_pos hv]
        · rw [if_neg hv, if_neg (nI_pos hf), if_pos (nI_lt (by omega) hf)]
      obtain ⟨v, hv⟩ : ∃ v, fR_isObject n a M = some (v, M) := by
        rcases i_cases a with ha | ⟨c, hc, rfl⟩
        · exact ⟨_, r_isObject_n n M ha⟩
        · exact ⟨_, r_isObject n M hc (by omega) hR.1.2.2.1⟩
      rw [hv, bnd_s, if_neg (nI_pos hf), if_pos (nI_le (show 10 ≤ f by omega) hf), e]
      unfold f4_field_b27 fR_field_b39
      simp only [y_lt, y_nlt, y_le, y_nle, y_ne, y_eq, y_n0, y_00, y_l0, y_0l, y_le0, y_m1, y_m1', y_ml, y_m0, y_0m, y_mm, y_lem, y_mle, ↓reduceIte, if_true, if_false]
      by_cases d0 : d = 0
      · simp only [d0, if_true]
        exact ⟨_, rfl, rfl⟩
      · by_cases d1 : d = nI 1
        · simp only [d0, d1, if_true, if_false]
          exact ⟨_, rfl, rfl⟩
        · simp only [d0, d1, if_false]
          exact ⟨_, rfl, rfl⟩
end TELL
