-- ===== the reference reads the text of a class =====
def TxR (M : MR) (e : Nat) (tx : Nat → Int32) (l : Nat) : Prop := ∀ i, i < l → M 0 (7228 + 70 * e + i) = tx i
def TextOk (tx : Nat → Int32) (nf nm l : Nat) : Prop := tx 1 = nI nf ∧ nf ≤ 4 ∧ tx (2 + 2 * nf) = nI nm ∧ nm ≤ 3 ∧ mpl tx nf nm ≤ l + 1 ∧ l ≤ 60 ∧ ∀ k, k < nm → ∃ len, tx (mpl tx nf k) = nI len ∧ len ≤ 60
theorem mpl_mono (tx : Nat → Int32) (nf : Nat) {a b : Nat} (h : a ≤ b) : mpl tx nf a + 2 * (b - a) ≤ mpl tx nf b := by
  induction h with
  | refl => omega
  | step h ih => rw [mpl]; omega
section RTX
variable {M : MR} {e nf nm l : Nat} {tx : Nat → Int32} (n : Nat)
theorem r_tx (he : e < 150) (hT : TxR M e tx l) (hl : l ≤ 60) {i : Nat} (hi : i < l) : fR_textOf n (nI e) (nI i) M = some (tx i, M) := by
  rw [r_textOf n M he (by omega), hT i hi]
theorem r_ownField_l (he : e < 150) (hT : TxR M e tx l) (hX : TextOk tx nf nm l) {f : Nat} : ∀ r k fu, k + r = nf → r < fu → fR_ownField_l2 n fu (nI e) (nI f) (nI k) M = some (ohd (fnd (fun k => decide (tx (2 + 2 * k) = nI f)) k r) (-1) (fun k => nI (3 + 2 * k)), M)
  | 0, k, fu, hk, hf => by
    obtain ⟨fu, rfl⟩ : ∃ k', fu = k' + 1 := ⟨fu - 1, by omega⟩
    have := mpl_ge tx nf nm
    obtain ⟨h1, h2, h3, h4, h5, h6, h7⟩ := hX
    rw [fR_ownField_l2]
    simp (disch := omega) only [r_tx n he hT, bnd_s, gf, pf, rd_at, wr_at, nI_add, pk_mul, Nat.add_zero, zt_0, zt_1, r_cellAt, r_editAt, r_objAt, y_lt, y_nlt, y_le, y_nle, y_ne, y_eq, y_n0, y_00, y_l0, y_0l, y_le0, y_m1, y_m1', y_ml, y_m0, y_0m, y_mm, y_lem, y_mle, ↓reduceIte, if_true, if_false, h1]
    rfl
  | r + 1, k, fu, hk, hf => by
    obtain ⟨fu, rfl⟩ : ∃ k', fu = k' + 1 := ⟨fu - 1, by omega⟩
    have := mpl_ge tx nf nm
    have ih := r_ownField_l he hT hX (f := f) r (k + 1) fu (by omega) (by omega)
    obtain ⟨h1, h2, h3, h4, h5, h6, h7⟩ := hX
    rw [fR_ownField_l2, fnd]
    simp (disch := omega) only [r_tx n he hT, bnd_s, gf, pf, rd_at, wr_at, nI_add, pk_mul, Nat.add_zero, zt_0, zt_1, r_cellAt, r_editAt, r_objAt, y_lt, y_nlt, y_le, y_nle, y_ne, y_eq, y_n0, y_00, y_l0, y_0l, y_le0, y_m1, y_m1', y_ml, y_m0, y_0m, y_mm, y_lem, y_mle, ↓reduceIte, if_true, if_false, h1]
    by_cases hc : tx (2 + 2 * k) = nI f
    · simp only [hc, decide_true, if_true]
      rfl
    · simp only [hc, decide_false, if_false, ih, Bool.false_eq_true]
theorem r_ownField (hn : 1000 ≤ n) (he : e < 150) (hT : TxR M e tx l) (hX : TextOk tx nf nm l) {f : Nat} : fR_ownField n (nI e) (nI f) M = some (ohd (fOf tx nf f) (-1) (fun k => nI (3 + 2 * k)), M) :=
  r_ownField_l n he hT hX nf 0 n (by omega) (by have := hX.2.1; omega)
theorem r_mpl_l (he : e < 150) (hT : TxR M e tx l) (hX : TextOk tx nf nm l) {k : Nat} (hk : k ≤ nm) : ∀ r i fu, i + r = k → r < fu → fR_methodPlace_l14 n fu (nI e) (nI k) (nI (mpl tx nf i - 1)) (nI i) M = some (nI (if k < nm then mpl tx nf k else mpl tx nf k - 1), M)
  | 0, i, fu, hi, hf => by
    obtain ⟨fu, rfl⟩ : ∃ k', fu = k' + 1 := ⟨fu - 1, by omega⟩
    have g1 := mpl_ge tx nf nm
    have g2 := mpl_ge tx nf k
    obtain ⟨h1, h2, h3, h4, h5, h6, h7⟩ := hX
    obtain rfl : i = k := by omega
    rw [fR_methodPlace_l14]
    simp (disch := omega) only [r_tx n he hT, fR_place0, bnd_s, gf, pf, rd_at, wr_at, nI_add, pk_mul, Nat.add_zero, zt_0, zt_1, r_cellAt, r_editAt, r_objAt, y_lt, y_nlt, y_le, y_nle, y_ne, y_eq, y_n0, y_00, y_l0, y_0l, y_le0, y_m1, y_m1', y_ml, y_m0, y_0m, y_mm, y_lem, y_mle, ↓reduceIte, if_true, if_false, h1, h3]
    by_cases hc : i < nm
    · simp (disch := omega) only [y_lt, y_nlt, y_le, y_nle, y_ne, y_eq, y_n0, y_00, y_l0, y_0l, y_le0, y_m1, y_m1', y_ml, y_m0, y_0m, y_mm, y_lem, y_mle, ↓reduceIte, if_true, if_false, hc]
      rw [show mpl tx nf i - 1 + 1 = mpl tx nf i by omega]
    · simp (disch := omega) only [y_lt, y_nlt, y_le, y_nle, y_ne, y_eq, y_n0, y_00, y_l0, y_0l, y_le0, y_m1, y_m1', y_ml, y_m0, y_0m, y_mm, y_lem, y_mle, ↓reduceIte, if_true, if_false, hc]
  | r + 1, i, fu, hi, hf => by
    obtain ⟨fu, rfl⟩ : ∃ k', fu = k' + 1 := ⟨fu - 1, by omega⟩
    have ih := r_mpl_l he hT hX hk r (i + 1) fu (by omega) (by omega)
    have g1 := mpl_ge tx nf i
    have g2 := mpl_mono tx nf (show i ≤ nm by omega)
    obtain ⟨h1, h2, h3, h4, h5, h6, h7⟩ := hX
    obtain ⟨len, h8, h9⟩ := h7 i (by omega)
    rw [fR_methodPlace_l14]
    rw [show mpl tx nf (i + 1) = mpl tx nf i + 2 + len by rw [mpl, h8, nI_clamp (by omega)]] at ih
    simp (disch := omega) only [bnd_s, gf, pf, rd_at, wr_at, nI_add, pk_mul, Nat.add_zero, zt_0, zt_1, r_cellAt, r_editAt, r_objAt, y_lt, y_nlt, y_le, y_nle, y_ne, y_eq, y_n0, y_00, y_l0, y_0l, y_le0, y_m1, y_m1', y_ml, y_m0, y_0m, y_mm, y_lem, y_mle, ↓reduceIte, if_true, if_false]
    rw [show mpl tx nf i - 1 + 1 = mpl tx nf i by omega]
    simp (disch := omega) only [r_tx n he hT, bnd_s, gf, pf, rd_at, wr_at, nI_add, pk_mul, Nat.add_zero, zt_0, zt_1, r_cellAt, r_editAt, r_objAt, y_lt, y_nlt, y_le, y_nle, y_ne, y_eq, y_n0, y_00, y_l0, y_0l, y_le0, y_m1, y_m1', y_ml, y_m0, y_0m, y_mm, y_lem, y_mle, ↓reduceIte, if_true, if_false, h8]
    rw [show mpl tx nf i - 1 + (2 + len) = mpl tx nf i + 2 + len - 1 by omega]
    exact ih
theorem r_methodPlace (hn : 1000 ≤ n) (he : e < 150) (hT : TxR M e tx l) (hX : TextOk tx nf nm l) {k : Nat} (hk : k ≤ nm) : fR_methodPlace n (nI e) (nI k) M = some (nI (if k < nm then mpl tx nf k else mpl tx nf k - 1), M) := by
  have := mpl_ge tx nf nm
  have e1 := r_mpl_l n he hT hX hk k 0 n (by omega) (by have := hX.2.2.2.1; omega)
  obtain ⟨h1, h2, h3, h4, h5, h6, h7⟩ := hX
  unfold fR_methodPlace
  simp (disch := omega) only [r_tx n he hT, bnd_s, gf, pf, rd_at, wr_at, nI_add, pk_mul, Nat.add_zero, zt_0, zt_1, r_cellAt, r_editAt, r_objAt, y_lt, y_nlt, y_le, y_nle, y_ne, y_eq, y_n0, y_00, y_l0, y_0l, y_le0, y_m1, y_m1', y_ml, y_m0, y_0m, y_mm, y_lem, y_mle, ↓reduceIte, if_true, if_false, h1]
  rw [mpl, show 4 + 2 * nf - 1 = 3 + 2 * nf by omega] at e1
  exact e1
theorem r_ownMethod_l (hn : 1000 ≤ n) (he : e < 150) (hT : TxR M e tx l) (hX : TextOk tx nf nm l) {m : Nat} : ∀ r k fu, k + r = nm → r < fu → fR_ownMethod_l2 n fu (nI e) (nI m) (nI k) M = some (ohd (fnd (fun k => decide (tx (mpl tx nf k - 1) = nI m)) k r) (-1) (fun k => nI (mpl tx nf k)), M)
  | 0, k, fu, hk, hf => by
    obtain ⟨fu, rfl⟩ : ∃ k', fu = k' + 1 := ⟨fu - 1, by omega⟩
    have := mpl_ge tx nf nm
    obtain ⟨h1, h2, h3, h4, h5, h6, h7⟩ := hX
    rw [fR_ownMethod_l2]
    simp (disch := omega) only [r_tx n he hT, fR_place0, bnd_s, gf, pf, rd_at, wr_at, nI_add, pk_mul, Nat.add_zero, zt_0, zt_1, r_cellAt, r_editAt, r_objAt, y_lt, y_nlt, y_le, y_nle, y_ne, y_eq, y_n0, y_00, y_l0, y_0l, y_le0, y_m1, y_m1', y_ml, y_m0, y_0m, y_mm, y_lem, y_mle, ↓reduceIte, if_true, if_false, h1, h3]
    rfl
  | r + 1, k, fu, hk, hf => by
    obtain ⟨fu, rfl⟩ : ∃ k', fu = k' + 1 := ⟨fu - 1, by omega⟩
    have g0 := mpl_ge tx nf nm
    have g1 := mpl_ge tx nf k
    have g2 := mpl_mono tx nf (show k ≤ nm by omega)
    have ih := r_ownMethod_l hn he hT hX (m := m) r (k + 1) fu (by omega) (by omega)
    have hp := r_methodPlace n hn he hT hX (k := k) (by omega)
    rw [if_pos (show k < nm by omega)] at hp
    obtain ⟨h1, h2, h3, h4, h5, h6, h7⟩ := hX
    rw [fR_ownMethod_l2, fnd]
    simp (disch := omega) only [r_tx n he hT, fR_place0, bnd_s, gf, pf, rd_at, wr_at, nI_add, pk_mul, Nat.add_zero, zt_0, zt_1, r_cellAt, r_editAt, r_objAt, y_lt, y_nlt, y_le, y_nle, y_ne, y_eq, y_n0, y_00, y_l0, y_0l, y_le0, y_m1, y_m1', y_ml, y_m0, y_0m, y_mm, y_lem, y_mle, ↓reduceIte, if_true, if_false, h1, h3, hp, pk_sub]
    by_cases hc : tx (mpl tx nf k - 1) = nI m
    · simp only [hc, decide_true, if_true]
      rfl
    · simp only [hc, decide_false, if_false, ih, Bool.false_eq_true]
theorem r_ownMethod (hn : 1000 ≤ n) (he : e < 150) (hT : TxR M e tx l) (hX : TextOk tx nf nm l) {m : Nat} : fR_ownMethod n (nI e) (nI m) M = some (ohd (mOf tx nf nm m) (-1) (fun k => nI (mpl tx nf k)), M) :=
  r_ownMethod_l n hn he hT hX nm 0 n (by omega) (by have := hX.2.2.2.1; omega)
theorem r_startPlace (hn : 1000 ≤ n) (he : e < 150) (hT : TxR M e tx l) (hX : TextOk tx nf nm l) : fR_startPlace n (nI e) M = some (nI (mpl tx nf nm - 1), M) := by
  have g0 := mpl_ge tx nf nm
  have hp := r_methodPlace n hn he hT hX (k := nm) (by omega)
  rw [if_neg (by omega)] at hp
  obtain ⟨h1, h2, h3, h4, h5, h6, h7⟩ := hX
  unfold fR_startPlace
  simp (disch := omega) only [r_tx n he hT, fR_place0, bnd_s, gf, pf, rd_at, wr_at, nI_add, pk_mul, Nat.add_zero, zt_0, zt_1, r_cellAt, r_editAt, r_objAt, y_lt, y_nlt, y_le, y_nle, y_ne, y_eq, y_n0, y_00, y_l0, y_0l, y_le0, y_m1, y_m1', y_ml, y_m0, y_0m, y_mm, y_lem, y_mle, ↓reduceIte, if_true, if_false, h1, h3, hp]
end RTX
/-- the editions' part of the reference's row -/
def RE (B : Im) (g : Nat → Int32) : Prop := ∀ e, e < bE B → relE (bed B e) (fun i => g (7220 + 70 * e + i))
theorem RE_of {B : Im} {g : Nat → Int32} (h : RelI B g) : RE B g := fun e he => (h.2.2.1 e he).1
theorem RE_c {B : Im} {g g' : Nat → Int32} (h : RE B g) (e : ∀ i, 7220 ≤ i → i < 7220 + 70 * bE B → i % 70 ≠ 16 → g' i = g i) : RE B g' := fun k hk => relE_c (h k hk) (fun _ _ => rfl) (fun i hi h6 => e _ (by omega) (by omega) (by omega))
theorem cls_text {B : Im} {e nf nm l : Nat} (h : ClsOk B e nf nm l) : TextOk (ett B e) nf nm l := by
  obtain ⟨⟨h1, h2, h3, h4, h5, h6, h7, h8⟩, h9, _⟩ := h
  exact ⟨h1, h2, h3, h4, h7, h8, fun k hk => by obtain ⟨len, q1, q2, _⟩ := h9 k hk; exact ⟨len, q1, q2⟩⟩
theorem RE_tx {B : Im} {M : MR} {e nf nm l : Nat} (hE : RE B (M 0)) (he : e < bE B) (hc : cls B e) (h : ClsOk B e nf nm l) : TxR M e (ett B e) l := by
  intro i hi
  have h1 := ((hE e he).2.2.2.2.2.2 hc).2 i (by have := h.1.2.2.2.2.2.2.2; omega) (by rw [h.1.2.2.2.2.2.1]; exact nI_lt hi (by have := h.1.2.2.2.2.2.2.2; omega))
  rw [show 7228 + 70 * e + i = 7220 + 70 * e + (8 + i) by omega]
  exact h1
theorem RE_par {B : Im} {M : MR} {e : Nat} (n : Nat) (hW : WF B) (hE : RE B (M 0)) (he : e < bE B) (hc : cls B e) : fR_parentOf n (nI e) M = some (bed B e 5, M) := by
  obtain ⟨nf, nm, l, h⟩ := wf_cls hW he hc
  have := mpl_ge (ett B e) nf nm
  have hl := h.1.2.2.2.2.2.2
  rw [r_parentOf n M (by have := hW.1; omega), show M 0 (7228 + 70 * e) = ett B e 0 from RE_tx hE he hc h 0 (by omega), h.2.2.2.1.1]
theorem RE_len {B : Im} {M : MR} {e nf nm l : Nat} (n : Nat) (hW : WF B) (hE : RE B (M 0)) (he : e < bE B) (hc : cls B e) (h : ClsOk B e nf nm l) : fR_lengthOf n (nI e) M = some (nI l, M) := by
  rw [r_lengthOf n M (by have := hW.1; omega), show 7227 + 70 * e = 7220 + 70 * e + 7 by omega, ← h.1.2.2.2.2.2.1]
  rw [show M 0 (7220 + 70 * e + 7) = bed B e 8 from ((hE e he).2.2.2.2.2.2 hc).1]
-- ===== the walk for a field, the walk for a method =====
theorem fnd_some {P : Nat → Bool} {j : Nat} : ∀ {r k}, fnd P k r = some j → k ≤ j ∧ j < k + r ∧ P j = true
  | 0, k, h => by simp [fnd] at h
  | r + 1, k, h => by
    rw [fnd] at h
    by_cases hc : P k = true
    · rw [if_pos hc] at h
      cases h
      exact ⟨Nat.le_refl _, by omega, hc⟩
    · rw [if_neg hc] at h
      obtain ⟨h1, h2, h3⟩ := fnd_some h
      exact ⟨by omega, by omega, h3⟩
theorem fnd_none {P : Nat → Bool} : ∀ {r k}, fnd P k r = none → ∀ j, k ≤ j → j < k + r → ¬ P j = true
  | 0, k, _, j, h1, h2 => by omega
  | r + 1, k, h, j, h1, h2 => by
    rw [fnd] at h
    by_cases hc : P k = true
    · rw [if_pos hc] at h; exact absurd h (by simp)
    · rw [if_neg hc] at h
      by_cases hj : j = k
      · exact hj ▸ hc
      · exact fnd_none h j (by omega) (by omega)
theorem inh_n {B : Im} {e c : Nat} {d : Int32} (h : bed B e 5 = -1) : inh B e c d = d := by unfold inh; rw [if_pos h]
theorem inh_p {B : Im} {e c p : Nat} {d : Int32} (h : bed B e 5 = nI p) (hp : p < 2147483648) : inh B e c d = bed B p c := by
  unfold inh
  rw [if_neg (by rw [h]; exact fun q => m1_n p hp q.symm), h, nI_clamp hp]
theorem r_fieldWalk {B : Im} (n : Nat) (hn : 1000 ≤ n) (hW : WF B) {o f : Nat} (ho : o < 150) (hf : f < 10) (k45 : Int32 → Int32 → Int32 → MR → Option (Int32 × MR)) (x1 : Int32) {M : MR} (hE : RE B (M 0)) (e fu : Nat) (hfu : e + 1 < fu) (he : e < bE B) (hc : cls B e) : fR_newObject_l83 n k45 fu x1 (nI o) (nI f) (nI e) M = k45 x1 (nI o) (nI (f + 1)) (if bed B e (24 + f) = nI 1 then mS (mS M 0 (17720 + 21 * o + 1 + f) (nI 1)) 0 (17720 + 21 * o + 11 + f) (bed B e (34 + f)) else M) := by
  have hB := hW.1
  induction e using Nat.strongRecOn generalizing fu with
  | ind e ih =>
    obtain ⟨nf, nm, l, h⟩ := wf_cls hW he hc
    have hT := RE_tx hE he hc h
    have hX := cls_text h
    have hl := mpl_ge (ett B e) nf nm
    have hl2 := hX.2.2.2.2.1
    have hl3 := hX.2.2.2.2.2.1
    obtain ⟨fu, rfl⟩ : ∃ k', fu = k' + 2 := ⟨fu - 2, by omega⟩
    obtain ⟨c1, c2⟩ := h.2.2.2.2.1 f hf
    have hof := r_ownField n hn (by omega) hT hX (f := f)
    rw [fR_newObject_l83]
    cases hfo : fOf (ett B e) nf f with
    | some k =>
      have hk := (fnd_some hfo).2.1
      rw [hfo] at hof c1 c2
      have hof : fR_ownField n (nI e) (nI f) M = some (nI (3 + 2 * k), M) := hof
      have c1 : bed B e (24 + f) = nI 1 := c1
      have c2 : bed B e (34 + f) = ett B e (3 + 2 * k) := c2
      have hT2 : TxR (mS M 0 (17720 + 21 * o + 1 + f) (nI 1)) e (ett B e) l := fun i hi => by rw [mS_ne2 (by omega)]; exact hT i hi
      have hof2 := r_ownField n hn (by omega) hT2 hX (f := f)
      rw [hfo] at hof2
      have hof2 : fR_ownField n (nI e) (nI f) (mS M 0 (17720 + 21 * o + 1 + f) (nI 1)) = some (nI (3 + 2 * k), mS M 0 (17720 + 21 * o + 1 + f) (nI 1)) := hof2
      rw [if_pos c1, c2]
      simp (disch := omega) only [bnd_s, gf, pf, rd_at, wr_at, nI_add, pk_mul, Nat.add_zero, zt_0, zt_1, r_cellAt, r_editAt, r_objAt, y_lt, y_nlt, y_le, y_nle, y_ne, y_eq, y_n0, y_00, y_l0, y_0l, y_le0, y_m1, y_m1', y_ml, y_m0, y_0m, y_mm, y_lem, y_mle, ↓reduceIte, if_true, if_false, hof, fR_newObject_b109, fR_newObject_b155, hof2, r_tx n (show e < 150 by omega) hT2]
    | none =>
      rw [hfo] at hof c1 c2
      have hof : fR_ownField n (nI e) (nI f) M = some (-1, M) := hof
      have c1 : bed B e (24 + f) = inh B e (24 + f) 0 := c1
      have c2 : bed B e (34 + f) = inh B e (34 + f) 0 := c2
      simp (disch := omega) only [bnd_s, gf, pf, rd_at, wr_at, nI_add, pk_mul, Nat.add_zero, zt_0, zt_1, r_cellAt, r_editAt, r_objAt, y_lt, y_nlt, y_le, y_nle, y_ne, y_eq, y_n0, y_00, y_l0, y_0l, y_le0, y_m1, y_m1', y_ml, y_m0, y_0m, y_mm, y_lem, y_mle, ↓reduceIte, if_true, if_false, hof, RE_par n hW hE he hc]
      rcases h.2.2.2.1.2 with h5 | ⟨p, h5, hp, hpc⟩
      · rw [h5, fR_newObject_l83, if_pos m1_lt, fR_newObject_b109, if_pos m1_lt, fR_newObject_b155, nI_add, c1, inh_n h5, if_neg (by decide)]
      · rw [h5, ih p hp (fu + 1) (by omega) (by omega) hpc, c1, c2, inh_p h5 (by omega), inh_p h5 (by omega)]
/-- where the method is that a class answers with -/
def MthAt (B : Im) (e m p k : Nat) (nf nm l : Nat) : Prop := p < bE B ∧ cls B p ∧ ClsOk B p nf nm l ∧ mOf (ett B p) nf nm m = some k ∧ bed B e (9 + m) = nI p ∧ bed B e (14 + m) = nI (mpl (ett B p) nf k + 1) ∧ bed B e (19 + m) = nI (mpl (ett B p) nf k + 1 + (ett B p (mpl (ett B p) nf k)).toNatClampNeg)
theorem mth_at {B : Im} (hW : WF B) {m : Nat} (hm : m < 5) (e : Nat) (he : e < bE B) (hc : cls B e) : bed B e (9 + m) = -1 ∨ ∃ p k nf nm l, MthAt B e m p k nf nm l := by
  have hB := hW.1
  induction e using Nat.strongRecOn with
  | ind e ih =>
    obtain ⟨nf, nm, l, h⟩ := wf_cls hW he hc
    obtain ⟨c1, c2, c3⟩ := h.2.2.2.2.2 m hm
    cases hfo : mOf (ett B e) nf nm m with
    | some k =>
      rw [hfo] at c1 c2 c3
      exact Or.inr ⟨e, k, nf, nm, l, he, hc, h, hfo, c1, c2, c3⟩
    | none =>
      rw [hfo] at c1 c2 c3
      have c1 : bed B e (9 + m) = inh B e (9 + m) (-1) := c1
      have c2 : bed B e (14 + m) = inh B e (14 + m) 0 := c2
      have c3 : bed B e (19 + m) = inh B e (19 + m) 0 := c3
      rcases h.2.2.2.1.2 with h5 | ⟨p, h5, hp, hpc⟩
      · left
        rw [c1, inh_n h5]
      · rcases ih p hp (by omega) hpc with hh | ⟨p', k, nf', nm', l', g1, g2, g3, g4, g5, g6, g7⟩
        · left
          rw [c1, inh_p h5 (by omega), hh]
        · right
          exact ⟨p', k, nf', nm', l', g1, g2, g3, g4, by rw [c1, inh_p h5 (by omega), g5], by rw [c2, inh_p h5 (by omega), g6], by rw [c3, inh_p h5 (by omega), g7]⟩
theorem r_methodWalk {B : Im} (n : Nat) (hn : 1000 ≤ n) (hW : WF B) {m : Nat} (hm : m < 5) (x1 : Int32) {M : MR} (hE : RE B (M 0)) (e fu : Nat) (hfu : e + 1 < fu) (he : e < bE B) (hc : cls B e) : fR_method_l10 n fu x1 (nI m) (nI e) M = fR_method_b32 n x1 (nI m) (bed B e (9 + m)) M := by
  have hB := hW.1
  induction e using Nat.strongRecOn generalizing fu with
  | ind e ih =>
    obtain ⟨nf, nm, l, h⟩ := wf_cls hW he hc
    have hT := RE_tx hE he hc h
    have hX := cls_text h
    obtain ⟨fu, rfl⟩ : ∃ k', fu = k' + 2 := ⟨fu - 2, by omega⟩
    have c1 := (h.2.2.2.2.2 m hm).1
    have hof := r_ownMethod n hn (by omega) hT hX (m := m)
    rw [fR_method_l10]
    cases hfo : mOf (ett B e) nf nm m with
    | some k =>
      have hk := (fnd_some hfo).2.1
      have hl := mpl_mono (ett B e) nf (show k ≤ nm by omega)
      have hl2 := hX.2.2.2.2.1
      have hl3 := hX.2.2.2.2.2.1
      rw [hfo] at hof c1
      have hof : fR_ownMethod n (nI e) (nI m) M = some (nI (mpl (ett B e) nf k), M) := hof
      have c1 : bed B e (9 + m) = nI e := c1
      rw [c1]
      simp (disch := omega) only [bnd_s, gf, pf, rd_at, wr_at, nI_add, pk_mul, Nat.add_zero, zt_0, zt_1, r_cellAt, r_editAt, r_objAt, y_lt, y_nlt, y_le, y_nle, y_ne, y_eq, y_n0, y_00, y_l0, y_0l, y_le0, y_m1, y_m1', y_ml, y_m0, y_0m, y_mm, y_lem, y_mle, ↓reduceIte, if_true, if_false, hof]
    | none =>
      rw [hfo] at hof c1
      have hof : fR_ownMethod n (nI e) (nI m) M = some (-1, M) := hof
      have c1 : bed B e (9 + m) = inh B e (9 + m) (-1) := c1
      simp (disch := omega) only [bnd_s, gf, pf, rd_at, wr_at, nI_add, pk_mul, Nat.add_zero, zt_0, zt_1, r_cellAt, r_editAt, r_objAt, y_lt, y_nlt, y_le, y_nle, y_ne, y_eq, y_n0, y_00, y_l0, y_0l, y_le0, y_m1, y_m1', y_ml, y_m0, y_0m, y_mm, y_lem, y_mle, ↓reduceIte, if_true, if_false, hof, RE_par n hW hE he hc]
      rcases h.2.2.2.1.2 with h5 | ⟨p, h5, hp, hpc⟩
      · rw [h5, fR_method_l10, if_pos m1_lt, c1, inh_n h5]
      · rw [h5, ih p hp (fu + 1) (by omega) (by omega) hpc, c1, inh_p h5 (by omega)]
