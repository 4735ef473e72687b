def argR (B : Im) (a : Nat) (k : Int32) : Prop := (a = 1 → stf B k 0) ∧ (a = 2 ∨ a = 3 ∨ a = 4 → stf B k 1) ∧ (a = 5 ∨ a = 6 → ∃ f, f < 10 ∧ k = nI f) ∧ (a = 7 → ∃ m, m < 5 ∧ k = nI m)
section ARG
variable {S : CS} {x : X} {M : MR} {L : Nat} (n : Nat)
theorem rng {k : Int32} {b : Nat} (hb : b < 1000) : (∃ f, f < b ∧ k = nI f) ∨ ((k < 0 ∨ nI b ≤ k) ∧ ¬ ∃ f, f < b ∧ k = nI f) := by
  rcases i_cases k with hk | ⟨f, hf, rfl⟩
  · exact Or.inr ⟨Or.inl hk, fun ⟨f, hf, e⟩ => nI_pos (by omega) (e ▸ hk)⟩
  · by_cases h : f < b
    · exact Or.inl ⟨f, h, rfl⟩
    · exact Or.inr ⟨Or.inr (nI_le (by omega) hf), fun ⟨f', hf', e⟩ => h (by rw [nI_eq hf (by omega)] at e; omega)⟩
theorem rng_k {ρ : Type} {b : Nat} (hb : b < 1000) (k : Int32) (A Z : ρ) : ((∃ f, f < b ∧ k = nI f) → (if k < 0 then Z else if nI b ≤ k then Z else A) = A) ∧ ((¬ ∃ f, f < b ∧ k = nI f) → (if k < 0 then Z else if nI b ≤ k then Z else A) = Z) := by
  refine ⟨fun h => ?_, fun h => ?_⟩
  · obtain ⟨f, hf, rfl⟩ := h
    rw [if_neg (nI_pos (by omega)), if_neg (nI_ge hf (by omega))]
  · have h := ((rng (k := k) hb).resolve_left h).1
    by_cases h0 : k < 0
    · rw [if_pos h0]
    · rw [if_neg h0, if_pos (h.resolve_left h0)]
theorem rng_r {ρ : Type} {b : Nat} (hb : b < 1000) (k : Int32) (A Z : ρ) : ((∃ f, f < b + 1 ∧ k = nI f) → (if k < 0 then Z else if nI b < k then Z else A) = A) ∧ ((¬ ∃ f, f < b + 1 ∧ k = nI f) → (if k < 0 then Z else if nI b < k then Z else A) = Z) := by
  refine ⟨fun h => ?_, fun h => ?_⟩
  · obtain ⟨f, hf, rfl⟩ := h
    rw [if_neg (nI_pos (by omega)), if_neg (nI_nlt (by omega) (by omega))]
  · rcases i_cases k with hk | ⟨f, hf, rfl⟩
    · rw [if_pos hk]
    · rw [if_neg (nI_pos hf), if_pos (nI_lt (Nat.lt_of_not_le (fun q => h ⟨f, by omega, rfl⟩)) hf)]
theorem x_int (h : CR S x) (hN : NwR x) (hW : WF (im x)) {a : Nat} {k : Int32} (ha : a ≤ 7) : (argR (im x) a k → f1_isIntRight n (nI a) k S = some (nI 1, S)) ∧ (¬ argR (im x) a k → f1_isIntRight n (nI a) k S = some (nI 0, S)) := by
  have hB := hW.1
  unfold f1_isIntRight
  have hh : a = 0 ∨ a = 1 ∨ (a = 2 ∨ a = 3 ∨ a = 4) ∨ (a = 5 ∨ a = 6) ∨ a = 7 := by omega
  rcases hh with rfl | rfl | ha | ha | rfl
  · rw [if_pos rfl, zt_1]
    exact ⟨fun _ => rfl, fun w => absurd ⟨fun q => by omega, fun q => by omega, fun q => by omega, fun q => by omega⟩ w⟩
  · simp (disch := omega) only [y_lt, y_nlt, y_le, y_nle, y_ne, y_eq, y_n0, y_00, y_l0, y_0l, y_le0, y_m1, y_m1', y_ml, y_m0, y_0m, y_mm, y_lem, y_mle, ↓reduceIte, if_true, if_false]
    refine ⟨fun w => ?_, fun w => ?_⟩
    · rw [x_stands_t n h hN (by omega) (w.1 rfl), bnd_s, zt_1]
    · rw [x_stands_f n h hN hW (fun q => w ⟨fun _ => q, fun q => by omega, fun q => by omega, fun q => by omega⟩), bnd_s, zt_0]
  · have e : (argR (im x) a k → bnd (f1_standsFor n k (nI 1) S) (fun v3 S3 => zt v3 (some (v3, S3))) = some (nI 1, S)) ∧ (¬ argR (im x) a k → bnd (f1_standsFor n k (nI 1) S) (fun v3 S3 => zt v3 (some (v3, S3))) = some (nI 0, S)) := by
      refine ⟨fun w => ?_, fun w => ?_⟩
      · rw [x_stands_t n h hN (by omega) (w.2.1 ha), bnd_s, zt_1]
      · rw [x_stands_f n h hN hW (fun q => w ⟨fun q => by omega, fun _ => q, fun q => by omega, fun q => by omega⟩), bnd_s, zt_0]
    rcases ha with rfl | rfl | rfl <;>
    · simp (disch := omega) only [y_lt, y_nlt, y_le, y_nle, y_ne, y_eq, y_n0, y_00, y_l0, y_0l, y_le0, y_m1, y_m1', y_ml, y_m0, y_0m, y_mm, y_lem, y_mle, ↓reduceIte, if_true, if_false]
      exact e
  · have e := rng_k (b := 10) (by omega) k (some (nI 1, S)) (some (nI 0, S))
    have e2 : (argR (im x) a k → (if k < 0 then some (nI 0, S) else if nI 10 ≤ k then some (nI 0, S) else some (nI 1, S)) = some (nI 1, S)) ∧ (¬ argR (im x) a k → (if k < 0 then some (nI 0, S) else if nI 10 ≤ k then some (nI 0, S) else some (nI 1, S)) = some (nI 0, S)) :=
      ⟨fun w => e.1 (w.2.2.1 ha), fun w => e.2 (fun q => w ⟨fun q => by omega, fun q => by omega, fun _ => q, fun q => by omega⟩)⟩
    rcases ha with rfl | rfl
    · rw [if_neg (by decide), if_neg (by decide), if_neg (by decide), if_neg (by decide), if_neg (by decide), if_pos rfl, zt_0, zt_1]; exact e2
    · rw [if_neg (by decide), if_neg (by decide), if_neg (by decide), if_neg (by decide), if_neg (by decide), if_neg (by decide), if_pos rfl, zt_0, zt_1]; exact e2
  · rw [if_neg (by decide), if_neg (by decide), if_neg (by decide), if_neg (by decide), if_neg (by decide), if_neg (by decide), if_neg (by decide), if_pos rfl, zt_0, zt_1]
    have e := rng_k (b := 5) (by omega) k (some (nI 1, S)) (some (nI 0, S))
    exact ⟨fun w => e.1 (w.2.2.2 rfl), fun w => e.2 (fun q => w ⟨fun q => by omega, fun q => by omega, fun q => by omega, fun _ => q⟩)⟩
/-- the reference's state behind an act that is right -/
def aM (B : Im) (M : MR) (a p : Nat) (k : Int32) (M' : MR) : Prop := ((1 ≤ a ∧ a ≤ 4) ∧ ∃ j e, j < 16 ∧ e < bE B ∧ k = nI j ∧ bnw B j = nI e ∧ bed B e 2 = nI (if a = 1 then 0 else 1) ∧ M' = bdM M (p + 1) e) ∨ (¬ (1 ≤ a ∧ a ≤ 4) ∧ M' = M)
theorem r_b85 (hR : RelI (im x) (M 0)) (hW : WF (im x)) {a p : Nat} {k : Int32} (ha : a ≤ 18) (hp : p + 1 < 60 ∨ 8 ≤ a) : (argR (im x) a k → ∃ M', fR_isActRight_b85 n (nI p) (nI a) k M = some (nI 1, M') ∧ aM (im x) M a p k M') ∧ (¬ argR (im x) a k → fR_isActRight_b85 n (nI p) (nI a) k M = some (nI 0, M)) := by
  have hB := hW.1
  unfold fR_isActRight_b85
  have hh : (a = 0 ∨ 8 ≤ a) ∨ a = 1 ∨ (a = 2 ∨ a = 3 ∨ a = 4) ∨ (a = 5 ∨ a = 6) ∨ a = 7 := by omega
  rcases hh with ha | rfl | ha | ha | rfl
  · simp (disch := omega) only [y_lt, y_nlt, y_le, y_nle, y_ne, y_eq, y_n0, y_00, y_l0, y_0l, y_le0, y_m1, y_m1', y_ml, y_m0, y_0m, y_mm, y_lem, y_mle, ↓reduceIte, if_true, if_false, zt_1]
    exact ⟨fun _ => ⟨M, rfl, Or.inr ⟨by omega, rfl⟩⟩, fun w => absurd ⟨fun q => by omega, fun q => by omega, fun q => by omega, fun q => by omega⟩ w⟩
  · rw [if_pos rfl, nI_add]
    refine ⟨fun w => ?_, fun w => ?_⟩
    · obtain ⟨j, e, hj, he, rfl, h1, h2⟩ := w.1 rfl
      rw [r_means_t n hR hW (by omega) hj he h1 h2, bnd_s, zt_1]
      exact ⟨_, rfl, Or.inl ⟨by omega, j, e, hj, he, rfl, h1, h2, rfl⟩⟩
    · rw [r_means_f n hR hW (fun q => w ⟨fun _ => q, fun q => by omega, fun q => by omega, fun q => by omega⟩), bnd_s, zt_0]
  · have e : (argR (im x) a k → ∃ M', bnd (fR_means n (nI (p + 1)) k (nI 1) M) (fun v3 S3 => zt v3 (some (v3, S3))) = some (nI 1, M') ∧ aM (im x) M a p k M') ∧ (¬ argR (im x) a k → bnd (fR_means n (nI (p + 1)) k (nI 1) M) (fun v3 S3 => zt v3 (some (v3, S3))) = some (nI 0, M)) := by
      refine ⟨fun w => ?_, fun w => ?_⟩
      · obtain ⟨j, e, hj, he, rfl, h1, h2⟩ := w.2.1 ha
        rw [r_means_t n hR hW (by omega) hj he h1 h2, bnd_s, zt_1]
        exact ⟨_, rfl, Or.inl ⟨by omega, j, e, hj, he, rfl, h1, by rw [if_neg (by omega)]; exact h2, rfl⟩⟩
      · rw [r_means_f n hR hW (fun q => w ⟨fun q => by omega, fun _ => q, fun q => by omega, fun q => by omega⟩), bnd_s, zt_0]
    rcases ha with rfl | rfl | rfl
    · rw [if_neg (by decide), if_pos rfl, nI_add]; exact e
    · rw [if_neg (by decide), if_neg (by decide), if_pos rfl, nI_add]; exact e
    · rw [if_neg (by decide), if_neg (by decide), if_neg (by decide), if_pos rfl, nI_add]; exact e
  · have e := rng_r (b := 9) (by omega) k (some (nI 1, M)) (some (nI 0, M))
    have e2 : (argR (im x) a k → ∃ M', (if k < 0 then some (nI 0, M) else if nI 9 < k then some (nI 0, M) else some (nI 1, M)) = some (nI 1, M') ∧ aM (im x) M a p k M') ∧ (¬ argR (im x) a k → (if k < 0 then some (nI 0, M) else if nI 9 < k then some (nI 0, M) else some (nI 1, M)) = some (nI 0, M)) :=
      ⟨fun w => ⟨M, e.1 (w.2.2.1 ha), Or.inr ⟨by omega, rfl⟩⟩, fun w => e.2 (fun q => w ⟨fun q => by omega, fun q => by omega, fun _ => q, fun q => by omega⟩)⟩
    rcases ha with rfl | rfl
    · rw [if_neg (by decide), if_neg (by decide), if_neg (by decide), if_neg (by decide), if_pos rfl, zt_0, zt_1]; exact e2
    · rw [if_neg (by decide), if_neg (by decide), if_neg (by decide), if_neg (by decide), if_neg (by decide), if_pos rfl, zt_0, zt_1]; exact e2
  · rw [if_neg (by decide), if_neg (by decide), if_neg (by decide), if_neg (by decide), if_neg (by decide), if_neg (by decide), if_pos rfl, zt_0, zt_1]
    have e := rng_r (b := 4) (by omega) k (some (nI 1, M)) (some (nI 0, M))
    exact ⟨fun w => ⟨M, e.1 (w.2.2.2 rfl), Or.inr ⟨by omega, rfl⟩⟩, fun w => e.2 (fun q => w ⟨fun q => by omega, fun q => by omega, fun q => by omega, fun _ => q⟩)⟩
theorem r_code_f {p en h k : Nat} {b : Bool} (hpe : p < en) (he : en ≤ 60) (h7 : M 7 0 = -1) (e : fR_isActRight n (nI p) (nI en) (nI h) (imI b) M = some (nI 0, M)) : fR_code_l6 n (k + 2) (nI en) (imI b) (nI p) (nI h) M = some (0, mS M 7 0 (nI p)) := by
  have g : mS M 7 0 (nI p) 7 0 = nI p := mS_eq
  rw [fR_code_l6, if_neg (nI_ge hpe (by omega))]
  simp (disch := omega) only [gf, h7, y_lt, y_nlt, y_le, y_nle, y_ne, y_eq, y_n0, y_00, y_l0, y_0l, y_le0, y_m1, y_m1', y_ml, y_m0, y_0m, y_mm, y_lem, y_mle, ↓reduceIte, if_true, if_false, e, bnd_s, fR_wrong, pf]
  rw [fR_code_l6, if_neg (nI_ge hpe (by omega))]
  simp (disch := omega) only [gf, g, y_lt, y_nlt, y_le, y_nle, y_ne, y_eq, y_n0, y_00, y_l0, y_0l, y_le0, y_m1, y_m1', y_ml, y_m0, y_0m, y_mm, y_lem, y_mle, ↓reduceIte, if_true, if_false, fR_code_b84]
theorem r_code_t {M1 : MR} {a p en h k : Nat} {b : Bool} (ha : a ≤ 18) (hpe : p < en) (he : en ≤ 60) (hh : h ≤ 60) (hk : tks a ≤ h) (h7 : M 7 0 = -1) (ht : M1 4 p = nI a) (e : fR_isActRight n (nI p) (nI en) (nI h) (imI b) M = some (nI 1, M1)) : fR_code_l6 n (k + 1) (nI en) (imI b) (nI p) (nI h) M = fR_code_l6 n k (nI en) (imI b) (nI (p + sz a)) (nI (h + 1 - tks a)) M1 := by
  rw [fR_code_l6, if_neg (nI_ge hpe (by omega))]
  simp (disch := omega) only [gf, h7, y_lt, y_nlt, y_le, y_nle, y_ne, y_eq, y_n0, y_00, y_l0, y_0l, y_le0, y_m1, y_m1', y_ml, y_m0, y_0m, y_mm, y_lem, y_mle, ↓reduceIte, if_true, if_false]
  rw [e, bnd_s, if_neg n1_0, rd_at (by omega) (by decide), ht, r_takes n M1 ha, bnd_s]
  simp only [fR_code_b69]
  rw [rd_at (by omega) (by decide), ht, r_hasInt n M1 ha, bnd_s, nI_adj hk (by omega), nI_add, nI_add]
  unfold sz
  by_cases h7 : a ≤ 7
  · rw [if_pos h7, if_neg n1_0, if_pos h7]
  · rw [if_neg h7, if_pos n0_0, if_neg h7]
theorem r_code_end {en h k : Nat} {b : Bool} (he : en ≤ 60) (h7 : M 7 0 = -1) (hh : h ≤ 60) : fR_code_l6 n (k + 1) (nI en) (imI b) (nI en) (nI h) M = some (0, if h = 1 then M else mS M 7 0 (nI en)) := by
  rw [fR_code_l6, if_pos (Int32.le_refl _), fR_code_b84]
  simp (disch := omega) only [gf, h7, y_lt, y_nlt, y_le, y_nle, y_ne, y_eq, y_n0, y_00, y_l0, y_0l, y_le0, y_m1, y_m1', y_ml, y_m0, y_0m, y_mm, y_lem, y_mle, ↓reduceIte, if_true, if_false]
  by_cases h1 : h = 1
  · rw [if_pos h1, if_pos (by rw [h1])]
  · rw [if_neg h1, if_neg (fun w => h1 ((nI_eq (by omega) (by omega)).mp w))]
    simp (disch := omega) only [gf, h7, y_lt, y_nlt, y_le, y_nle, y_ne, y_eq, y_n0, y_00, y_l0, y_0l, y_le0, y_m1, y_m1', y_ml, y_m0, y_0m, y_mm, y_lem, y_mle, ↓reduceIte, if_true, if_false, bnd_s, fR_wrong, pf]
theorem x_code_end {en h i k : Nat} {b : Bool} (hh : h ≤ 60) : f1_codeFault_l9 n (k + 1) (nI en) (imI b) (nI en) (nI h) (nI i) S = some (if h = 1 then -1 else nI en, S) := by
  have e : f1_codeFault_b161 n (nI en) (nI h) S = some (if h = 1 then -1 else nI en, S) := by
    unfold f1_codeFault_b161
    by_cases h1 : h = 1
    · rw [if_pos h1, if_pos (by rw [h1])]
    · rw [if_neg h1, if_neg (fun w => h1 ((nI_eq (by omega) (by omega)).mp w))]
  rw [f1_codeFault_l9, e, if_pos (Int32.le_refl (nI en))]
  split <;> rfl
theorem x_b122 {a h p i k en : Nat} {b : Bool} (ha : a ≤ 18) (hk : tks a ≤ h) (hh : h ≤ 60) (hC : CR S x) (hN : NwR x) (hL : x.1 6 0 = nI L) (hL6 : L ≤ 60) (hp : a ≤ 7 → p + 1 < L) (x' : X) (hx : ((1 ≤ a ∧ a ≤ 4) ∧ ∃ j, j < 16 ∧ x.1 12 (p + 1) = nI j ∧ x' = bdx x (p + 1) j) ∨ (¬ (1 ≤ a ∧ a ≤ 4) ∧ x' = x)) : ∃ S', CR S' x' ∧ f1_codeFault_b122 n (f1_codeFault_l9 n k) (nI en) (imI b) (nI p) (nI h) (nI i) (nI a) (nI (p + sz a)) S = f1_codeFault_l9 n k (nI en) (imI b) (nI (p + sz a)) (nI (h + 1 - tks a)) (nI (i + 1)) S' := by
  have e : ∀ S', f1_codeFault_b138 n (f1_codeFault_l9 n k) (nI en) (imI b) (nI h) (nI i) (nI a) (nI (p + sz a)) S' = f1_codeFault_l9 n k (nI en) (imI b) (nI (p + sz a)) (nI (h + 1 - tks a)) (nI (i + 1)) S' := by
    intro S'
    unfold f1_codeFault_b138
    rw [tkr_at ha, nI_adj hk (by omega), nI_add]
  unfold f1_codeFault_b122 f1_usesName
  rcases hx with ⟨h1, j, hj, ht, rfl⟩ | ⟨h1, rfl⟩
  · obtain ⟨S1, e1, h2⟩ := x_bind n hC hN hL hL6 (hp (by omega)) hj ht
    refine ⟨S1, h2, ?_⟩
    simp (disch := omega) only [y_lt, y_nlt, y_le, y_nle, y_ne, y_eq, y_n0, y_00, y_l0, y_0l, y_le0, y_m1, y_m1', y_ml, y_m0, y_0m, y_mm, y_lem, y_mle, ↓reduceIte, if_true, if_false, zt_1, bnd_s, nI_add]
    rw [e1, bnd_s, e]
  · refine ⟨S, hC, ?_⟩
    by_cases h0 : a = 0
    · simp (disch := omega) only [y_lt, y_nlt, y_le, y_nle, y_ne, y_eq, y_n0, y_00, y_l0, y_0l, y_le0, y_m1, y_m1', y_ml, y_m0, y_0m, y_mm, y_lem, y_mle, ↓reduceIte, if_true, if_false, zt_0, bnd_s]
      rw [e]
    · simp (disch := omega) only [y_lt, y_nlt, y_le, y_nle, y_ne, y_eq, y_n0, y_00, y_l0, y_0l, y_le0, y_m1, y_m1', y_ml, y_m0, y_0m, y_mm, y_lem, y_mle, ↓reduceIte, if_true, if_false, zt_0, bnd_s]
      rw [e]
end ARG
