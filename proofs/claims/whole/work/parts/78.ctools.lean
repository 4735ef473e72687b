-- ===== what the reading of a class's text is made of =====
def hld (x : X) (k : Nat) (v : Int32) : Bool := (fnd (fun i => decide (x.2.2.1 k i 0 = v)) 0 (x.2.1 k)).isSome
theorem hld_iff {x : X} {k : Nat} {v : Int32} : hld x k v = true ↔ ∃ i, i < x.2.1 k ∧ x.2.2.1 k i 0 = v := by
  unfold hld
  cases h : fnd (fun i => decide (x.2.2.1 k i 0 = v)) 0 (x.2.1 k) with
  | none =>
    refine ⟨fun q => by simp at q, fun ⟨i, h1, h2⟩ => ?_⟩
    exact absurd (decide_eq_true h2) (fnd_none h i (Nat.zero_le _) (by omega))
  | some j =>
    obtain ⟨h1, h2, h3⟩ := fnd_some h
    exact ⟨fun _ => ⟨j, by omega, of_decide_eq_true h3⟩, fun _ => rfl⟩
section CTT
variable {ρ : Type} {S : CS} {x : X} {M : MR} {L : Nat} (n : Nat)
theorem p_holds_l {k : Nat} (hk : k < 8) (h : CR S x) {v : Int32} : ∀ r i fu, i + r = x.2.1 k → r < fu → f2_holdsFirst_l2 n fu v (nI i) (tOf k S) = some (if (fnd (fun i => decide (x.2.2.1 k i 0 = v)) i r).isSome = true then nI 1 else nI 0, tOf k S)
  | 0, i, fu, hi, hf => by
    obtain ⟨fu, rfl⟩ : ∃ q, fu = q + 1 := ⟨fu - 1, by omega⟩
    have h3 : (tOf k S).1 3 0 = nI (x.2.1 k) := (h.2.1 k hk).2.2.1
    rw [f2_holdsFirst_l2]
    simp only [cg, h3]
    rw [if_pos (nI_le (by omega) (by have := CR_lt hk h; omega)), zt_0]
    rfl
  | r + 1, i, fu, hi, hf => by
    obtain ⟨fu, rfl⟩ : ∃ q, fu = q + 1 := ⟨fu - 1, by omega⟩
    have h3 : (tOf k S).1 3 0 = nI (x.2.1 k) := (h.2.1 k hk).2.2.1
    have hl := CR_lt hk h
    rw [f2_holdsFirst_l2, fnd]
    simp only [cg, h3]
    have hg := p_get n (h.2.1 k hk) (r := i) (c := 0) (by omega) (wk_lt k).1
    have hv : (tOf k S).1 2 (i * wk k + 0) = x.2.2.1 k i 0 := h.2.2.1 k i 0 hk (by omega) (wk_lt k).1
    rw [if_neg (nI_ge (by omega) (by omega)), hg, bnd_s, hv]
    by_cases hc : x.2.2.1 k i 0 = v
    · rw [if_pos hc, zt_1, if_pos (decide_eq_true hc)]
      rfl
    · rw [if_neg hc, if_neg (show ¬ decide (x.2.2.1 k i 0 = v) = true by simp [hc]), nI_add, p_holds_l hk h r (i + 1) fu (by omega) (by omega)]
theorem x_holds {k : Nat} (hn : 2000 ≤ n) (hk : k < 8) (h : CR S x) {v : Int32} (K : Int32 → CS → Option ρ) : bT k S (f2_holdsFirst n v (tOf k S)) K = K (if hld x k v = true then nI 1 else nI 0) S := by
  unfold f2_holdsFirst
  rw [p_holds_l n hk h (x.2.1 k) 0 n (by omega) (by have := CR_lt hk h; omega), bT_s, tIn_tOf k hk]
  rfl
theorem x_there_o (h : CR S x) (hL : x.1 6 0 = nI L) (hL6 : L ≤ 60) {p : Nat} {lo hi : Int32} (hp : L ≤ p) (hp2 : p < 1000) : f1_isThere n (nI p) lo hi S = some (nI 0, S) := by
  unfold f1_isThere
  simp (disch := omega) only [bnd_s, xg0 _ h, xg1 _ h, xg2 _ h, xg3 _ h, xg4 _ h, xg5 _ h, xg6 _ h, xg7 _ h, xz0 _ h, xz1 _ h, xz2 _ h, xz3 _ h, xz4 _ h, xz5 _ h, xz6 _ h, xz7 _ h, xh5 _ h, xh6 _ h, xh7 _ h, xcg h, xcr h, nI_add, pk_mul, Nat.add_zero, zt_0, zt_1, hL, y_lt, y_nlt, y_le, y_nle, y_ne, y_eq, y_n0, y_00, y_l0, y_0l, y_le0, y_m1, y_m1', y_ml, y_m0, y_0m, y_mm, y_lem, y_mle, ↓reduceIte, if_true, if_false]
theorem x_there (h : CR S x) (hL : x.1 6 0 = nI L) (hL6 : L ≤ 60) {p b : Nat} (hp : p < L) (hb : b < 1000) : ((∃ f, f < b + 1 ∧ x.1 12 p = nI f) → f1_isThere n (nI p) (nI 0) (nI b) S = some (nI 1, S)) ∧ ((¬ ∃ f, f < b + 1 ∧ x.1 12 p = nI f) → f1_isThere n (nI p) (nI 0) (nI b) S = some (nI 0, S)) := by
  have e := rng_r hb (x.1 12 p) (some (nI 1, S)) (some (nI 0, S))
  have e2 : f1_isThere n (nI p) (nI 0) (nI b) S = if x.1 12 p < 0 then some (nI 0, S) else if nI b < x.1 12 p then some (nI 0, S) else some (nI 1, S) := by
    unfold f1_isThere
    rw [xcg h (by decide), hL, if_neg (nI_ge hp (by omega)), x_textAt n h hL hL6 hp, bnd_s, x_textAt n h hL hL6 hp, bnd_s, zt_0, zt_1, nI_0]
  rw [e2]
  exact e
theorem r_take (hr : Rd x M L) {q : Nat} (h8 : M 8 0 = nI q) (hq : q < L) : fR_take n M = some (x.1 12 q, mS M 8 0 (nI (q + 1))) := by
  have g : mS M 8 0 (nI (q + 1)) 8 0 = nI (q + 1) := mS_eq
  have l1 := hr.1.1
  unfold fR_take
  simp (disch := omega) only [gf, pf, h8, hr.1.2.2, y_lt, y_nlt, y_le, y_nle, y_ne, y_eq, y_n0, y_00, y_l0, y_0l, y_le0, y_m1, y_m1', y_ml, y_m0, y_0m, y_mm, y_lem, y_mle, ↓reduceIte, if_true, if_false, nI_add, g, pk_sub, rd_at]
  rw [show q + 1 - 1 = q by omega, mS_ne (by omega), hr.2.1 q hq]
theorem r_take_o (hr : Rd x M L) {q : Nat} (h8 : M 8 0 = nI q) (h7 : M 7 0 = -1) (hq : L ≤ q) (hq2 : q < 1000) : fR_take n M = some (nI 0, mS M 7 0 (nI L)) := by
  have l1 := hr.1.1
  unfold fR_take fR_wrong
  simp (disch := omega) only [gf, pf, h8, hr.1.2.2, y_lt, y_nlt, y_le, y_nle, y_ne, y_eq, y_n0, y_00, y_l0, y_0l, y_le0, y_m1, y_m1', y_ml, y_m0, y_0m, y_mm, y_lem, y_mle, ↓reduceIte, if_true, if_false, h7, bnd_s]
/-- a fault that was found goes through -/
theorem r_nm_l {f k : Nat} {x1 x2 x3 x4 x5 : Int32} (h7 : M 7 0 = nI f) (hf : f < 1000) : fR_names_l6 n (k + 1) x1 x2 x3 x4 x5 M = some (0, M) := by
  rw [fR_names_l6]
  simp (disch := omega) only [gf, h7, y_lt, y_nlt, y_le, y_nle, y_ne, y_eq, y_n0, y_00, y_l0, y_0l, y_le0, y_m1, y_m1', y_ml, y_m0, y_0m, y_mm, y_lem, y_mle, ↓reduceIte, if_true, if_false]
  split <;> rfl
theorem r_nm_66 {f k : Nat} {x1 x2 x3 x4 x5 x7 : Int32} (h7 : M 7 0 = nI f) (hf : f < 1000) : fR_names_b66 n (fR_names_l6 n (k + 1)) x1 x2 x3 x4 x5 x7 M = some (0, M) := by
  unfold fR_names_b66 fR_names_b83 fR_names_b107 fR_names_b175
  simp (disch := omega) only [gf, h7, y_lt, y_nlt, y_le, y_nle, y_ne, y_eq, y_n0, y_00, y_l0, y_0l, y_le0, y_m1, y_m1', y_ml, y_m0, y_0m, y_mm, y_lem, y_mle, ↓reduceIte, if_true, if_false, r_nm_l n h7 hf]
  split <;> rfl
theorem r_nm (hn : 1000 ≤ n) {f : Nat} {x1 x2 x3 : Int32} (h7 : M 7 0 = nI f) (hf : f < 1000) : fR_names n x1 x2 x3 M = some (0, M) := by
  unfold fR_names
  obtain ⟨m, hm⟩ : ∃ q, n = q + 1 := ⟨n - 1, by omega⟩
  rw [show fR_names_l6 n n = fR_names_l6 n (m + 1) by rw [← hm]]
  exact r_nm_l n h7 hf
theorem r_ct_129 (hn : 1000 ≤ n) {f : Nat} {x3 : Int32} (h7 : M 7 0 = nI f) (hf : f < 1000) : fR_classText_b129 n x3 M = some (0, M) := by
  unfold fR_classText_b129
  rw [r_nm n hn h7 hf, bnd_s]
  simp (disch := omega) only [gf, h7, y_lt, y_nlt, y_le, y_nle, y_ne, y_eq, y_n0, y_00, y_l0, y_0l, y_le0, y_m1, y_m1', y_ml, y_m0, y_0m, y_mm, y_lem, y_mle, ↓reduceIte, if_true, if_false]
theorem r_ct_107 (hn : 1000 ≤ n) {f : Nat} {x2 s0 : Int32} (h7 : M 7 0 = nI f) (hf : f < 1000) : fR_classText_b107 n x2 s0 M = some (0, M) := by
  unfold fR_classText_b107
  simp (disch := omega) only [gf, h7, y_lt, y_nlt, y_le, y_nle, y_ne, y_eq, y_n0, y_00, y_l0, y_0l, y_le0, y_m1, y_m1', y_ml, y_m0, y_0m, y_mm, y_lem, y_mle, ↓reduceIte, if_true, if_false]
  exact r_ct_129 n hn h7 hf
theorem r_ct_79 (hn : 1000 ≤ n) {f : Nat} {x3 : Int32} (h7 : M 7 0 = nI f) (hf : f < 1000) : fR_classText_b79 n x3 M = some (0, M) := by
  unfold fR_classText_b79
  rw [r_nm n hn h7 hf, bnd_s]
  simp (disch := omega) only [gf, h7, y_lt, y_nlt, y_le, y_nle, y_ne, y_eq, y_n0, y_00, y_l0, y_0l, y_le0, y_m1, y_m1', y_ml, y_m0, y_0m, y_mm, y_lem, y_mle, ↓reduceIte, if_true, if_false]
  exact r_ct_107 n hn h7 hf
theorem r_ct_57 (hn : 1000 ≤ n) {f : Nat} {x2 s0 : Int32} (h7 : M 7 0 = nI f) (hf : f < 1000) : fR_classText_b57 n x2 s0 M = some (0, M) := by
  unfold fR_classText_b57
  simp (disch := omega) only [gf, h7, y_lt, y_nlt, y_le, y_nle, y_ne, y_eq, y_n0, y_00, y_l0, y_0l, y_le0, y_m1, y_m1', y_ml, y_m0, y_0m, y_mm, y_lem, y_mle, ↓reduceIte, if_true, if_false]
  exact r_ct_79 n hn h7 hf
theorem r_ct_37 (hn : 1000 ≤ n) {f : Nat} (h7 : M 7 0 = nI f) (hf : f < 1000) : fR_classText_b37 n M = some (0, M) := by
  unfold fR_classText_b37
  simp (disch := omega) only [gf, h7, y_lt, y_nlt, y_le, y_nle, y_ne, y_eq, y_n0, y_00, y_l0, y_0l, y_le0, y_m1, y_m1', y_ml, y_m0, y_0m, y_mm, y_lem, y_mle, ↓reduceIte, if_true, if_false]
  exact r_ct_57 n hn h7 hf
theorem r_wrong {v : Int32} (h7 : M 7 0 = -1) : fR_wrong n v M = some (0, mS M 7 0 v) := by
  unfold fR_wrong
  simp (disch := omega) only [gf, pf, h7, y_lt, y_nlt, y_le, y_nle, y_ne, y_eq, y_n0, y_00, y_l0, y_0l, y_le0, y_m1, y_m1', y_ml, y_m0, y_0m, y_mm, y_lem, y_mle, ↓reduceIte, if_true, if_false]
end CTT
-- ===== frames of that reading =====
def FX2 (x x' : X) : Prop := (∀ a, a ≠ 13 → a ≠ 7 → a ≠ 14 → a ≠ 8 → a ≠ 9 → x'.1 a = x.1 a) ∧ (∀ k, 2 ≤ k → x'.2.1 k = x.2.1 k ∧ x'.2.2.1 k = x.2.2.1 k) ∧ x'.2.2.2 = x.2.2.2
def FM2 (M M' : MR) : Prop := ∀ a, a ≠ 5 → a ≠ 7 → a ≠ 8 → a ≠ 9 → M' a = M a
theorem FX2_refl (x : X) : FX2 x x := ⟨fun _ _ _ _ _ _ => rfl, fun _ _ => ⟨rfl, rfl⟩, rfl⟩
theorem FX2_trans {x x' x'' : X} (h : FX2 x x') (h' : FX2 x' x'') : FX2 x x'' := ⟨fun a a1 a2 a3 a4 a5 => (h'.1 a a1 a2 a3 a4 a5).trans (h.1 a a1 a2 a3 a4 a5), fun k hk => ⟨((h'.2.1 k hk).1).trans (h.2.1 k hk).1, ((h'.2.1 k hk).2).trans (h.2.1 k hk).2⟩, h'.2.2.trans h.2.2⟩
theorem FM2_refl (M : MR) : FM2 M M := fun _ _ _ _ _ => rfl
theorem FM2_trans {x x' x'' : MR} (h : FM2 x x') (h' : FM2 x' x'') : FM2 x x'' := fun a a1 a2 a3 a4 => (h' a a1 a2 a3 a4).trans (h a a1 a2 a3 a4)
theorem FX2_of {x x' : X} (h : FX x x') : FX2 x x' := ⟨fun a a1 a2 _ _ _ => h.1 a a1 a2, fun k _ => by rw [h.2]; exact ⟨rfl, rfl⟩, by rw [h.2]⟩
theorem FM2_of {M M' : MR} (h : FM M M') : FM2 M M' := fun a a1 a2 _ a4 => h a a1 a2 a4
theorem FX2_im {x x' : X} (h : FX2 x x') : im x' = im x := by
  unfold im
  rw [(h.2.1 5 (by omega)).1, (h.2.1 6 (by omega)).1, (h.2.1 7 (by omega)).1, (h.2.1 5 (by omega)).2, (h.2.1 6 (by omega)).2, (h.2.1 7 (by omega)).2, h.1 20 (by omega) (by omega) (by omega) (by omega) (by omega)]
theorem FM2_7 (M : MR) (v : Int32) : FM2 M (mS M 7 0 v) := fun _ _ a2 _ _ => mS_o a2
theorem FM2_8 (M : MR) (v : Int32) : FM2 M (mS M 8 0 v) := fun _ _ _ a3 _ => mS_o a3
/-- a relation that neither the place nor the tables nor the fault touch -/
theorem Rd_c {x x' : X} {M M' : MR} {L : Nat} (h : Rd x M L) (hx : FX2 x x') (hm : FM2 M M') (e13 : x'.1 13 = x.1 13) (e7 : x'.1 7 = x.1 7) (e5 : M' 5 = M 5) (e9 : M' 9 = M 9) : Rd x' M' L := by
  have hi := FX2_im hx
  obtain ⟨⟨a1, a2, a3⟩, a4, a5, a6, a7⟩ := h
  refine ⟨⟨a1, by rw [hx.1 6 (by omega) (by omega) (by omega) (by omega) (by omega)]; exact a2, by rw [hm 6 (by omega) (by omega) (by omega) (by omega)]; exact a3⟩, fun i hi => ?_, fun i hi => ?_, fun j hj => ?_, fun e he => ?_⟩
  · rw [hx.1 12 (by omega) (by omega) (by omega) (by omega) (by omega), hm 4 (by omega) (by omega) (by omega) (by omega)]; exact a4 i hi
  · rw [e13, e5]; exact a5 i hi
  · rw [hi, hx.1 10 (by omega) (by omega) (by omega) (by omega) (by omega), hx.1 11 (by omega) (by omega) (by omega) (by omega) (by omega)]; exact a6 j hj
  · rw [hi, e7, e9]; exact a7 e he
theorem FX2_14 (x : X) (a : Nat) (ha : a = 14 ∨ a = 8 ∨ a = 9) (v : Int32) : FX2 x (pv x a 0 v) := by
  refine ⟨fun b a1 a2 a3 a4 a5 => ?_, fun _ _ => ⟨rfl, rfl⟩, rfl⟩
  show mS x.1 a 0 v b = _
  rw [mS_o (by omega)]
theorem pv_o {x : X} {a i b : Nat} {v : Int32} (h : b ≠ a) : (pv x a i v).1 b = x.1 b := mS_o h
theorem pv_e {x : X} {a i : Nat} {v : Int32} : (pv x a i v).1 a i = v := mS_eq
