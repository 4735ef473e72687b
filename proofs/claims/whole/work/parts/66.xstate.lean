-- ===== a run that ends with an answer and a state of a kind =====
def Ru {ρ σ : Type} (F : Option (ρ × σ)) (r : ρ) (Q : σ → Prop) : Prop := ∃ s, F = some (r, s) ∧ Q s
section RU
variable {ρ σ α β : Type} {r : ρ} {Q : σ → Prop}
theorem Ru_some {s : σ} (h : Q s) : Ru (some (r, s)) r Q := ⟨s, rfl, h⟩
theorem Ru_bnd {F : Option (α × β)} {a : α} {P : β → Prop} {K : α → β → Option (ρ × σ)} (h : Ru F a P) (k : ∀ s, P s → Ru (K a s) r Q) : Ru (bnd F K) r Q := by
  obtain ⟨s, rfl, hs⟩ := h
  exact k s hs
theorem Ru_imp {F : Option (ρ × σ)} {P : σ → Prop} (h : Ru F r P) (k : ∀ s, P s → Q s) : Ru F r Q := by
  obtain ⟨s, e, hs⟩ := h
  exact ⟨s, e, k s hs⟩
theorem Ru_eq {F : Option (ρ × σ)} {s : σ} (h : F = some (r, s)) (q : Q s) : Ru F r Q := ⟨s, h, q⟩
theorem Ru_t {c : Prop} [Decidable c] {A B : Option (ρ × σ)} (h : c) (k : Ru A r Q) : Ru (if c then A else B) r Q := by rw [if_pos h]; exact k
theorem Ru_f {c : Prop} [Decidable c] {A B : Option (ρ × σ)} (h : ¬ c) (k : Ru B r Q) : Ru (if c then A else B) r Q := by rw [if_neg h]; exact k
theorem Ru_z {v : Int32} {A : Option (ρ × σ)} (h : bo v) (k : Ru A r Q) : Ru (zt v A) r Q := by rw [zt_b h]; exact k
theorem Ru_rd {M : MR} {j len i : Nat} {K : Int32 → Option (ρ × σ)} (h : i < len) (hl : len < 2147483648) (k : Ru (K (M j i)) r Q) : Ru (rd M j len (nI i) K) r Q := by rw [rd_at h hl]; exact k
theorem Ru_wr {M : MR} {j len i : Nat} {v : Int32} {K : MR → Option (ρ × σ)} (h : i < len) (hl : len < 2147483648) (k : Ru (K (mS M j i v)) r Q) : Ru (wr M j len (nI i) v K) r Q := by rw [wr_at h hl]; exact k
theorem Ru_wz {M : MR} {j len i : Nat} {v : Int32} {K : MR → Option (ρ × σ)} (hv : bo v) (h : i < len) (hl : len < 2147483648) (k : Ru (K (mS M j i v)) r Q) : Ru (wz M j len (nI i) v K) r Q := by rw [wz_at hv h hl]; exact k
end RU
-- ===== the class's state as plain functions: single values and rows of ints, numbers of rows, tables =====
abbrev X : Type := (Nat → Nat → Int32) × (Nat → Nat) × (Nat → Nat → Nat → Int32) × Nat × Nat
def uf {α : Type} (f : Nat → α) (k : Nat) (a : α) : Nat → α := fun k' => if k' = k then a else f k'
theorem uf_eq {α : Type} {f : Nat → α} {k : Nat} {a : α} : uf f k a k = a := if_pos rfl
theorem uf_ne {α : Type} {f : Nat → α} {k k' : Nat} {a : α} (h : k' ≠ k) : uf f k a k' = f k' := if_neg h
def st2 (f : Nat → Nat → Int32) (r c : Nat) (w : Int32) : Nat → Nat → Int32 := fun r' c' => if r' = r ∧ c' = c then w else f r' c'
def pv (x : X) (a i : Nat) (w : Int32) : X := (mS x.1 a i w, x.2)
def st (x : X) (k r c : Nat) (w : Int32) : X := (x.1, x.2.1, uf x.2.2.1 k (st2 (x.2.2.1 k) r c w), x.2.2.2)
def ro (x : X) (k R : Nat) : X := (x.1, uf x.2.1 k R, x.2.2)
def ad (x : X) (k : Nat) : X := (x.1, uf x.2.1 k (x.2.1 k + 1), uf x.2.2.1 k (fun r c => if r = x.2.1 k then 0 else x.2.2.1 k r c), x.2.2.2)
-- ===== what room was taken =====
def tri : Nat → Nat
  | 0 => 0
  | n + 1 => tri n + (n + 1)
def sum8 (f : Nat → Nat) : Nat := f 0 + f 1 + f 2 + f 3 + f 4 + f 5 + f 6 + f 7
theorem tri_le {a b : Nat} (h : a ≤ b) : tri a ≤ tri b := by
  induction h with
  | refl => exact Nat.le_refl _
  | step h ih => exact Nat.le_trans ih (Nat.le_add_right _ _)
theorem tri_lt {a b : Nat} (h : a < b) : tri a + b ≤ tri b := by
  obtain ⟨b, rfl⟩ : ∃ b', b = b' + 1 := ⟨b - 1, by omega⟩
  have := tri_le (show a ≤ b by omega)
  show tri a + (b + 1) ≤ tri b + (b + 1)
  omega
def GI (s : Nat → Nat) (g1 g2 : Nat) : Prop := ∃ ns : Nat → Nat, (∀ k, k < 8 → s (10 + k) = ns k * wk k ∧ 4 ≤ ns k ∧ ns k ≤ max 4 (mk k)) ∧ s 1 ≤ g1 + sum8 ns ∧ s 2 ≤ g2 + sum8 (fun k => wk k * tri (ns k))
theorem sum8_up {f g : Nat → Nat} {k d : Nat} (hk : k < 8) (h1 : f k + d ≤ g k) (h2 : ∀ j, j < 8 → j ≠ k → f j = g j) : sum8 f + d ≤ sum8 g := by
  unfold sum8
  have e : ∀ j, j < 8 → j ≠ k → f j = g j := h2
  have c : k = 0 ∨ k = 1 ∨ k = 2 ∨ k = 3 ∨ k = 4 ∨ k = 5 ∨ k = 6 ∨ k = 7 := by omega
  rcases c with rfl | rfl | rfl | rfl | rfl | rfl | rfl | rfl
  · rw [e 1 (by omega) (by omega), e 2 (by omega) (by omega), e 3 (by omega) (by omega), e 4 (by omega) (by omega), e 5 (by omega) (by omega), e 6 (by omega) (by omega), e 7 (by omega) (by omega)]; omega
  · rw [e 0 (by omega) (by omega), e 2 (by omega) (by omega), e 3 (by omega) (by omega), e 4 (by omega) (by omega), e 5 (by omega) (by omega), e 6 (by omega) (by omega), e 7 (by omega) (by omega)]; omega
  · rw [e 0 (by omega) (by omega), e 1 (by omega) (by omega), e 3 (by omega) (by omega), e 4 (by omega) (by omega), e 5 (by omega) (by omega), e 6 (by omega) (by omega), e 7 (by omega) (by omega)]; omega
  · rw [e 0 (by omega) (by omega), e 1 (by omega) (by omega), e 2 (by omega) (by omega), e 4 (by omega) (by omega), e 5 (by omega) (by omega), e 6 (by omega) (by omega), e 7 (by omega) (by omega)]; omega
  · rw [e 0 (by omega) (by omega), e 1 (by omega) (by omega), e 2 (by omega) (by omega), e 3 (by omega) (by omega), e 5 (by omega) (by omega), e 6 (by omega) (by omega), e 7 (by omega) (by omega)]; omega
  · rw [e 0 (by omega) (by omega), e 1 (by omega) (by omega), e 2 (by omega) (by omega), e 3 (by omega) (by omega), e 4 (by omega) (by omega), e 6 (by omega) (by omega), e 7 (by omega) (by omega)]; omega
  · rw [e 0 (by omega) (by omega), e 1 (by omega) (by omega), e 2 (by omega) (by omega), e 3 (by omega) (by omega), e 4 (by omega) (by omega), e 5 (by omega) (by omega), e 7 (by omega) (by omega)]; omega
  · rw [e 0 (by omega) (by omega), e 1 (by omega) (by omega), e 2 (by omega) (by omega), e 3 (by omega) (by omega), e 4 (by omega) (by omega), e 5 (by omega) (by omega), e 6 (by omega) (by omega)]; omega
/-- a table of the state takes a greater row of ints -/
theorem GI_grow {s s' : Nat → Nat} {g1 g2 k n' : Nat} (hk : k < 8) (h : GI s g1 g2) (hgt : s (10 + k) < n' * wk k) (hmo : n' ≤ mk k) (e0 : s' (10 + k) = n' * wk k) (e1 : s' 1 = s 1 + 1) (e2 : s' 2 = s 2 + n' * wk k) (en : ∀ j, j < 8 → j ≠ k → s' (10 + j) = s (10 + j)) : GI s' g1 g2 := by
  obtain ⟨ns, h1, h2, h3⟩ := h
  have hlt : ns k < n' := by
    rw [(h1 k hk).1] at hgt
    exact Nat.lt_of_mul_lt_mul_right hgt
  refine ⟨uf ns k n', fun j hj => ?_, ?_, ?_⟩
  · by_cases hjk : j = k
    · subst hjk
      rw [uf_eq]
      have := (h1 j hj).2
      exact ⟨e0, by omega, by omega⟩
    · rw [uf_ne hjk, en j hj hjk]
      exact h1 j hj
  · have := sum8_up (f := ns) (g := uf ns k n') (k := k) (d := 1) hk (by rw [uf_eq]; omega) (fun j _ hj => (uf_ne hj).symm)
    omega
  · have := sum8_up (f := fun k => wk k * tri (ns k)) (g := fun j => wk j * tri (uf ns k n' j)) (k := k) (d := n' * wk k) hk (by
      show wk k * tri (ns k) + n' * wk k ≤ wk k * tri (uf ns k n' k)
      rw [uf_eq, Nat.mul_comm n', ← Nat.mul_add]
      exact Nat.mul_le_mul_left _ (tri_lt hlt)) (fun j _ hj => by show _ = wk j * tri (uf ns k n' j); rw [uf_ne hj])
    omega
theorem GI_congr {s s' : Nat → Nat} {g1 g2 : Nat} (h : GI s g1 g2) (e1 : s' 1 = s 1) (e2 : s' 2 = s 2) (en : ∀ j, j < 8 → s' (10 + j) = s (10 + j)) : GI s' g1 g2 := by
  obtain ⟨ns, h1, h2, h3⟩ := h
  exact ⟨ns, fun j hj => by rw [en j hj]; exact h1 j hj, by rw [e1]; exact h2, by rw [e2]; exact h3⟩
/-- the class's state S is what x says -/
def CR (S : CS) (x : X) : Prop := (∀ a, a < 30 → S.1 a = x.1 a) ∧ (∀ k, k < 8 → sOk S k (x.2.1 k)) ∧ (∀ k r c, k < 8 → r < x.2.1 k → c < wk k → tv S k r c = x.2.2.1 k r c) ∧ GI S.2 x.2.2.2.1 x.2.2.2.2
section CRS
variable {S : CS} {x : X}
theorem CR_pv {a i : Nat} {w : Int32} (ha : a < 30) (h : CR S x) : CR (mS S.1 a i w, S.2) (pv x a i w) := by
  obtain ⟨h1, h2, h3, h4⟩ := h
  refine ⟨fun b hb => ?_, fun k hk => sOk_mS hk (by omega) (h2 k hk), fun k r c hk hr hc => ?_, h4⟩
  · funext j
    show mS S.1 a i w b j = mS x.1 a i w b j
    unfold mS
    rw [h1 b hb]
  · rw [tv_mS ha]
    exact h3 k r c hk hr hc
theorem CR_st {k r c : Nat} {w : Int32} (hk : k < 8) (hc : c < wk k) (h : CR S x) : CR (tset S k r c w) (st x k r c w) := by
  obtain ⟨h1, h2, h3, h4⟩ := h
  refine ⟨fun b hb => ?_, fun j hj => sOk_set hj hk (h2 j hj), fun j r' c' hj hr hc' => ?_, h4⟩
  · funext i
    show mS S.1 (30 + k) (r * wk k + c) w b i = x.1 b i
    rw [mS_ne (by omega), h1 b hb]
  · show _ = uf x.2.2.1 k (st2 (x.2.2.1 k) r c w) j r' c'
    by_cases hjk : j = k
    · subst hjk
      rw [uf_eq, tv_set hc hc']
      unfold st2
      by_cases e : r' = r ∧ c' = c
      · rw [if_pos e, if_pos e]
      · rw [if_neg e, if_neg e]; exact h3 j r' c' hj hr hc'
    · rw [uf_ne hjk, tv_set_n hj hk hjk]
      exact h3 j r' c' hj hr hc'
theorem CR_ro {k R : Nat} (hk : k < 8) (hR : R ≤ x.2.1 k) (h : CR S x) : CR (trow S k R) (ro x k R) := by
  obtain ⟨h1, h2, h3, h4⟩ := h
  refine ⟨fun b hb => ?_, fun j hj => ?_, fun j r' c' hj hr hc' => ?_, h4⟩
  · funext i
    show mS S.1 (40 + k) 0 (nI R) b i = x.1 b i
    rw [mS_ne (by omega), h1 b hb]
  · show sOk _ j (uf x.2.1 k R j)
    by_cases hjk : j = k
    · subst hjk; rw [uf_eq]; exact sOk_row (h2 j hj) hR
    · rw [uf_ne hjk]; exact sOk_row_n hj hk hjk (h2 j hj)
  · rw [tv_row hj hk]
    refine h3 j r' c' hj ?_ hc'
    have hr : r' < uf x.2.1 k R j := hr
    by_cases hjk : j = k
    · subst hjk; rw [uf_eq] at hr; omega
    · rw [uf_ne hjk] at hr; exact hr
theorem tadd_caps {k R : Nat} (hk : k < 8) (h : sOk S k R) (hR : R < mk k) (h4 : GI S.2 x.2.2.2.1 x.2.2.2.2) : GI (tadd S k R).2 x.2.2.2.1 x.2.2.2.2 := by
  have hc := sOk_iff.mp h
  obtain ⟨ns, g1, g2, g3⟩ := id h4
  have hcap := (g1 k hk).1
  have hne : ¬ (1 : Nat) = 10 + k := by omega
  have hne2 : ¬ (2 : Nat) = 10 + k := by omega
  by_cases hf : (R + 1) * wk k ≤ S.2 (10 + k)
  · have e : (adT (wk k) (mk k) (tOf k S) R).2 = (tOf k S).2 := by
      unfold adT ad1
      rw [if_pos (show (R + 1) * wk k ≤ (tOf k S).2 0 from hf)]
    refine GI_congr h4 ?_ ?_ (fun j hj => ?_)
    · unfold tadd tIn
      rw [e]
      simp [hne, tOf]
    · unfold tadd tIn
      rw [e]
      simp [hne2, tOf]
    · unfold tadd tIn
      rw [e]
      by_cases hjk : j = k
      · subst hjk; simp [tOf]
      · have q1 : ¬ 10 + j = 1 := by omega
        have q2 : ¬ 10 + j = 2 := by omega
        simp [hjk, q1, q2]
  · have hN : adN (wk k) (mk k) (tOf k S) R = max (R + 1) (min (2 * ns k) (mk k)) * wk k := by
      unfold adN
      rw [show (tOf k S).2 0 = ns k * wk k from hcap, ← Nat.mul_assoc, Nat.mul_min_mul_right, Nat.mul_max_mul_right]
    have e3 : (nI (adN (wk k) (mk k) (tOf k S) R)).toNatClampNeg = adN (wk k) (mk k) (tOf k S) R := nI_clamp (by have := (p_adN h hR).1; have := hc.2.2.2.2.2.2.2.2.1; omega)
    have e : (adT (wk k) (mk k) (tOf k S) R).2 = (gr (tOf k S) (nI (adN (wk k) (mk k) (tOf k S) R))).2 := by
      unfold adT ad1
      rw [if_neg (show ¬ (R + 1) * wk k ≤ (tOf k S).2 0 from hf)]
    refine GI_grow (n' := max (R + 1) (min (2 * ns k) (mk k))) hk h4 ?_ ?_ ?_ ?_ ?_ (fun j hj hjk => ?_)
    · have : (R + 1) * wk k ≤ max (R + 1) (min (2 * ns k) (mk k)) * wk k := Nat.mul_le_mul_right _ (Nat.le_max_left _ _)
      omega
    · exact Nat.max_le.mpr ⟨hR, Nat.min_le_right _ _⟩
    · rw [← hN]
      unfold tadd tIn
      rw [e]
      simp [gr, e3]
    · unfold tadd tIn
      rw [e]
      simp [hne, gr, tOf]
    · rw [← hN]
      unfold tadd tIn
      rw [e]
      generalize adN (wk k) (mk k) (tOf k S) R = N at e3
      simp [hne2, gr, e3]
      rfl
    · unfold tadd tIn
      rw [e]
      have h1 : ¬ 10 + j = 1 := by omega
      have h2 : ¬ 10 + j = 2 := by omega
      simp [hjk, h1, h2]
theorem CR_ad {k : Nat} (hk : k < 8) (hR : x.2.1 k < mk k) (h : CR S x) : CR (tadd S k (x.2.1 k)) (ad x k) := by
  obtain ⟨h1, h2, h3, h4⟩ := h
  refine ⟨fun b hb => ?_, fun j hj => ?_, fun j r' c' hj hr hc' => ?_, tadd_caps (x := x) hk (h2 k hk) hR h4⟩
  · funext i
    rw [tadd_n (by omega) (by omega) (by omega) (by omega), h1 b hb]
    rfl
  · show sOk _ j (uf x.2.1 k (x.2.1 k + 1) j)
    by_cases hjk : j = k
    · subst hjk; rw [uf_eq]; exact sOk_add (h2 j hj) hR
    · rw [uf_ne hjk]; exact sOk_add_n hj hk hjk (h2 j hj)
  · have hr : r' < uf x.2.1 k (x.2.1 k + 1) j := hr
    show _ = uf x.2.2.1 k (fun r c => if r = x.2.1 k then 0 else x.2.2.1 k r c) j r' c'
    by_cases hjk : j = k
    · subst hjk
      rw [uf_eq] at hr ⊢
      rw [tv_add (h2 j hj) hR hc' (by omega)]
      by_cases e : r' < x.2.1 j
      · rw [if_pos e, if_neg (by omega)]; exact h3 j r' c' hj e hc'
      · rw [if_neg e, if_pos (by omega)]
    · rw [uf_ne hjk] at hr ⊢
      rw [tv_add_n hj hk hjk]
      exact h3 j r' c' hj hr hc'
theorem wk_lt (k : Nat) : 0 < wk k ∧ 1 < wk k ∧ wk k < 200 := by
  unfold wk
  repeat' split
  all_goals omega
theorem CR_le {k : Nat} (hk : k < 8) (h : CR S x) : x.2.1 k ≤ mk k := (sOk_iff.mp (h.2.1 k hk)).2.2.2.1
theorem mk_lt {k : Nat} (hk : k < 8) : mk k ≤ 1260 := by
  unfold mk
  repeat' split
  all_goals omega
theorem CR_lt {k : Nat} (hk : k < 8) (h : CR S x) : x.2.1 k ≤ 1260 := Nat.le_trans (CR_le hk h) (mk_lt hk)
end CRS
section CK
variable {ρ : Type} {S : CS} {x : X} {r : ρ} {Q : CS → Prop} (n : Nat)
theorem Rc_cg {a : Nat} {K : Int32 → Option (ρ × CS)} (ha : a < 30) (h : CR S x) (k : Ru (K (x.1 a 0)) r Q) : Ru (cg S a K) r Q := by
  unfold cg; rw [h.1 a ha]; exact k
theorem Rc_cp {a : Nat} {w : Int32} {K : CS → Option (ρ × CS)} (ha : a < 30) (h : CR S x) (k : ∀ S', CR S' (pv x a 0 w) → Ru (K S') r Q) : Ru (cp S a w K) r Q := k _ (CR_pv ha h)
theorem Rc_cr {a len i : Nat} {K : Int32 → Option (ρ × CS)} (ha : a < 30) (hl : len < 2147483648) (h : CR S x) (hi : i < len) (k : Ru (K (x.1 a i)) r Q) : Ru (cr S a len (nI i) K) r Q := by
  rw [cr_at hi hl, h.1 a ha]; exact k
theorem Rc_cw {a len i : Nat} {w : Int32} {K : CS → Option (ρ × CS)} (ha : a < 30) (hl : len < 2147483648) (h : CR S x) (hi : i < len) (k : ∀ S', CR S' (pv x a i w) → Ru (K S') r Q) : Ru (cw S a len (nI i) w K) r Q := by
  rw [cw_at hi hl]; exact k _ (CR_pv ha h)
theorem Rc_size {k : Nat} {K : Int32 → CS → Option (ρ × CS)} (hk : k < 8) (h : CR S x) (kk : Ru (K (nI (x.2.1 k)) S) r Q) : Ru (bT k S (f2_size n (tOf k S)) K) r Q := by
  rw [b_size n hk (h.2.1 k hk)]; exact kk
theorem Rc_has {k i : Nat} {K : Int32 → CS → Option (ρ × CS)} (hk : k < 8) (h : CR S x) (hi : i < 2147483648) (kk : Ru (K (if i < x.2.1 k then nI 1 else nI 0) S) r Q) : Ru (bT k S (f2_has n (nI i) (tOf k S)) K) r Q := by
  rw [b_has n hk (h.2.1 k hk) hi]; exact kk
theorem Rc_get {k i c : Nat} {K : Int32 → CS → Option (ρ × CS)} (hk : k < 8) (h : CR S x) (hi : i < x.2.1 k) (hc : c < wk k) (kk : Ru (K (x.2.2.1 k i c) S) r Q) : Ru (bT k S (f2_get n (nI i) (nI c) (tOf k S)) K) r Q := by
  rw [b_get n hk (h.2.1 k hk) hi hc, h.2.2.1 k i c hk hi hc]; exact kk
theorem Rc_get_n {k : Nat} {v y : Int32} {K : Int32 → CS → Option (ρ × CS)} (hk : k < 8) (h : CR S x) (hi : v < 0) (kk : Ru (K (nI 0) S) r Q) : Ru (bT k S (f2_get n v y (tOf k S)) K) r Q := by
  rw [b_get_o n hk (h.2.1 k hk) (Or.inl hi)]; exact kk
theorem Rc_set {k i c : Nat} {w : Int32} {K : Int32 → CS → Option (ρ × CS)} (hk : k < 8) (h : CR S x) (hi : i < x.2.1 k) (hc : c < wk k) (kk : ∀ S', CR S' (st x k i c w) → Ru (K 0 S') r Q) : Ru (bT k S (f2_set n (nI i) (nI c) w (tOf k S)) K) r Q := by
  rw [b_set n hk (h.2.1 k hk) hi hc]; exact kk _ (CR_st hk hc h)
theorem Rc_clear {k : Nat} {K : Int32 → CS → Option (ρ × CS)} (hk : k < 8) (h : CR S x) (kk : ∀ S', CR S' (ro x k 0) → Ru (K 0 S') r Q) : Ru (bT k S (f2_clear n (tOf k S)) K) r Q := by
  rw [b_clear n hk]; exact kk _ (CR_ro hk (Nat.zero_le _) h)
theorem Rc_drop {k R : Nat} {K : Int32 → CS → Option (ρ × CS)} (hk : k < 8) (h : CR S x) (hR : x.2.1 k = R + 1) (kk : ∀ S', CR S' (ro x k R) → Ru (K 0 S') r Q) : Ru (bT k S (f2_dropLast n (tOf k S)) K) r Q := by
  rw [b_drop n hk (hR ▸ h.2.1 k hk)]; exact kk _ (CR_ro hk (by omega) h)
theorem Rc_add {k : Nat} {K : Int32 → CS → Option (ρ × CS)} (hk : k < 8) (h : CR S x) (hR : x.2.1 k < mk k) (hn : 200 < n) (kk : ∀ S', CR S' (ad x k) → Ru (K (nI (x.2.1 k)) S') r Q) : Ru (bT k S (f2_add n (tOf k S)) K) r Q := by
  rw [b_add n (h.2.1 k hk) hR (Nat.lt_trans (wk_lt k).2.2 hn)]; exact kk _ (CR_ad hk hR h)
theorem Rc_addF {k : Nat} {K : Int32 → CS → Option (ρ × CS)} (hk : k < 8) (h : CR S x) (hR : x.2.1 k = mk k) (kk : Ru (K (-1) S) r Q) : Ru (bT k S (f2_add n (tOf k S)) K) r Q := by
  rw [b_addF n hk (hR ▸ h.2.1 k hk)]; exact kk
theorem Rc_addPair {k : Nat} {a b : Int32} {K : Int32 → CS → Option (ρ × CS)} (hk : k < 8) (h : CR S x) (hR : x.2.1 k < mk k) (hn : 200 < n) (kk : ∀ S', CR S' (st (st (ad x k) k (x.2.1 k) 0 a) k (x.2.1 k) 1 b) → Ru (K 0 S') r Q) : Ru (bT k S (f2_addPair n a b (tOf k S)) K) r Q := by
  have w1 : 0 < wk k ∧ 1 < wk k ∧ wk k < 200 := wk_lt k
  have e : bT k S (f2_addPair n a b (tOf k S)) K = bT k S (f2_add n (tOf k S)) (fun v S1 => bT k S1 (f2_set n v (nI 0) a (tOf k S1)) (fun _ S2 => bT k S2 (f2_set n v (nI 1) b (tOf k S2)) (fun _ S3 => K 0 S3))) := by
    have hs := h.2.1 k hk
    rw [b_add n hs hR (by omega)]
    have hs1 := sOk_add hs hR
    have t1 := tOk_add hs hR
    rw [b_set n hk hs1 (by omega) w1.1, b_set n hk (sOk_set hk hk hs1) (by omega) w1.2.1]
    unfold f2_addPair
    rw [p_add n hs hR (by omega), bnd_s, p_set n t1 a (by omega) w1.1, bnd_s, p_set n (tOk_set t1 _ _) b (by omega) w1.2.1, bnd_s, bT_s]
    congr 1
    unfold tset tadd
    refine Prod.ext ?_ ?_
    · funext i j
      unfold tIn mS
      dsimp only
      have q1 : ¬ 40 + k = 30 + k := by omega
      have q2 : ¬ 50 + k = 30 + k := by omega
      have q3 : ¬ 60 + k = 30 + k := by omega
      by_cases e1 : i = 30 + k
      · simp [e1]
      · simp [e1]
    · rfl
  rw [e]
  refine Rc_add n hk h hR hn (fun S1 h1 => ?_)
  have hr : x.2.1 k < (ad x k).2.1 k := by show _ < uf x.2.1 k (x.2.1 k + 1) k; rw [uf_eq]; omega
  exact Rc_set n hk h1 hr w1.1 (fun S2 h2 => Rc_set n hk h2 hr w1.2.1 (fun S3 h3 => kk S3 h3))
end CK
