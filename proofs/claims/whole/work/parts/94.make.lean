def WS (x : X) (M : MR) : Prop := WF (im x) ∧ RelI (im x) (M 0) ∧ PlR x M ∧ Wri x M ∧ (M 22 0 = nI 0 ∧ M 24 0 = nI 0 ∧ x.1 17 0 = nI 0) ∧ ((x.2.1 4 = 0 ∧ M 20 0 = nI 0 ∧ x.2.1 3 = 1) ∨ ∃ t cf hb, WRt x M t 0 cf hb)
def mu (x : X) : Nat := 3 * (1000 - (x.1 16 0).toNatClampNeg) + x.2.1 4 + 2 * zc (im x)
def StO (n J : Nat) (x : X) (M : MR) (m0 : Nat) (FC : Option (Int32 × CS)) (FR : Nat → Option (Int32 × MR)) : Prop :=
  (∃ S' x' M' j, FC = some (nI 0, S') ∧ j ≤ J ∧ (∀ k, FR (k + j) = fR_work_l15 n k M') ∧ CR S' x' ∧ WS x' M' ∧ FXw x x' ∧ FMw M M' ∧ mu x' < m0) ∨
  (∃ f S' x' M2 j, 1 ≤ f ∧ f ≤ 8 ∧ FC = some (nI f, S') ∧ j ≤ J ∧ (∀ k, FR (k + j) = bnd (fR_fail n (nI f) M2) (fun _ M3 => fR_work_l15 n k M3)) ∧ CR S' x' ∧ WF (im x') ∧ RelI (im x') (M2 0) ∧ FrS x' M2 ∧ Wri x' M2 ∧ FXw x x' ∧ FMw M M2)
def WRm (x : X) (M : MR) (t cf : Nat) (hb : Nat → Nat) (e : Nat) : Prop := (x.2.1 4 = t + 1 ∧ M 20 0 = nI (t + 1) ∧ cf ≤ 1 ∧ t + 1 ≤ 20 + cf ∧ x.1 19 0 = nI cf ∧ M 21 0 = nI (t + 1 - cf) ∧ ∀ i, i < t + 1 → (x.2.2.1 4 i 0 = -1 ↔ i < cf) ∧ (i = 0 → x.2.2.1 4 i 6 = -1)) ∧ (hb 0 = 0 ∧ hb t ≤ x.2.1 3) ∧ (FrOk (im x) (x.1 18) (x.2.2.1 4 t) (x.2.1 3 - hb t + 1) ∧ FrR (x.1 18) (x.2.2.1 4 t) M t 2 ∧ MkAt (im x) (x.1 18) (x.2.2.1 4 t) (nI e)) ∧ ∀ i, i < t → hb i ≤ hb (i + 1) ∧ Bel (im x) (x.1 18) (x.2.2.1 4 i) (x.2.2.1 4 (i + 1)) M i (hb (i + 1) - hb i)
theorem bel_c {B B' : Im} {cc fr fr1 : Nat → Int32} {M M' : MR} {i h : Nat} (q : Bel B cc fr fr1 M i h) (hs : Ims B B') (e5 : M' 5 = M 5) (em : ∀ a, 13 ≤ a → a ≤ 19 → M' a i = M a i) : Bel B' cc fr fr1 M' i h := by
  obtain ⟨g2, g3⟩ := q
  refine ⟨FrOk_m hs g2, ?_⟩
  rcases g3 with ⟨w1, w2⟩ | ⟨w1, w2, w3⟩
  · exact Or.inl ⟨w1, FrR_c w2 e5 em⟩
  · exact Or.inr ⟨w1, FrR_c w2 e5 em, MkAt_m hs w3⟩
theorem WRm_hb {x : X} {M : MR} {t cf e : Nat} {hb : Nat → Nat} (h : WRm x M t cf hb e) : ∀ i, i ≤ t → hb i ≤ 59 * i
  | 0, _ => by rw [h.2.1.1]; omega
  | i + 1, hi => by
    have ih := WRm_hb h i (by omega)
    obtain ⟨g1, ⟨pl, en, ⟨_, _, q1, q2, q3⟩, _⟩, _⟩ := h.2.2.2 i (by omega)
    omega
theorem WRm_pile {x : X} {M : MR} {t cf e : Nat} {hb : Nat → Nat} (h : WRm x M t cf hb e) : x.2.1 3 ≤ 1239 := by
  have h1 := WRm_hb h t (Nat.le_refl _)
  obtain ⟨pl, en, ⟨_, _, q1, q2, q3⟩, _⟩ := h.2.2.1.1
  have := h.2.1.2
  have := h.1.2.2.1
  have := h.1.2.2.2.1
  omega
theorem WRm_FrS {x : X} {M : MR} {t cf e : Nat} {hb : Nat → Nat} (h : WRm x M t cf hb e) : FrS x M := by
  have key : ∀ fr cc k i ad, FrOk (im x) cc fr k → FrR cc fr M i ad → M 19 i = fr 6 ∧ (fr 6 = -1 ∨ ∃ e, fr 6 = nI e ∧ Cc (im x) e ∧ ¬ bed (im x) e 6 = nI 0) := by
    intro fr cc k i ad h1 h2
    refine ⟨h2.2.2.1, ?_⟩
    obtain ⟨pl, en, _, _, q⟩ := h1
    rcases q with q | ⟨e, l, q1, q2, q3, q4, q4', q5⟩
    · exact Or.inl q.2
    · rcases q5 with q5 | ⟨a1, a2, _⟩
      · exact Or.inl q5.1
      · exact Or.inr ⟨e, a1, q2, a2⟩
  obtain ⟨⟨a1, a2, a3, a4, a5, a6, a7⟩, ⟨b1, b2⟩, ⟨c1, c2, _⟩, c3⟩ := h
  refine ⟨by omega, by rw [a1]; exact a2, fun i hi => ?_⟩
  by_cases hit : i = t
  · subst hit; exact key _ _ _ _ _ c1 c2
  · obtain ⟨g1, g2, g3⟩ := c3 i (by omega)
    rcases g3 with ⟨w1, w2⟩ | ⟨w1, w2, w3⟩
    · exact key _ _ _ _ _ g2 w2
    · exact key _ _ _ _ _ g2 w2
/-- the state of a make, under what beginning changes -/
theorem WRm_c {x x' : X} {M M' : MR} {t cf e : Nat} {hb : Nat → Nat} (h : WRm x M t cf hb e) (hs : Ims (im x) (im x')) (e1 : x'.1 = x.1) (e2 : x'.2.1 = x.2.1) (e3 : x'.2.2.1 4 = x.2.2.1 4) (hM : ∀ a, a ≠ 0 → a ≠ 22 → a ≠ 23 → M' a = M a) : WRm x' M' t cf hb e := by
  obtain ⟨a, b, ⟨c1, c2, c3⟩, d⟩ := h
  unfold WRm
  rw [e1, e2, e3, hM 20 (by omega) (by omega) (by omega), hM 21 (by omega) (by omega) (by omega)]
  exact ⟨a, b, ⟨FrOk_m hs c1, FrR_c c2 (hM 5 (by omega) (by omega) (by omega)) (fun a _ _ => by rw [hM a (by omega) (by omega) (by omega)]), MkAt_m hs c3⟩, fun i hi => ⟨(d i hi).1, bel_c (d i hi).2 hs (hM 5 (by omega) (by omega) (by omega)) (fun a _ _ => by rw [hM a (by omega) (by omega) (by omega)])⟩⟩
theorem WRm_at {x : X} {M : MR} {t cf e : Nat} {hb : Nat → Nat} (h : WRm x M t cf hb e) (h24 : M 24 0 = nI 0) : ∃ pl en, x.2.2.1 4 t 1 = nI pl ∧ 2 ≤ pl ∧ pl ≤ 60 ∧ AtMk (im x) (x.1 18) (x.2.2.1 4 t) M t en (pl - 2) e := by
  obtain ⟨⟨a1, a2, a3, a4, a5, a6, a7⟩, b, ⟨⟨pl, en, ⟨p1, p2, p3, p4, p5⟩, p6, p7⟩, ⟨f1, f2, f3, ⟨pl', g1, g2, g3, g4⟩, f5, f6⟩, ⟨pl'', m1, m2, m2', m3, m4⟩⟩, d⟩ := h
  have e1 : pl' = pl := by rw [p1, nI_eq (by omega) (by omega)] at g1; exact g1.symm
  have e2 : pl'' = pl := by rw [p1, nI_eq (by omega) (by omega)] at m1; exact m1.symm
  rw [e1] at g2 g4
  rw [e2] at m3 m4 m2
  exact ⟨pl, en, p1, g2, by omega, by omega, a2, f1, g4, p2, f2.trans p2, by omega, p4, f5, p7, m3, by rw [show pl - 2 + 1 = pl - 1 by omega]; exact m4, h24⟩
/-- a frame comes above -/
theorem WRt_push {x x' : X} {M M' : MR} {t f cf : Nat} {hb : Nat → Nat} (hf : f = t + 1) (a : x.2.1 4 = t + 1 ∧ cf ≤ 1 ∧ x.1 19 0 = nI cf ∧ (∀ i, i < t + 1 → (x.2.2.1 4 i 0 = -1 ↔ i < cf) ∧ (i = 0 → x.2.2.1 4 i 6 = -1))) (hd : t + 2 ≤ 20 + cf) (hb0 : hb 0 = 0) {q : Nat} (hbt : hb t ≤ q) (hX1 : x'.2.1 4 = f + 1) (hX2 : ∀ i, i < f → x'.2.2.1 4 i = x.2.2.1 4 i) (hX3 : x'.2.1 3 = q) (hX4 : x'.1 18 = x.1 18 ∧ x'.1 19 = x.1 19) (hM1 : M' 20 0 = nI (f + 1)) (hM2 : M' 21 0 = nI (f + 1 - cf)) (h0 : ¬ x'.2.2.1 4 f 0 = -1) (hk : FrOk (im x') (x.1 18) (x'.2.2.1 4 f) 0) (hr : FrR (x.1 18) (x'.2.2.1 4 f) M' f 0) (hbl : Bel (im x') (x.1 18) (x.2.2.1 4 t) (x'.2.2.1 4 f) M' t (q - hb t)) (hbs : ∀ i, i < t → hb i ≤ hb (i + 1) ∧ Bel (im x') (x.1 18) (x.2.2.1 4 i) (x.2.2.1 4 (i + 1)) M' i (hb (i + 1) - hb i)) : WRt x' M' (t + 1) 0 cf (uf hb (t + 1) q) := by
  subst hf
  obtain ⟨a1, a2, a3, a4⟩ := a
  refine ⟨⟨by rw [hX1], hM1, a2, by omega, by rw [hX4.2]; exact a3, by rw [hM2], fun i hi => ?_⟩, ⟨by rw [uf_ne (by omega)]; exact hb0, by rw [uf_eq, hX3]; omega⟩, ?_, by rw [hX4.1]; exact hr, fun i hi => ?_⟩
  · by_cases hit : i = t + 1
    · subst hit
      exact ⟨⟨fun w => absurd w h0, fun w => by omega⟩, fun w => by omega⟩
    · rw [hX2 i (by omega)]; exact a4 i (by omega)
  · rw [uf_eq, hX3, hX4.1, Nat.sub_self]; exact hk
  · rw [hX4.1]
    by_cases hit : i = t
    · subst hit
      rw [uf_ne (show i ≠ i + 1 by omega), uf_eq, hX2 i (by omega)]
      exact ⟨hbt, hbl⟩
    · rw [uf_ne (show i ≠ t + 1 by omega), uf_ne (show i + 1 ≠ t + 1 by omega), hX2 i (by omega), hX2 (i + 1) (by omega)]
      exact hbs i (by omega)
