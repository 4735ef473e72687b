-- ===== a new edition of the class =====
def edX (x : X) (j : Nat) (row : Nat → Int32) : X := (mS x.1 20 j (nI (x.2.1 6)), uf x.2.1 6 (x.2.1 6 + 1), uf x.2.2.1 6 (fun r k => if r = x.2.1 6 then row k else x.2.2.1 6 r k), x.2.2.2)
def row0 (j c s : Nat) : Nat → Int32 := fun k => if k = 0 then nI j else if k = 1 then nI c else if k = 2 then nI s else 0
section EDX
variable {x : X} {j : Nat} {row : Nat → Int32} (n : Nat)
theorem edX_r : (edX x j row).2.1 6 = x.2.1 6 + 1 := by show uf x.2.1 6 (x.2.1 6 + 1) 6 = _; rw [uf_eq]
theorem edX_rk {k : Nat} (h : k ≠ 6) : (edX x j row).2.1 k = x.2.1 k := by show uf x.2.1 6 (x.2.1 6 + 1) k = _; rw [uf_ne h]
theorem edX_ck {k : Nat} (h : k ≠ 6) : (edX x j row).2.2.1 k = x.2.2.1 k := by
  unfold edX
  dsimp only
  rw [uf_ne h]
theorem edX_1 {a : Nat} (h : a ≠ 20) : (edX x j row).1 a = x.1 a := by show mS x.1 20 j _ a = _; rw [mS_o h]
theorem edX_e {e k : Nat} : bed (im (edX x j row)) e k = if e = bE (im x) then row k else bed (im x) e k := rfl
theorem edX_st {S : CS} {k : Nat} {w : Int32} (h : CR S (st (edX x j row) 6 (x.2.1 6) k w)) : CR S (edX x j (uf row k w)) := by
  refine CR_ext h (fun _ _ => rfl) (fun _ _ => rfl) (fun t r k' ht hr hk' => ?_) rfl
  by_cases ht6 : t = 6
  · subst ht6
    show (if r = x.2.1 6 then uf row k w k' else x.2.2.1 6 r k') = st2 (fun r k => if r = x.2.1 6 then row k else x.2.2.1 6 r k) (x.2.1 6) k w r k'
    by_cases hr6 : r = x.2.1 6
    · subst hr6
      rw [if_pos rfl]
      by_cases hk : k' = k
      · subst hk; rw [uf_eq, st2_eq]
      · rw [uf_ne hk, st2_ne (Or.inr hk), if_pos rfl]
    · rw [if_neg hr6, st2_ne (Or.inl hr6), if_neg hr6]
  · show uf x.2.2.1 6 _ t r k' = uf (uf x.2.2.1 6 _) 6 _ t r k'
    rw [uf_ne ht6, uf_ne ht6, uf_ne ht6]
theorem Rc_ed {ρ : Type} {S : CS} {k : Nat} {w : Int32} {K : Int32 → CS → Option (ρ × CS)} {r : ρ} {Q : CS → Prop} (h : CR S (edX x j row)) (hk : k < 104) (kk : ∀ S', CR S' (edX x j (uf row k w)) → Ru (K 0 S') r Q) : Ru (bT 6 S (f2_set n (nI (x.2.1 6)) (nI k) w (tOf 6 S)) K) r Q :=
  Rc_set n (by decide) h (by rw [edX_r]; omega) hk (fun S' h' => kk S' (edX_st h'))
theorem e_ed {ρ : Type} {S : CS} {k : Nat} {w : Int32} (h : CR S (edX x j row)) (hk : k < 104) : ∃ S', CR S' (edX x j (uf row k w)) ∧ ∀ K : Int32 → CS → Option ρ, bT 6 S (f2_set n (nI (x.2.1 6)) (nI k) w (tOf 6 S)) K = K 0 S' :=
  ⟨_, edX_st (CR_st (by decide) hk h), fun K => b_set n (by decide) (h.2.1 6 (by decide)) (by rw [edX_r]; omega) hk K⟩
theorem x_addEd {S : CS} {c s : Nat} (hn : 1000 ≤ n) (h : CR S x) (hE : x.2.1 6 < 150) (hc : c < x.2.1 5) (hc2 : c < 1000) (hj : j < 16) (h5 : bce (im x) c 5 = nI j) (h6 : bce (im x) c 6 = nI s) : Ru (f0_addEdition n (nI c) S) (nI (x.2.1 6)) (fun S' => CR S' (edX x j (row0 j c s))) := by
  unfold f0_addEdition
  refine Rc_add n (by decide) h hE (by omega) (fun S1 h1 => ?_)
  have hr : x.2.1 6 < (ad x 6).2.1 6 := by show x.2.1 6 < uf x.2.1 6 (x.2.1 6 + 1) 6; rw [uf_eq]; omega
  have hc5 : ∀ y : X, y.2.1 5 = x.2.1 5 → c < y.2.1 5 := fun y hy => by rw [hy]; exact hc
  have z5 : (ad x 6).2.1 5 = x.2.1 5 := by show uf x.2.1 6 (x.2.1 6 + 1) 5 = _; rw [uf_ne (by decide)]
  refine Rc_get n (by decide) h1 (hc5 _ z5) (show 5 < 125 by decide) ?_
  rw [show (ad x 6).2.2.1 5 c 5 = nI j from h5]
  refine Rc_set n (by decide) h1 hr (show 0 < 104 by decide) (fun S2 h2 => ?_)
  refine Rc_set n (by decide) h2 hr (show 1 < 104 by decide) (fun S3 h3 => ?_)
  refine Rc_get n (by decide) h3 (hc5 _ z5) (show 6 < 125 by decide) ?_
  rw [show (st (st (ad x 6) 6 (x.2.1 6) 0 (nI j)) 6 (x.2.1 6) 1 (nI c)).2.2.1 5 c 6 = nI s from h6]
  refine Rc_set n (by decide) h3 hr (show 2 < 104 by decide) (fun S4 h4 => ?_)
  rw [k_isName' n S4 (by omega), if_pos hj, bnd_s, if_neg n1_0]
  refine Rc_cw (by decide) (by decide) h4 hj (fun S5 h5 => Ru_some (CR_ext h5 (fun _ _ => rfl) (fun _ _ => rfl) (fun t r k' ht hr hk' => ?_) rfl))
  by_cases ht6 : t = 6
  · subst ht6
    show (if r = x.2.1 6 then row0 j c s k' else x.2.2.1 6 r k') = st2 (st2 (st2 (fun r k => if r = x.2.1 6 then 0 else x.2.2.1 6 r k) (x.2.1 6) 0 (nI j)) (x.2.1 6) 1 (nI c)) (x.2.1 6) 2 (nI s) r k'
    unfold st2 row0
    by_cases hr6 : r = x.2.1 6
    · by_cases k2 : k' = 2
      · simp [hr6, k2]
      · by_cases k1 : k' = 1
        · simp [hr6, k1]
        · by_cases k0 : k' = 0
          · simp [hr6, k0]
          · simp [hr6, k2, k1, k0]
    · simp [hr6]
  · show uf x.2.2.1 6 _ t r k' = uf (uf (uf (uf x.2.2.1 6 _) 6 _) 6 _) 6 _ t r k'
    rw [uf_ne ht6, uf_ne ht6, uf_ne ht6, uf_ne ht6, uf_ne ht6]
theorem x_addVal {S : CS} {c s : Nat} {kd nm : Int32} (hn : 1000 ≤ n) (h : CR S x) (hE : x.2.1 6 < 150) (hc : c < x.2.1 5) (hc2 : c < 1000) (hj : j < 16) (h5 : bce (im x) c 5 = nI j) (h6 : bce (im x) c 6 = nI s) : Ru (f0_addValue n (nI c) kd nm S) (nI (x.2.1 6)) (fun S' => CR S' (edX x j (uf (uf (row0 j c s) 3 kd) 4 nm))) := by
  unfold f0_addValue
  refine Ru_bnd (x_addEd n hn h hE hc hc2 hj h5 h6) (fun S1 h1 => ?_)
  exact Rc_ed n h1 (by omega) (fun S2 h2 => Rc_ed n h2 (by omega) (fun S3 h3 => Ru_some h3))
-- ===== a class: what it has of its parent =====
theorem x_inh0 : ∀ d m k S row, m + d = 5 → d < k → CR S (edX x j row) → Ru (f0_inherit_l7 n k (nI (x.2.1 6)) (nI m) S) 0 (fun S' => ∃ row', CR S' (edX x j row') ∧ ∀ q, row' q = if 9 + m ≤ q ∧ q < 14 then -1 else row q)
  | 0, m, k, S, row, hm, hk, h => by
    obtain ⟨k, rfl⟩ : ∃ q, k = q + 1 := ⟨k - 1, by omega⟩
    obtain rfl : m = 5 := by omega
    rw [f0_inherit_l7, if_pos (Int32.le_refl _)]
    exact Ru_some ⟨row, h, fun q => by rw [if_neg (by omega)]⟩
  | d + 1, m, k, S, row, hm, hk, h => by
    obtain ⟨k, rfl⟩ : ∃ q, k = q + 1 := ⟨k - 1, by omega⟩
    rw [f0_inherit_l7, if_neg (nI_ge (show m < 5 by omega) (by omega)), nI_add]
    refine Rc_ed n h (show 9 + m < 104 by omega) (fun S1 h1 => ?_)
    rw [nI_add]
    refine Ru_imp (x_inh0 d (m + 1) k S1 _ (by omega) (by omega) h1) (fun S' ⟨row', h', h2⟩ => ⟨row', h', fun q => ?_⟩)
    rw [h2 q]
    by_cases hq : q = 9 + m
    · subst hq
      rw [if_neg (by omega), uf_eq, if_pos (by omega)]
    · rw [uf_ne hq]
      by_cases hq2 : 9 + (m + 1) ≤ q ∧ q < 14
      · rw [if_pos hq2, if_pos (by omega)]
      · rw [if_neg hq2, if_neg (by omega)]
theorem x_inhP {p : Nat} (hp : p < x.2.1 6) (hE : x.2.1 6 < 150) : ∀ d m k S row, m + d = 44 → d < k → CR S (edX x j row) → Ru (f0_inherit_l35 n k (nI (x.2.1 6)) (nI p) (nI m) S) 0 (fun S' => ∃ row', CR S' (edX x j row') ∧ ∀ q, row' q = if m ≤ q ∧ q < 44 then bed (im x) p q else row q)
  | 0, m, k, S, row, hm, hk, h => by
    obtain ⟨k, rfl⟩ : ∃ q, k = q + 1 := ⟨k - 1, by omega⟩
    obtain rfl : m = 44 := by omega
    rw [f0_inherit_l35, if_pos (Int32.le_refl _)]
    exact Ru_some ⟨row, h, fun q => by rw [if_neg (by omega)]⟩
  | d + 1, m, k, S, row, hm, hk, h => by
    obtain ⟨k, rfl⟩ : ∃ q, k = q + 1 := ⟨k - 1, by omega⟩
    rw [f0_inherit_l35, if_neg (nI_ge (show m < 44 by omega) (by omega)), xg6 n h (show p < (edX x j row).2.1 6 by rw [edX_r]; omega) (by omega), edX_e, if_neg (show ¬ p = bE (im x) from fun w => by have : p = x.2.1 6 := w; omega)]
    refine Rc_ed n h (show m < 104 by omega) (fun S1 h1 => ?_)
    rw [nI_add]
    refine Ru_imp (x_inhP hp hE d (m + 1) k S1 _ (by omega) (by omega) h1) (fun S' ⟨row', h', h2⟩ => ⟨row', h', fun q => ?_⟩)
    rw [h2 q]
    by_cases hq : q = m
    · subst hq
      rw [if_neg (by omega), uf_eq, if_pos (by omega)]
    · rw [uf_ne hq]
      by_cases hq2 : m + 1 ≤ q ∧ q < 44
      · rw [if_pos hq2, if_pos (by omega)]
      · rw [if_neg hq2, if_neg (by omega)]
-- ===== its own fields, its own methods, its code =====
theorem x_clsC {L : Nat} (hL : L ≤ 60) (h6 : x.1 6 0 = nI L) : ∀ d q k S row, q + d = L → d < k → CR S (edX x j row) → Ru (f0_addClass_l222 n k (nI (x.2.1 6)) (nI q) S) (nI (x.2.1 6)) (fun S' => ∃ row', CR S' (edX x j row') ∧ ∀ t, row' t = if 44 + q ≤ t ∧ t < 44 + L then x.1 13 (t - 44) else row t)
  | 0, q, k, S, row, hq, hk, h => by
    obtain ⟨k, rfl⟩ : ∃ q, k = q + 1 := ⟨k - 1, by omega⟩
    obtain rfl : q = L := by omega
    rw [f0_addClass_l222, xcg h (by decide), edX_1 (by omega), h6, if_pos (Int32.le_refl _)]
    exact Ru_some ⟨row, h, fun t => by rw [if_neg (by omega)]⟩
  | d + 1, q, k, S, row, hq, hk, h => by
    obtain ⟨k, rfl⟩ : ∃ q, k = q + 1 := ⟨k - 1, by omega⟩
    have hb : f1_boundAt n (nI q) S = some (x.1 13 q, S) := by
      unfold f1_boundAt
      rw [if_neg (nI_pos (by omega)), if_neg (nI_ge (show q < 60 by omega) (by omega)), xcr h (by decide) (show q < 60 by omega) (by decide), edX_1 (by omega)]
    rw [f0_addClass_l222, xcg h (by decide), edX_1 (by omega), h6, if_neg (nI_ge (by omega) (by omega)), hb, bnd_s, nI_add]
    refine Rc_ed n h (show 44 + q < 104 by omega) (fun S1 h1 => ?_)
    rw [nI_add]
    refine Ru_imp (x_clsC hL h6 d (q + 1) k S1 _ (by omega) (by omega) h1) (fun S' ⟨row', h', h2⟩ => ⟨row', h', fun t => ?_⟩)
    rw [h2 t]
    by_cases ht : t = 44 + q
    · subst ht
      rw [if_neg (by omega), uf_eq, if_pos (by omega), show 44 + q - 44 = q by omega]
    · rw [uf_ne ht]
      by_cases ht2 : 44 + (q + 1) ≤ t ∧ t < 44 + L
      · rw [if_pos ht2, if_pos (by omega)]
      · rw [if_neg ht2, if_neg (by omega)]
theorem x_clsF {tx : Nat → Int32} {nf : Nat} (hnf : nf ≤ 4) (hF : FldI x tx nf) : ∀ d i k S row, i + d = nf → d < k → CR S (edX x j row) → ∃ S' row', f0_addClass_l59 n k (nI (x.2.1 6)) (nI i) S = f0_addClass_l129 n n (nI (x.2.1 6)) (nI 0) S' ∧ CR S' (edX x j row') ∧ (∀ t, (t < 24 ∨ 44 ≤ t) → row' t = row t) ∧ ∀ f, f < 10 → row' (24 + f) = ohd (fnd (fun k => decide (tx (2 + 2 * k) = nI f)) i d) (row (24 + f)) (fun _ => nI 1) ∧ row' (34 + f) = ohd (fnd (fun k => decide (tx (2 + 2 * k) = nI f)) i d) (row (34 + f)) (fun k => tx (3 + 2 * k))
  | 0, i, k, S, row, hi, hk, h => by
    obtain ⟨k, rfl⟩ : ∃ q, k = q + 1 := ⟨k - 1, by omega⟩
    obtain rfl : i = nf := by omega
    refine ⟨S, row, ?_, h, fun _ _ => rfl, fun f hf => ⟨rfl, rfl⟩⟩
    rw [f0_addClass_l59, xz0 n h, edX_rk (by decide), hF.1, if_pos (Int32.le_refl _)]
  | d + 1, i, k, S, row, hi, hk, h => by
    obtain ⟨k, rfl⟩ : ∃ q, k = q + 1 := ⟨k - 1, by omega⟩
    obtain ⟨a1, a2, a3⟩ := id hF
    obtain ⟨b1, b2, g, hg, b3⟩ := a2 i (by omega)
    have hr0 : i < (edX x j row).2.1 0 := by rw [edX_rk (by decide)]; omega
    obtain ⟨S1, h1, e1⟩ := e_ed n (ρ := Int32 × CS) (k := 24 + g) (w := nI 1) h (by omega)
    obtain ⟨S2, h2, e2⟩ := e_ed n (ρ := Int32 × CS) (k := 34 + g) (w := tx (3 + 2 * i)) h1 (by omega)
    obtain ⟨S', row', r1, r2, r3, r4⟩ := x_clsF hnf hF d (i + 1) k S2 _ (by omega) (by omega) h2
    refine ⟨S', row', ?_, r2, fun t ht => by rw [r3 t ht, uf_ne (by omega), uf_ne (by omega)], fun f hf => ?_⟩
    · rw [f0_addClass_l59, xz0 n h, edX_rk (by decide), hF.1, if_neg (nI_ge (by omega) (by omega)), xg0 n h hr0 (by omega), edX_ck (by decide), b1, b3, nI_add, e1, xg0 n h1 hr0 (by omega), edX_ck (by decide), b2, nI_add, e2, nI_add]
      exact r1
    · rw [fnd]
      obtain ⟨r5, r6⟩ := r4 f hf
      by_cases hfg : f = g
      · subst hfg
        have hno : fnd (fun k => decide (tx (2 + 2 * k) = nI f)) (i + 1) d = none := by
          cases hq : fnd (fun k => decide (tx (2 + 2 * k) = nI f)) (i + 1) d with
          | none => rfl
          | some q =>
            obtain ⟨q1, q2, q3⟩ := fnd_some hq
            exact absurd (b3.trans (of_decide_eq_true q3).symm) (a3 i q (by omega) (by omega))
        rw [hno] at r5 r6
        rw [if_pos (decide_eq_true b3), r5, r6]
        refine ⟨?_, ?_⟩
        · show uf (uf row (24 + f) (nI 1)) (34 + f) (tx (3 + 2 * i)) (24 + f) = nI 1
          rw [uf_ne (by omega), uf_eq]
        · show uf (uf row (24 + f) (nI 1)) (34 + f) (tx (3 + 2 * i)) (34 + f) = tx (3 + 2 * i)
          rw [uf_eq]
      · rw [if_neg (by rw [b3]; simp; intro w; exact hfg ((nI_eq (by omega) (by omega)).mp w).symm), r5, r6, uf_ne (by omega), uf_ne (by omega), uf_ne (by omega), uf_ne (by omega)]
        exact ⟨rfl, rfl⟩
theorem x_clsM {B : Im} {tx : Nat → Int32} {nf nm : Nat} (hE : x.2.1 6 < 150) (hnm : nm ≤ 3) (hM : MthI B x tx nf nm) : ∀ d i k S row, i + d = nm → d < k → CR S (edX x j row) → ∃ S' row', f0_addClass_l129 n k (nI (x.2.1 6)) (nI i) S = f0_addClass_l222 n n (nI (x.2.1 6)) (nI 0) S' ∧ CR S' (edX x j row') ∧ (∀ t, (t < 9 ∨ 24 ≤ t) → row' t = row t) ∧ ∀ m, m < 5 → row' (9 + m) = ohd (fnd (fun k => decide (tx (mpl tx nf k - 1) = nI m)) i d) (row (9 + m)) (fun _ => nI (x.2.1 6)) ∧ row' (14 + m) = ohd (fnd (fun k => decide (tx (mpl tx nf k - 1) = nI m)) i d) (row (14 + m)) (fun k => nI (mpl tx nf k + 1)) ∧ row' (19 + m) = ohd (fnd (fun k => decide (tx (mpl tx nf k - 1) = nI m)) i d) (row (19 + m)) (fun k => nI (mpl tx nf k + 1 + (tx (mpl tx nf k)).toNatClampNeg))
  | 0, i, k, S, row, hi, hk, h => by
    obtain ⟨k, rfl⟩ : ∃ q, k = q + 1 := ⟨k - 1, by omega⟩
    obtain rfl : i = nm := by omega
    refine ⟨S, row, ?_, h, fun _ _ => rfl, fun f hf => ⟨rfl, rfl, rfl⟩⟩
    rw [f0_addClass_l129, xz1 n h, edX_rk (by decide), hM.1, if_pos (Int32.le_refl _)]
  | d + 1, i, k, S, row, hi, hk, h => by
    obtain ⟨k, rfl⟩ : ∃ q, k = q + 1 := ⟨k - 1, by omega⟩
    obtain ⟨a1, a2, a3⟩ := id hM
    obtain ⟨b1, ⟨g, hg, b3⟩, len, b4, b5, b6, b7, _⟩ := a2 i (by omega)
    have hr0 : i < (edX x j row).2.1 1 := by rw [edX_rk (by decide)]; omega
    obtain ⟨S1, h1, e1⟩ := e_ed n (ρ := Int32 × CS) (k := 9 + g) (w := nI (x.2.1 6)) h (by omega)
    obtain ⟨S2, h2, e2⟩ := e_ed n (ρ := Int32 × CS) (k := 14 + g) (w := nI (mpl tx nf i + 1)) h1 (by omega)
    obtain ⟨S3, h3, e3⟩ := e_ed n (ρ := Int32 × CS) (k := 19 + g) (w := nI (mpl tx nf i + 1 + len)) h2 (by omega)
    obtain ⟨S', row', r1, r2, r3, r4⟩ := x_clsM hE hnm hM d (i + 1) k S3 _ (by omega) (by omega) h3
    refine ⟨S', row', ?_, r2, fun t ht => by rw [r3 t ht, uf_ne (by omega), uf_ne (by omega), uf_ne (by omega)], fun m hm => ?_⟩
    · rw [f0_addClass_l129, xz1 n h, edX_rk (by decide), hM.1, if_neg (nI_ge (by omega) (by omega)), xg1 n h hr0 (by omega), edX_ck (by decide), b1, b3, nI_add, e1, xg1 n h1 hr0 (by omega), edX_ck (by decide), b6, nI_add, e2, xg1 n h2 hr0 (by omega), edX_ck (by decide), b7, nI_add, e3, nI_add]
      exact r1
    · rw [fnd]
      obtain ⟨r5, r6, r7⟩ := r4 m hm
      by_cases hfg : m = g
      · subst hfg
        have hno : fnd (fun k => decide (tx (mpl tx nf k - 1) = nI m)) (i + 1) d = none := by
          cases hq : fnd (fun k => decide (tx (mpl tx nf k - 1) = nI m)) (i + 1) d with
          | none => rfl
          | some q =>
            obtain ⟨q1, q2, q3⟩ := fnd_some hq
            exact absurd (b3.trans (of_decide_eq_true q3).symm) (a3 i q (by omega) (by omega))
        rw [hno] at r5 r6 r7
        rw [if_pos (decide_eq_true b3), r5, r6, r7]
        refine ⟨?_, ?_, ?_⟩
        · show uf (uf (uf row (9 + m) _) (14 + m) _) (19 + m) _ (9 + m) = nI (x.2.1 6)
          rw [uf_ne (by omega), uf_ne (by omega), uf_eq]
        · show uf (uf (uf row (9 + m) _) (14 + m) _) (19 + m) _ (14 + m) = nI (mpl tx nf i + 1)
          rw [uf_ne (by omega), uf_eq]
        · show uf (uf (uf row (9 + m) _) (14 + m) _) (19 + m) _ (19 + m) = nI (mpl tx nf i + 1 + (tx (mpl tx nf i)).toNatClampNeg)
          rw [uf_eq, b5, nI_clamp (by omega)]
      · rw [if_neg (by rw [b3]; simp; intro w; exact hfg ((nI_eq (by omega) (by omega)).mp w).symm), r5, r6, r7, uf_ne (by omega), uf_ne (by omega), uf_ne (by omega), uf_ne (by omega), uf_ne (by omega), uf_ne (by omega), uf_ne (by omega), uf_ne (by omega), uf_ne (by omega)]
        exact ⟨rfl, rfl, rfl⟩
end EDX
