-- ===== a text is looked at: the tape's, or a cell's =====
theorem pv_n {x : X} {a i j : Nat} {v : Int32} (h : j ≠ i) : (pv x a i v).1 a j = x.1 a j := by show mS x.1 a i v a j = _; exact mS_ne2 h
def FX3 (x x' : X) : Prop := (∀ a, a < 6 ∨ 15 ≤ a → x'.1 a = x.1 a) ∧ (∀ k, 2 ≤ k → x'.2.1 k = x.2.1 k ∧ x'.2.2.1 k = x.2.2.1 k) ∧ x'.2.2.2 = x.2.2.2
def FM3 (M M' : MR) : Prop := ∀ a, a < 4 ∨ 10 ≤ a → M' a = M a
theorem FX3_trans {x x' x'' : X} (h : FX3 x x') (h' : FX3 x' x'') : FX3 x x'' := ⟨fun a ha => (h'.1 a ha).trans (h.1 a ha), fun k hk => ⟨((h'.2.1 k hk).1).trans (h.2.1 k hk).1, ((h'.2.1 k hk).2).trans (h.2.1 k hk).2⟩, h'.2.2.trans h.2.2⟩
theorem FM3_trans {x x' x'' : MR} (h : FM3 x x') (h' : FM3 x' x'') : FM3 x x'' := fun a ha => (h' a ha).trans (h a ha)
theorem FX3_of {x x' : X} (h : FX2 x x') : FX3 x x' := ⟨fun a ha => h.1 a (by omega) (by omega) (by omega) (by omega) (by omega), h.2⟩
theorem FM3_of {M M' : MR} (h : FM2 M M') : FM3 M M' := fun a ha => h a (by omega) (by omega) (by omega) (by omega)
theorem FX3_im {x x' : X} (h : FX3 x x') : im x' = im x := by
  unfold im
  rw [(h.2.1 5 (by omega)).1, (h.2.1 6 (by omega)).1, (h.2.1 7 (by omega)).1, (h.2.1 5 (by omega)).2, (h.2.1 6 (by omega)).2, (h.2.1 7 (by omega)).2, h.1 20 (by omega)]
theorem FX3_pv {x : X} {a i : Nat} {v : Int32} (h : 6 ≤ a ∧ a < 15) : FX3 x (pv x a i v) := ⟨fun b hb => pv_o (by omega), fun _ _ => ⟨rfl, rfl⟩, rfl⟩
theorem FX3_ro {x : X} {k R : Nat} (h : k < 2) : FX3 x (ro x k R) := ⟨fun _ _ => rfl, fun j hj => ⟨by show uf x.2.1 k R j = _; rw [uf_ne (by omega)], rfl⟩, rfl⟩
theorem FM3_mS {M : MR} {a i : Nat} {v : Int32} (h : 4 ≤ a ∧ a < 10) : FM3 M (mS M a i v) := fun b hb => mS_o (by omega)
section OPEN
variable (n : Nat)
def Nw1 (x : X) (B : Im) (j : Nat) : Prop := x.1 10 j = bnw B j ∧ ∀ e, e < bE B → bnw B j = nI e → x.1 11 j = bed B e 2
theorem x_open_l (x : X) (hW : WF (im x)) : ∀ d j k S y, j + d = 16 → d < k → CR S y → FX3 x y → (∀ i, i < j → Nw1 y (im x) i) → Ru (f1_open_l2 n k (nI j) S) 0 (fun S' => ∃ x', CR S' x' ∧ FX3 x x' ∧ NwR x' ∧ x'.1 6 0 = nI 0 ∧ x'.1 7 0 = nI 0 ∧ x'.1 8 0 = -1 ∧ x'.2.1 0 = 0 ∧ x'.2.1 1 = 0)
  | 0, j, k, S, y, hj, hk, h, hF, hN => by
    obtain ⟨k, rfl⟩ : ∃ q, k = q + 1 := ⟨k - 1, by omega⟩
    obtain rfl : j = 16 := by omega
    rw [f1_open_l2, if_pos (Int32.le_refl _)]
    refine Rc_clear n (by decide) h (fun S1 h1 => ?_)
    refine Rc_clear n (by decide) h1 (fun S2 h2 => ?_)
    refine Rc_cp (by decide) h2 (fun S3 h3 => ?_)
    refine Rc_cp (by decide) h3 (fun S4 h4 => ?_)
    refine Rc_cp (by decide) h4 (fun S5 h5 => ?_)
    refine Rc_cp (by decide) h5 (fun S6 h6 => ?_)
    refine Rc_cp (by decide) h6 (fun S7 h7 => ?_)
    have hF' : FX3 x (pv (pv (pv (pv (pv (ro (ro y 0 0) 1 0) 6 0 (nI 0)) 7 0 (nI 0)) 8 0 (-1)) 9 0 (nI 0)) 14 0 (nI 0)) := FX3_trans hF (FX3_trans (FX3_ro (by omega)) (FX3_trans (FX3_ro (by omega)) (FX3_trans (FX3_pv (by omega)) (FX3_trans (FX3_pv (by omega)) (FX3_trans (FX3_pv (by omega)) (FX3_trans (FX3_pv (by omega)) (FX3_pv (by omega))))))))
    refine Ru_some ⟨_, h7, hF', fun i hi => ?_, ?_, ?_, ?_, rfl, rfl⟩
    · rw [FX3_im hF', pv_o (by omega), pv_o (by omega), pv_o (by omega), pv_o (by omega), pv_o (by omega), pv_o (by omega), pv_o (by omega), pv_o (by omega), pv_o (by omega), pv_o (by omega)]
      exact hN i hi
    · rw [pv_o (by omega), pv_o (by omega), pv_o (by omega), pv_o (by omega), pv_e]
    · rw [pv_o (by omega), pv_o (by omega), pv_o (by omega), pv_e]
    · rw [pv_o (by omega), pv_o (by omega), pv_e]
  | d + 1, j, k, S, y, hj, hk, h, hF, hN => by
    obtain ⟨k, rfl⟩ : ∃ q, k = q + 1 := ⟨k - 1, by omega⟩
    have hB := hW.1
    have hi := FX3_im hF
    rw [f1_open_l2, if_neg (nI_ge (show j < 16 by omega) (by omega)), q_newestOf n S (show j < 16 by omega), bnd_s, h.1 20 (by decide), show y.1 20 j = bnw (im x) j by rw [← hi]; rfl]
    refine Rc_cw (by decide) (by decide) h (show j < 16 by omega) (fun S1 h1 => ?_)
    refine Rc_cr (by decide) (by decide) h1 (show j < 16 by omega) ?_
    rw [pv_e]
    have step : ∀ w, (∀ e, e < bE (im x) → bnw (im x) j = nI e → w = bed (im x) e 2) → Ru (cw S1 11 16 (nI j) w fun S12 => f1_open_l2 n k (nI j + nI 1) S12) 0 (fun S' => ∃ x', CR S' x' ∧ FX3 x x' ∧ NwR x' ∧ x'.1 6 0 = nI 0 ∧ x'.1 7 0 = nI 0 ∧ x'.1 8 0 = -1 ∧ x'.2.1 0 = 0 ∧ x'.2.1 1 = 0) := by
      intro w hw
      refine Rc_cw (by decide) (by decide) h1 (show j < 16 by omega) (fun S2 h2 => ?_)
      rw [nI_add]
      refine x_open_l x hW d (j + 1) k S2 _ (by omega) (by omega) h2 (FX3_trans hF (FX3_trans (FX3_pv (by omega)) (FX3_pv (by omega)))) (fun i hi => ?_)
      by_cases hij : i = j
      · subst hij
        refine ⟨?_, fun e he hq => ?_⟩
        · rw [pv_o (by omega)]; exact pv_e
        · rw [pv_e]; exact hw e he hq
      · have := hN i (by omega)
        unfold Nw1
        rw [pv_o (show (10 : Nat) ≠ 11 by decide), pv_n hij, pv_n hij, pv_o (show (11 : Nat) ≠ 10 by decide)]
        exact this
    rcases hW.2.2.2.2 j (by omega) with q | ⟨e, he, q, _⟩
    · rw [q, b_get_o n (by decide) (h1.2.1 6 (by decide)) (Or.inl m1_lt)]
      refine step _ (fun e he w => ?_)
      rw [q] at w
      exact absurd w (m1_n e (by omega))
    · rw [q]
      have hee : e < bE (im (pv y 10 j (bnw (im x) j))) := by rw [im_pv (by omega), hi]; exact he
      rw [q] at h1 hee
      rw [xg6 n h1 hee (by omega)]
      rw [q] at step
      refine step _ (fun e' he' w => ?_)
      rw [nI_eq (by omega) (by omega)] at w
      subst w
      rw [im_pv (by omega), hi]
theorem x_open (hn : 1000 ≤ n) {S : CS} {x : X} (h : CR S x) (hW : WF (im x)) : Ru (f1_open n S) 0 (fun S' => ∃ x', CR S' x' ∧ FX3 x x' ∧ NwR x' ∧ x'.1 6 0 = nI 0 ∧ x'.1 7 0 = nI 0 ∧ x'.1 8 0 = -1 ∧ x'.2.1 0 = 0 ∧ x'.2.1 1 = 0) :=
  x_open_l n x hW 16 0 n S x (by omega) (by omega) h ⟨fun _ _ => rfl, fun _ _ => ⟨rfl, rfl⟩, rfl⟩ (fun i hi => by omega)
def AddI (x x' : X) (L : Nat) (txt : Nat → Int32) : Prop := (∀ a, a ≠ 6 → a ≠ 12 → a ≠ 13 → x'.1 a = x.1 a) ∧ x'.2 = x.2 ∧ x'.1 6 0 = nI L ∧ ∀ i, i < L → x'.1 12 i = txt i ∧ x'.1 13 i = txt i
theorem x_addInt {S : CS} {x y : X} {L : Nat} {txt : Nat → Int32} (h : CR S y) (hA : AddI x y L txt) (hL : L < 60) : Ru (f1_addInt n (txt L) S) 0 (fun S' => ∃ y', CR S' y' ∧ AddI x y' (L + 1) txt) := by
  obtain ⟨a1, a2, a3, a4⟩ := hA
  unfold f1_addInt
  rw [xcg h (by decide), a3, if_neg (nI_pos (by omega)), xcg h (by decide), a3, if_neg (nI_ge hL (by omega)), xcg h (by decide), a3]
  refine Rc_cw (by decide) (by decide) h hL (fun S1 h1 => ?_)
  rw [xcg h1 (by decide), pv_o (by omega), a3]
  refine Rc_cw (by decide) (by decide) h1 hL (fun S2 h2 => ?_)
  rw [xcg h2 (by decide), pv_o (by omega), pv_o (by omega), a3, nI_add]
  refine Rc_cp (by decide) h2 (fun S3 h3 => Ru_some ⟨_, h3, fun a b1 b2 b3 => ?_, a2, pv_e, fun i hi => ?_⟩)
  · rw [pv_o b1, pv_o b3, pv_o b2]; exact a1 a b1 b2 b3
  · rw [pv_o (show (12 : Nat) ≠ 6 by decide), pv_o (show (13 : Nat) ≠ 6 by decide), pv_o (show (12 : Nat) ≠ 13 by decide)]
    by_cases hi' : i = L
    · subst hi'
      exact ⟨pv_e, pv_e⟩
    · rw [pv_n hi', pv_n hi', pv_o (show (13 : Nat) ≠ 12 by decide)]
      exact a4 i (by omega)
theorem x_tapeL {x : X} {t : Nat} {s : Int32} (ht : t ≤ 60) (h1 : x.1 1 0 = nI t) : ∀ d i k S y, i + d = t → d < k → CR S y → AddI x y i (x.1 0) → ∃ S' y', f4_faultOfTape_l13 n k s (nI i) S = f4_faultOfTape_b46 n s S' ∧ CR S' y' ∧ AddI x y' t (x.1 0)
  | 0, i, k, S, y, hi, hk, h, hA => by
    obtain ⟨k, rfl⟩ : ∃ q, k = q + 1 := ⟨k - 1, by omega⟩
    obtain rfl : i = t := by omega
    refine ⟨S, y, ?_, h, hA⟩
    rw [f4_faultOfTape_l13, xcg h (by decide), hA.1 1 (by omega) (by omega) (by omega), h1, if_pos (Int32.le_refl _)]
  | d + 1, i, k, S, y, hi, hk, h, hA => by
    obtain ⟨k, rfl⟩ : ∃ q, k = q + 1 := ⟨k - 1, by omega⟩
    obtain ⟨S1, e1, y1, c1, A1⟩ := x_addInt n h hA (show i < 60 by omega)
    obtain ⟨S2, y2, e2, c2, A2⟩ := x_tapeL ht h1 d (i + 1) k S1 y1 (by omega) (by omega) c1 A1
    refine ⟨S2, y2, ?_, c2, A2⟩
    rw [f4_faultOfTape_l13, xcg h (by decide), hA.1 1 (by omega) (by omega) (by omega), h1, if_neg (nI_ge (by omega) (by omega)), if_neg (nI_ge (show i < 60 by omega) (by omega)), xcr h (by decide) (by omega) (by decide), hA.1 0 (by omega) (by omega) (by omega), e1, bnd_s, nI_add, e2]
theorem x_cellL {x : X} {c L : Nat} (hL : L ≤ 60) (hc : c < bC (im x)) (hC : bC (im x) ≤ 40) : ∀ d i k S y, i + d = L → d < k → CR S y → AddI x y i (fun i => bce (im x) c (9 + i)) → ∃ S' y', f4_faultOfCell_l27 n k (nI c) (nI L) (nI i) S = f4_faultOfCell_b66 n (nI c) S' ∧ CR S' y' ∧ AddI x y' L (fun i => bce (im x) c (9 + i))
  | 0, i, k, S, y, hi, hk, h, hA => by
    obtain ⟨k, rfl⟩ : ∃ q, k = q + 1 := ⟨k - 1, by omega⟩
    obtain rfl : i = L := by omega
    refine ⟨S, y, ?_, h, hA⟩
    rw [f4_faultOfCell_l27, if_pos (Int32.le_refl _)]
  | d + 1, i, k, S, y, hi, hk, h, hA => by
    obtain ⟨k, rfl⟩ : ∃ q, k = q + 1 := ⟨k - 1, by omega⟩
    obtain ⟨S1, e1, y1, c1, A1⟩ := x_addInt n h hA (show i < 60 by omega)
    obtain ⟨S2, y2, e2, c2, A2⟩ := x_cellL hL hc hC d (i + 1) k S1 y1 (by omega) (by omega) c1 A1
    refine ⟨S2, y2, ?_, c2, A2⟩
    have hg : ∀ K : Int32 → CS → Option (Int32 × CS), bT 5 S (f2_get n (nI c) (nI (9 + i)) (tOf 5 S)) K = K (bce (im x) c (9 + i)) S := fun K => by
      have := xg5 n h (K := K) (i := c) (c := 9 + i) (by show c < y.2.1 5; rw [hA.2.1]; exact hc) (by omega)
      rw [this]
      show K (y.2.2.1 5 c (9 + i)) S = _
      rw [hA.2.1]; rfl
    rw [f4_faultOfCell_l27, if_neg (nI_ge (by omega) (by omega)), if_neg (nI_ge (show i < 60 by omega) (by omega)), nI_add, hg, e1, bnd_s, nI_add, e2]
-- the reference
def LkT (s : Int32) (M : MR) : Option (Int32 × MR) := if s = 0 then gf M 6 fun v4 => bnd (fR_code n (nI 0) v4 (nI 0) M) fun _ M5 => gf M5 7 fun v6 => some (v6, M5) else bnd (fR_classText n M) fun _ M2 => gf M2 7 fun v3 => some (v3, M2)
theorem r_lk29 {M0 : MR} {L : Nat} {s : Int32} (hL : L ≤ 60) : ∀ d i k M, i + d = L → d < k → M 6 0 = nI L → (∀ a, a ≠ 5 → M a = M0 a) → (∀ q, q < i → M 5 q = M0 4 q) → ∃ M', fR_looked_l29 n k s (nI i) M = LkT n s M' ∧ M' 6 0 = nI L ∧ (∀ a, a ≠ 5 → M' a = M0 a) ∧ (∀ q, q < L → M' 5 q = M0 4 q)
  | 0, i, k, M, hi, hk, h6, ha, h5 => by
    obtain ⟨k, rfl⟩ : ∃ q, k = q + 1 := ⟨k - 1, by omega⟩
    obtain rfl : i = L := by omega
    refine ⟨M, ?_, h6, ha, h5⟩
    rw [fR_looked_l29, show ∀ K : Int32 → Option (Int32 × MR), gf M 6 K = K (nI i) from fun K => by unfold gf; rw [h6], if_pos (Int32.le_refl _)]
    rfl
  | d + 1, i, k, M, hi, hk, h6, ha, h5 => by
    obtain ⟨k, rfl⟩ : ∃ q, k = q + 1 := ⟨k - 1, by omega⟩
    obtain ⟨M', e1, e2⟩ := r_lk29 (M0 := M0) (s := s) hL d (i + 1) k (mS M 5 i (M 4 i)) (by omega) (by omega) (by rw [mS_ne (by omega)]; exact h6) (fun a a1 => by rw [mS_o a1]; exact ha a a1) (fun q hq => by
      by_cases hqi : q = i
      · subst hqi; rw [mS_eq, ha 4 (by omega)]
      · rw [mS_ne2 hqi]; exact h5 q (by omega))
    refine ⟨M', ?_, e2⟩
    rw [fR_looked_l29, show ∀ K : Int32 → Option (Int32 × MR), gf M 6 K = K (nI L) from fun K => by unfold gf; rw [h6], if_neg (nI_ge (by omega) (by omega)), rd_at (by omega) (by decide), wr_at (by omega) (by decide), nI_add, e1]
theorem r_lk7 {M0 : MR} {s : Int32} : ∀ d e k M, e + d = 150 → d < k → (∀ a, a ≠ 9 → M a = M0 a) → (∀ q, q < e → M 9 q = nI 0) → ∃ M', fR_looked_l7 n k s (nI e) M = fR_looked_l29 n n s (nI 0) M' ∧ (∀ a, a ≠ 9 → M' a = M0 a) ∧ (∀ q, q < 150 → M' 9 q = nI 0)
  | 0, e, k, M, hi, hk, ha, h5 => by
    obtain ⟨k, rfl⟩ : ∃ q, k = q + 1 := ⟨k - 1, by omega⟩
    obtain rfl : e = 150 := by omega
    refine ⟨M, ?_, ha, h5⟩
    rw [fR_looked_l7, if_pos (Int32.le_refl _)]
  | d + 1, e, k, M, hi, hk, ha, h5 => by
    obtain ⟨k, rfl⟩ : ∃ q, k = q + 1 := ⟨k - 1, by omega⟩
    obtain ⟨M', e1, e2⟩ := r_lk7 (M0 := M0) (s := s) d (e + 1) k (mS M 9 e (nI 0)) (by omega) (by omega) (fun a a1 => by rw [mS_o a1]; exact ha a a1) (fun q hq => by
      by_cases hqi : q = e
      · subst hqi; rw [mS_eq]
      · rw [mS_ne2 hqi]; exact h5 q (by omega))
    refine ⟨M', ?_, e2⟩
    rw [fR_looked_l7, if_neg (nI_ge (show e < 150 by omega) (by omega)), wz_at bo_0 (by omega) (by decide), nI_add, e1]
theorem r_looked (hn : 1000 ≤ n) {M : MR} {L : Nat} {s : Int32} (hL : L ≤ 60) (h6 : M 6 0 = nI L) : ∃ M', fR_looked n s M = LkT n s M' ∧ M' 6 0 = nI L ∧ M' 7 0 = -1 ∧ (∀ a, a ≠ 5 → a ≠ 7 → a ≠ 9 → M' a = M a) ∧ (∀ q, q < L → M' 5 q = M 4 q) ∧ (∀ q, q < 150 → M' 9 q = nI 0) := by
  obtain ⟨M1, e1, a1, b1⟩ := r_lk7 n (M0 := mS M 7 0 (-1)) (s := s) 150 0 n (mS M 7 0 (-1)) (by omega) (by omega) (fun _ _ => rfl) (fun q hq => by omega)
  obtain ⟨M2, e2, a2, b2, c2⟩ := r_lk29 n (M0 := M1) (s := s) hL L 0 n M1 (by omega) (by omega) (by rw [a1 6 (by omega), mS_ne (by omega)]; exact h6) (fun _ _ => rfl) (fun q hq => by omega)
  refine ⟨M2, ?_, a2, ?_, fun a h5 h7 h9 => ?_, fun q hq => ?_, fun q hq => ?_⟩
  · unfold fR_looked
    rw [show ∀ K : MR → Option (Int32 × MR), pf M 7 (-1) K = K (mS M 7 0 (-1)) from fun _ => rfl, e1, e2]
  · rw [b2 7 (by omega), a1 7 (by omega), mS_eq]
  · rw [b2 a h5, a1 a h9, mS_o h7]
  · rw [c2 q hq, a1 4 (by omega), mS_ne (by omega)]
  · rw [b2 9 (by omega)]; exact b1 q hq
theorem r_lkTape {M0 : MR} {t : Nat} {s : Int32} (ht : t ≤ 60) : ∀ d i k M, i + d = t → d < k → M 3 0 = nI t → (∀ a, a ≠ 4 → M a = M0 a) → (∀ q, q < i → M 4 q = M0 2 q) → ∃ M', fR_lookAtTape_l10 n k s (nI i) M = bnd (fR_looked n s M') (fun v2 M2 => some (v2, M2)) ∧ (∀ a, a ≠ 4 → M' a = M0 a) ∧ (∀ q, q < t → M' 4 q = M0 2 q)
  | 0, i, k, M, hi, hk, h6, ha, h5 => by
    obtain ⟨k, rfl⟩ : ∃ q, k = q + 1 := ⟨k - 1, by omega⟩
    obtain rfl : i = t := by omega
    refine ⟨M, ?_, ha, h5⟩
    rw [fR_lookAtTape_l10, show ∀ K : Int32 → Option (Int32 × MR), gf M 3 K = K (nI i) from fun K => by unfold gf; rw [h6], if_pos (Int32.le_refl _)]
  | d + 1, i, k, M, hi, hk, h6, ha, h5 => by
    obtain ⟨k, rfl⟩ : ∃ q, k = q + 1 := ⟨k - 1, by omega⟩
    obtain ⟨M', e1, e2⟩ := r_lkTape (M0 := M0) (s := s) ht d (i + 1) k (mS M 4 i (M 2 i)) (by omega) (by omega) (by rw [mS_ne (by omega)]; exact h6) (fun a a1 => by rw [mS_o a1]; exact ha a a1) (fun q hq => by
      by_cases hqi : q = i
      · subst hqi; rw [mS_eq, ha 2 (by omega)]
      · rw [mS_ne2 hqi]; exact h5 q (by omega))
    refine ⟨M', ?_, e2⟩
    rw [fR_lookAtTape_l10, show ∀ K : Int32 → Option (Int32 × MR), gf M 3 K = K (nI t) from fun K => by unfold gf; rw [h6], if_neg (nI_ge (by omega) (by omega)), rd_at (by omega) (by decide), wr_at (by omega) (by decide), nI_add, e1]
theorem r_lkCell {B : Im} {M0 : MR} {c L : Nat} (hL : L ≤ 60) (hc : c < 40) : ∀ d i k M, i + d = L → d < k → M 6 0 = nI L → (∀ a, a ≠ 4 → M a = M0 a) → (∀ q, q < i → M 4 q = M0 0 (20 + 180 * c + 112 + q)) → ∃ M', fR_lookAtCell_l17 n k (nI c) (nI i) M = bnd (fR_looked n (M0 0 (20 + 180 * c + 1)) M') (fun v2 M2 => some (v2, M2)) ∧ (∀ a, a ≠ 4 → M' a = M0 a) ∧ (∀ q, q < L → M' 4 q = M0 0 (20 + 180 * c + 112 + q))
  | 0, i, k, M, hi, hk, h6, ha, h5 => by
    obtain ⟨k, rfl⟩ : ∃ q, k = q + 1 := ⟨k - 1, by omega⟩
    obtain rfl : i = L := by omega
    refine ⟨M, ?_, ha, h5⟩
    rw [fR_lookAtCell_l17, show ∀ K : Int32 → Option (Int32 × MR), gf M 6 K = K (nI i) from fun K => by unfold gf; rw [h6], if_pos (Int32.le_refl _), r_cellAt, bnd_s, nI_add, rd_at (by omega) (by decide), ha 0 (by omega)]
  | d + 1, i, k, M, hi, hk, h6, ha, h5 => by
    obtain ⟨k, rfl⟩ : ∃ q, k = q + 1 := ⟨k - 1, by omega⟩
    obtain ⟨M', e1, e2⟩ := r_lkCell (B := B) (M0 := M0) hL hc d (i + 1) k (mS M 4 i (M 0 (20 + 180 * c + 112 + i))) (by omega) (by omega) (by rw [mS_ne (by omega)]; exact h6) (fun a a1 => by rw [mS_o a1]; exact ha a a1) (fun q hq => by
      by_cases hqi : q = i
      · subst hqi; rw [mS_eq, ha 0 (by omega)]
      · rw [mS_ne2 hqi]; exact h5 q (by omega))
    refine ⟨M', ?_, e2⟩
    rw [fR_lookAtCell_l17, show ∀ K : Int32 → Option (Int32 × MR), gf M 6 K = K (nI L) from fun K => by unfold gf; rw [h6], if_neg (nI_ge (by omega) (by omega)), r_cellAt, bnd_s, nI_add, nI_add, rd_at (by omega) (by decide), wr_at (by omega) (by decide), nI_add, e1]
end OPEN
