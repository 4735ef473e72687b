/-- the tape, laid into a cell -/
def tkX (x : X) (c q t : Nat) : X := (x.1, x.2.1, uf x.2.2.1 5 (fun r k => if r = c ∧ k = 8 then nI t else if r = c ∧ 9 ≤ k ∧ k < 9 + q then x.1 0 (k - 9) else x.2.2.1 5 r k), x.2.2.2)
section LAY
variable (n : Nat)
theorem x_take_l {x : X} {c t : Nat} (hc : c < x.2.1 5) (ht : t ≤ 60) (h1 : x.1 1 0 = nI t) : ∀ d q k S, q + d = t → d < k → CR S (tkX x c q t) → Ru (f4_takeTape_l19 n k (nI c) (nI q) S) 0 (fun S' => CR S' (pv (tkX x c t t) 1 0 (nI 0)))
  | 0, q, k, S, hq, hk, h => by
    obtain ⟨k, rfl⟩ : ∃ q, k = q + 1 := ⟨k - 1, by omega⟩
    obtain rfl : q = t := by omega
    rw [f4_takeTape_l19, xcg h (by decide), show (tkX x c q q).1 1 0 = nI q from h1, if_pos (Int32.le_refl _)]
    exact Rc_cp (by decide) h (fun S' h' => Ru_some h')
  | d + 1, q, k, S, hq, hk, h => by
    obtain ⟨k, rfl⟩ : ∃ q, k = q + 1 := ⟨k - 1, by omega⟩
    have hc5 : c < (tkX x c q t).2.1 5 := hc
    rw [f4_takeTape_l19, xcg h (by decide), show (tkX x c q t).1 1 0 = nI t from h1, if_neg (nI_ge (show q < t by omega) (by omega)), if_neg (nI_ge (show q < 60 by omega) (by omega)), xcr h (by decide) (show q < 60 by omega) (by decide), nI_add]
    refine Rc_set n (by decide) h hc5 (show 9 + q < 125 by omega) (fun S1 h1' => ?_)
    rw [nI_add]
    refine x_take_l hc ht h1 d (q + 1) k S1 (by omega) (by omega) (CR_ext h1' (fun _ _ => rfl) (fun _ _ => rfl) (fun u r k' hu _ hk' => ?_) rfl)
    by_cases hu5 : u = 5
    · subst hu5
      show (if r = c ∧ k' = 8 then nI t else if r = c ∧ 9 ≤ k' ∧ k' < 9 + (q + 1) then x.1 0 (k' - 9) else x.2.2.1 5 r k') = st2 (fun r k => if r = c ∧ k = 8 then nI t else if r = c ∧ 9 ≤ k ∧ k < 9 + q then x.1 0 (k - 9) else x.2.2.1 5 r k) c (9 + q) (x.1 0 q) r k'
      by_cases hrc : r = c ∧ k' = 9 + q
      · obtain ⟨rfl, rfl⟩ := hrc
        rw [st2_eq, if_neg (by omega), if_pos (by omega), show 9 + q - 9 = q by omega]
      · rw [st2_ne (by omega)]
        by_cases h8 : r = c ∧ k' = 8
        · rw [if_pos h8, if_pos h8]
        · rw [if_neg h8, if_neg h8]
          by_cases h9 : r = c ∧ 9 ≤ k' ∧ k' < 9 + q
          · rw [if_pos (by omega), if_pos h9]
          · rw [if_neg (by omega), if_neg h9]
    · show uf x.2.2.1 5 _ u r k' = uf (uf x.2.2.1 5 _) 5 _ u r k'
      rw [uf_ne hu5, uf_ne hu5, uf_ne hu5]
theorem x_take {x : X} {c t : Nat} {S : CS} (hn : 1000 ≤ n) (h : CR S x) (hc : c < x.2.1 5) (ht : t ≤ 60) (h1 : x.1 1 0 = nI t) : Ru (f4_takeTape n (nI c) S) 0 (fun S' => CR S' (pv (tkX x c t t) 1 0 (nI 0))) := by
  unfold f4_takeTape
  rw [xcg h (by decide), h1]
  refine Rc_set n (by decide) h hc (show 8 < 125 by decide) (fun S1 h1' => ?_)
  refine x_take_l n hc ht h1 t 0 n S1 (by omega) (by omega) (CR_ext h1' (fun _ _ => rfl) (fun _ _ => rfl) (fun u r k' hu _ hk' => ?_) rfl)
  by_cases hu5 : u = 5
  · subst hu5
    show (if r = c ∧ k' = 8 then nI t else if r = c ∧ 9 ≤ k' ∧ k' < 9 + 0 then x.1 0 (k' - 9) else x.2.2.1 5 r k') = st2 (x.2.2.1 5) c 8 (nI t) r k'
    unfold st2
    by_cases h8 : r = c ∧ k' = 8
    · rw [if_pos h8, if_pos h8]
    · rw [if_neg h8, if_neg h8, if_neg (by omega)]
  · show uf x.2.2.1 5 _ u r k' = uf x.2.2.1 5 _ u r k'
    rw [uf_ne hu5, uf_ne hu5]
theorem r_lay_l {M0 : MR} {c L : Nat} (hc : c < 40) (hL : L ≤ 60) (h6 : M0 6 0 = nI L) : ∀ d q k (M : MR), q + d = L → d < k → (∀ a, a ≠ 0 → M a = M0 a) → (∀ i, (i < 20 + 180 * c + 112 ∨ 20 + 180 * c + 172 ≤ i) → M 0 i = M0 0 i) → (∀ i, i < q → M 0 (20 + 180 * c + 112 + i) = M0 4 i) → ∃ M', fR_layText_l17 n k (nI c) (nI q) M = some (0, mS M' 3 0 (nI 0)) ∧ (∀ a, a ≠ 0 → M' a = M0 a) ∧ (∀ i, (i < 20 + 180 * c + 112 ∨ 20 + 180 * c + 172 ≤ i) → M' 0 i = M0 0 i) ∧ ∀ i, i < L → M' 0 (20 + 180 * c + 112 + i) = M0 4 i
  | 0, q, k, M, hq, hk, h1, h2, h3 => by
    obtain ⟨k, rfl⟩ : ∃ q, k = q + 1 := ⟨k - 1, by omega⟩
    obtain rfl : q = L := by omega
    rw [fR_layText_l17, gf_e (v := nI q) (by rw [h1 6 (by omega)]; exact h6), if_pos (Int32.le_refl _), pf_e]
    exact ⟨M, rfl, h1, h2, h3⟩
  | d + 1, q, k, M, hq, hk, h1, h2, h3 => by
    obtain ⟨k, rfl⟩ : ∃ q, k = q + 1 := ⟨k - 1, by omega⟩
    rw [fR_layText_l17, gf_e (v := nI L) (by rw [h1 6 (by omega)]; exact h6), if_neg (nI_ge (show q < L by omega) (by omega)), r_cellAt, bnd_s, rd_at (show q < 60 by omega) (by decide), nI_add, nI_add, wr_at (by omega) (by decide), nI_add]
    refine r_lay_l hc hL h6 d (q + 1) k _ (by omega) (by omega) (fun a ha => by rw [mS_o ha, h1 a ha]) (fun i hi => by rw [mS_ne2 (by omega), h2 i hi]) (fun i hi => ?_)
    by_cases hiq : i = q
    · subst hiq; rw [mS_eq, h1 4 (by omega)]
    · rw [mS_ne2 (by omega), h3 i (by omega)]
theorem r_lay {M : MR} {c L : Nat} (hn : 1000 ≤ n) (hc : c < 40) (hL : L ≤ 60) (h6 : M 6 0 = nI L) : ∃ M', fR_layText n (nI c) M = some (0, M') ∧ (∀ a, a ≠ 0 → a ≠ 3 → M' a = M a) ∧ M' 3 0 = nI 0 ∧ M' 0 (20 + 180 * c + 2) = nI L ∧ (∀ i, i < L → M' 0 (20 + 180 * c + 112 + i) = M 4 i) ∧ ∀ i, i ≠ 20 + 180 * c + 2 → (i < 20 + 180 * c + 112 ∨ 20 + 180 * c + 172 ≤ i) → M' 0 i = M 0 i := by
  obtain ⟨M', r1, r2, r3, r4⟩ := r_lay_l n (M0 := mS M 0 (20 + 180 * c + 2) (nI L)) hc hL (by rw [mS_ne (by omega)]; exact h6) L 0 n _ (by omega) (by omega) (fun _ _ => rfl) (fun _ _ => rfl) (fun i hi => by omega)
  refine ⟨mS M' 3 0 (nI 0), ?_, fun a h1 h2 => by rw [mS_o h2, r2 a h1, mS_o h1], mS_eq, ?_, fun i hi => ?_, fun i h1 h2 => ?_⟩
  · unfold fR_layText
    rw [r_cellAt, bnd_s, gf_e h6, nI_add, wr_at (by omega) (by decide), show fR_layText_l17 n n (nI c) (nI 0) _ = _ from r1]
  · rw [mS_ne (by omega), r3 _ (by omega), mS_eq]
  · rw [mS_ne (by omega), r4 i hi, mS_ne (by omega)]
  · rw [mS_ne (by omega), r3 i h2, mS_ne2 h1]
theorem LkOk_t {x x' : X} {M M' : MR} {s L : Nat} {txt : Nat → Int32} (h : LkOk x M s L txt) (h1 : ∀ a, 6 ≤ a → a < 15 → x'.1 a = x.1 a) (hk : ∀ k, k < 2 → x'.2.1 k = x.2.1 k ∧ x'.2.2.1 k = x.2.2.1 k) (hE : bE (im x') = bE (im x)) (hed : bed (im x') = bed (im x)) (hnw : bnw (im x') = bnw (im x)) (hM : ∀ a, a = 4 ∨ a = 5 ∨ a = 6 ∨ a = 9 → M' a = M a) : LkOk x' M' s L txt := by
  obtain ⟨⟨⟨r1, r2, r3⟩, r4, r5, r6, r7⟩, k2, k0, k1⟩ := h
  refine ⟨⟨⟨r1, by rw [h1 6 (by omega) (by omega)]; exact r2, by rw [hM 6 (by omega)]; exact r3⟩, fun i hi => by rw [hM 4 (by omega), h1 12 (by omega) (by omega)]; exact r4 i hi, fun i hi => by rw [hM 5 (by omega), h1 13 (by omega) (by omega)]; exact r5 i hi, ?_, fun e he => ?_⟩, fun i hi => by rw [h1 12 (by omega) (by omega)]; exact k2 i hi, fun q => ?_, fun q => ?_⟩
  · unfold NwR
    rw [hE, hed, hnw, h1 10 (by omega) (by omega), h1 11 (by omega) (by omega)]
    exact r6
  · rw [hM 9 (by omega), h1 7 (by omega) (by omega), r7 e he]
    unfold lnd nmn
    rw [hE, hed, hnw]
  · rw [h1 13 (by omega) (by omega)]; exact okC_t hE hed (fun _ _ => rfl) (k0 q)
  · obtain ⟨nf, nm, t1, t2, t3, t4, ⟨t5a, t5b, t5c⟩, ⟨t6a, t6b, t6c⟩, t7⟩ := k1 q
    rw [h1 13 (by omega) (by omega)]
    refine ⟨nf, nm, t1, by rw [h1 9 (by omega) (by omega)]; exact t2, by rw [h1 8 (by omega) (by omega)]; exact t3, ?_, ⟨?_, ?_, t5c⟩, ⟨?_, fun i hi => ?_, t6c⟩, ?_⟩
    · rcases t4 with t4 | ⟨p, t4, t4'⟩
      · exact Or.inl t4
      · exact Or.inr ⟨p, t4, by unfold Cc; rw [hE, hed]; exact t4'⟩
    · rw [(hk 0 (by omega)).1]; exact t5a
    · rw [(hk 0 (by omega)).2]; exact t5b
    · rw [(hk 1 (by omega)).1]; exact t6a
    · obtain ⟨w1, w2, len, w3, w4, w5, w6, w7⟩ := t6b i hi
      rw [(hk 1 (by omega)).2]
      exact ⟨w1, w2, len, w3, w4, w5, w6, okC_t hE hed (fun _ _ => rfl) w7⟩
    · rcases t7 with t7 | t7
      · exact Or.inl t7
      · exact Or.inr (okC_t hE hed (fun _ _ => rfl) t7)
theorem Lk_Mn {x x' : X} {M M' : MR} (hM : Mn x M) (h1 : FX3 x x') (h2 : FM3 M M') : Mn x' M' ∧ x'.2.2.2 = x.2.2.2 ∧ M' 1 = M 1 ∧ ∀ i, 20870 ≤ i → M' 0 i = M 0 i := by
  obtain ⟨hW, hR, ⟨t, ht, t1, t2, t3⟩, ⟨g0, g1, g2, g3⟩, hF⟩ := hM
  have hi := FX3_im h1
  refine ⟨⟨by rw [hi]; exact hW, by rw [hi, h2 0 (by omega)]; exact hR, ⟨t, ht, ?_, ?_, fun i hi => ?_⟩, ⟨?_, ?_, ?_, ?_⟩, by rw [hi]; exact hF⟩, h1.2.2, h2 1 (by omega), fun i _ => by rw [h2 0 (by omega)]⟩
  · rw [h1.1 1 (by omega)]; exact t1
  · rw [h2 3 (by omega)]; exact t2
  · rw [h2 2 (by omega), h1.1 0 (by omega)]; exact t3 i hi
  · rw [h2 30 (by omega), h1.1 2 (by omega)]; exact g0
  · rw [h2 31 (by omega), h1.1 3 (by omega)]; exact g1
  · rw [h2 32 (by omega), h1.1 4 (by omega)]; exact g2
  · rw [h2 33 (by omega), h1.1 5 (by omega)]; exact g3
theorem Run_fin {c : Nat} {x : X} {M : MR} {FC : Option (Int32 × CS)} {FR : Option (Int32 × MR)} (h : RunO c x M FC FR) (hT : Tp x M) (hCm : Cm x M) (hF : ∀ r, r < bC (im x) → r ≠ c → bce (im x) r 125 = nI 0) : ∃ r S' x' M', FC = some (nI r, S') ∧ FR = some (nI r, M') ∧ CR S' x' ∧ Mn x' M' ∧ x'.2.2.2 = x.2.2.2 ∧ M' 1 = M 1 ∧ (∀ i, 20870 ≤ i → M' 0 i = M 0 i) ∧ bC (im x') = bC (im x) ∧ bE (im x') ≤ bE (im x) + 1 ∧ ∀ a, 28 ≤ a → M' a = M a := by
  obtain ⟨r, S', x', M', e1, e2, e3, e4, e5, e6, ef, e7, e8, e9, e10, e11, e12⟩ := h
  obtain ⟨t, ht, t1, t2, t3⟩ := hT
  obtain ⟨g0, g1, g2, g3⟩ := hCm
  refine ⟨r, S', x', M', e2, e3, e4, ⟨e5, e6, ⟨t, ht, ?_, ?_, fun i hi => ?_⟩, ⟨?_, ?_, ?_, ?_⟩, fun q hq => ?_⟩, e10, e12 1 (by omega) (by omega), e11, e8, e9, fun a ha => e12 a (by omega) (by omega)⟩
  · rw [e7 1 (by omega)]; exact t1
  · rw [e12 3 (by omega) (by omega)]; exact t2
  · rw [e12 2 (by omega) (by omega), e7 0 (by omega)]; exact t3 i hi
  · rw [e12 30 (by omega) (by omega), e7 2 (by omega)]; exact g0
  · rw [e12 31 (by omega) (by omega), e7 3 (by omega)]; exact g1
  · rw [e12 32 (by omega) (by omega), e7 4 (by omega)]; exact g2
  · rw [e12 33 (by omega) (by omega), e7 5 (by omega)]; exact g3
  · rw [ef q]
    by_cases hqc : q = c
    · rw [if_pos hqc]
    · rw [if_neg hqc]; exact hF q (by rw [← e8]; exact hq) hqc
end LAY
