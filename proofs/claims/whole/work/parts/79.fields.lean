-- ===== a table of the reader takes a pair =====
def tpx (x : X) (T k : Nat) (a b : Int32) : X := st (st (ad x T) T k 0 a) T k 1 b
theorem tpx_r {x : X} {T k : Nat} {a b : Int32} : (tpx x T k a b).2.1 T = x.2.1 T + 1 := by
  show uf x.2.1 T (x.2.1 T + 1) T = _
  rw [uf_eq]
theorem tpx_rn {x : X} {T k j : Nat} {a b : Int32} (h : j ≠ T) : (tpx x T k a b).2.1 j = x.2.1 j := by
  show uf x.2.1 T (x.2.1 T + 1) j = _
  rw [uf_ne h]
theorem tpx_cn {x : X} {T k j : Nat} {a b : Int32} (h : j ≠ T) : (tpx x T k a b).2.2.1 j = x.2.2.1 j := by
  unfold tpx st ad
  dsimp only
  rw [uf_ne h, uf_ne h, uf_ne h]
theorem tpx_c {x : X} {T i c : Nat} {a b : Int32} : (tpx x T (x.2.1 T) a b).2.2.1 T i c = if i = x.2.1 T then (if c = 0 then a else if c = 1 then b else 0) else x.2.2.1 T i c := by
  unfold tpx st ad
  dsimp only
  rw [uf_eq, uf_eq, uf_eq]
  unfold st2
  dsimp only
  by_cases hi : i = x.2.1 T
  · by_cases h0 : c = 0
    · simp [hi, h0]
    · by_cases h1 : c = 1
      · simp [hi, h1]
      · simp [hi, h0, h1]
  · simp [hi]
theorem FX2_tpx (x : X) (T k : Nat) (a b : Int32) (hT : T < 2) : FX2 x (tpx x T k a b) := ⟨fun _ _ _ _ _ _ => rfl, fun j hj => ⟨tpx_rn (by omega), tpx_cn (by omega)⟩, rfl⟩
def FldI (x : X) (tx : Nat → Int32) (k : Nat) : Prop := x.2.1 0 = k ∧ (∀ i, i < k → x.2.2.1 0 i 0 = tx (2 + 2 * i) ∧ x.2.2.1 0 i 1 = tx (3 + 2 * i) ∧ ∃ f, f < 10 ∧ tx (2 + 2 * i) = nI f) ∧ ∀ i j, i < j → j < k → tx (2 + 2 * i) ≠ tx (2 + 2 * j)
theorem FldI_step {x : X} {k q : Nat} {tx : Nat → Int32} (h : FldI x tx k) (hf : ∃ f, f < 10 ∧ tx (2 + 2 * k) = nI f) (hn : ¬ hld x 0 (tx (2 + 2 * k)) = true) {v : Int32} : FldI (pv (tpx x 0 k (tx (2 + 2 * k)) (tx (3 + 2 * k))) 14 q v) tx (k + 1) := by
  obtain ⟨rfl, h2, h3⟩ := h
  refine ⟨tpx_r, fun i hi => ?_, fun i j hij hj => ?_⟩
  · show (tpx x 0 (x.2.1 0) _ _).2.2.1 0 i 0 = _ ∧ (tpx x 0 (x.2.1 0) _ _).2.2.1 0 i 1 = _ ∧ _
    rw [tpx_c, tpx_c]
    by_cases hik : i = x.2.1 0
    · subst hik
      rw [if_pos rfl, if_pos rfl, if_pos rfl, if_neg (by omega), if_pos rfl]
      exact ⟨rfl, rfl, hf⟩
    · rw [if_neg hik, if_neg hik]
      exact h2 i (by omega)
  · by_cases hjk : j = x.2.1 0
    · subst hjk
      intro w
      refine hn (hld_iff.mpr ⟨i, hij, ?_⟩)
      rw [(h2 i hij).1, w]
    · exact h3 i j hij (by omega)
def FlOut (x : X) (M : MR) (L many : Nat) (FC : Option (Int32 × CS)) (FR : Option (Int32 × MR)) : Prop :=
  ∃ r S' x' M', FC = some (r, S') ∧ FR = some (0, M') ∧ CR S' x' ∧ FX2 x x' ∧ FM2 M M' ∧ M' 7 0 = r ∧ ((r = -1 ∧ Rd x' M' L ∧ x'.1 13 = x.1 13 ∧ x'.1 14 0 = nI (2 + 2 * many) ∧ M' 8 0 = nI (2 + 2 * many) ∧ 2 + 2 * many ≤ L ∧ FldI x' (x.1 12) many ∧ x'.2.1 1 = x.2.1 1 ∧ x'.1 8 = x.1 8) ∨ ∃ f, f ≤ 60 ∧ r = nI f)
theorem Fl_fault {S : CS} {x : X} {M M' : MR} {L many : Nat} {FC : Option (Int32 × CS)} {FR : Option (Int32 × MR)} (hC : CR S x) {f : Nat} (hf : f ≤ 60) (e1 : FC = some (nI f, S)) (e2 : FR = some (0, M')) (hM : FM2 M M') (h7 : M' 7 0 = nI f) : FlOut x M L many FC FR :=
  ⟨nI f, S, x, M', e1, e2, hC, FX2_refl x, hM, h7, Or.inr ⟨f, hf, rfl⟩⟩
theorem j_fields (n : Nat) (hn : 2000 ≤ n) {L many : Nat} (hm : many ≤ 4) : ∀ d k fu fu' (S : CS) (x : X) (M : MR) (seen : Int32), k + d = many → d < fu → d + 1 < fu' → CR S x → WF (im x) → Rd x M L → M 7 0 = -1 → x.1 14 0 = nI (2 + 2 * k) → M 8 0 = nI (2 + 2 * k) → 2 + 2 * k ≤ L → FldI x (x.1 12) k → (∀ f, f < 10 → (ub seen f = true ↔ hld x 0 (nI f) = true)) → FlOut x M L many (f1_readFields_l39 n fu (nI many) (nI k) S) (fR_names_l6 n fu' (nI many) (nI 9) (nI 0) seen (nI k) M)
  | 0, k, fu, fu', S, x, M, seen, hk, hf, hf', hC, hW, hr, h7, x14, m8, hL, hI, hs => by
    obtain ⟨fu, rfl⟩ : ∃ q, fu = q + 1 := ⟨fu - 1, by omega⟩
    obtain ⟨fu', rfl⟩ : ∃ q, fu' = q + 1 := ⟨fu' - 1, by omega⟩
    obtain rfl : k = many := by omega
    rw [f1_readFields_l39, fR_names_l6, if_pos (Int32.le_refl _), if_pos (Int32.le_refl _)]
    exact ⟨-1, S, x, M, rfl, rfl, hC, FX2_refl x, FM2_refl M, h7, Or.inl ⟨rfl, hr, rfl, x14, m8, hL, hI, rfl, rfl⟩⟩
  | d + 1, k, fu, fu', S, x, M, seen, hk, hf, hf', hC, hW, hr, h7, x14, m8, hL, hI, hs => by
    obtain ⟨fu, rfl⟩ : ∃ q, fu = q + 1 := ⟨fu - 1, by omega⟩
    obtain ⟨fu', rfl⟩ : ∃ q, fu' = q + 2 := ⟨fu' - 2, by omega⟩
    obtain ⟨⟨l1, l2, l3⟩, t4, t5, hN, t9⟩ := id hr
    rw [f1_readFields_l39, fR_names_l6, if_neg (nI_ge (show k < many by omega) (by omega)), if_neg (nI_ge (show k < many by omega) (by omega))]
    rw [xcg hC (by decide), x14]
    rw [show ∀ K : Int32 → Option (Int32 × MR), gf M 7 K = K (-1) from fun K => by unfold gf; rw [h7], if_neg (show ¬ (0 : Int32) ≤ -1 by decide), show ∀ K : Int32 → Option (Int32 × MR), gf M 8 K = K (nI (2 + 2 * k)) from fun K => by unfold gf; rw [m8]]
    by_cases hq : 2 + 2 * k < L
    · rw [r_take n hr m8 hq, bnd_s]
      have g7 : ∀ K : Int32 → Option (Int32 × MR), gf (mS M 8 0 (nI (2 + 2 * k + 1))) 7 K = K (-1) := fun K => by unfold gf; rw [mS_ne (by omega), h7]
      have g8 : ∀ K : Int32 → Option (Int32 × MR), gf (mS M 8 0 (nI (2 + 2 * k + 1))) 8 K = K (nI (2 + 2 * k + 1)) := fun K => by unfold gf; rw [mS_eq]
      rw [g7, if_neg (show ¬ (0 : Int32) ≤ -1 by decide)]
      have h71 : mS M 8 0 (nI (2 + 2 * k + 1)) 7 0 = -1 := by rw [mS_ne (by omega), h7]
      have flt : ∀ v, fR_names_b60 n (fR_names_l6 n (fu' + 1)) (nI many) (nI 9) (nI 0) seen (nI k) (nI (2 + 2 * k)) v (mS M 8 0 (nI (2 + 2 * k + 1))) = some (0, mS (mS M 8 0 (nI (2 + 2 * k + 1))) 7 0 (nI (2 + 2 * k))) := fun v => by
        unfold fR_names_b60
        rw [r_wrong n h71, bnd_s, r_nm_66 n mS_eq (by omega)]
      have fm : FM2 M (mS (mS M 8 0 (nI (2 + 2 * k + 1))) 7 0 (nI (2 + 2 * k))) := FM2_trans (FM2_8 _ _) (FM2_7 _ _)
      by_cases hv : ∃ f, f < 10 ∧ x.1 12 (2 + 2 * k) = nI f
      · obtain ⟨f, hf10, hv⟩ := id hv
        rw [(x_there n hC l2 l1 hq (b := 9) (by omega)).1 ⟨f, by omega, hv⟩, bnd_s, if_neg n1_0, xcg hC (by decide), x14, x_textAt n hC l2 l1 hq, bnd_s, x_holds n hn (by decide) hC, hv, if_neg (nI_pos (by omega)), if_neg (nI_nlt (by omega) (by omega))]
        by_cases hh : hld x 0 (nI f) = true
        · rw [if_pos hh, if_neg n1_0, xcg hC (by decide), x14, if_pos (by rw [ub_s (by omega)]; exact (hs f hf10).mpr hh)]
          exact Fl_fault hC (by omega) rfl (flt _) fm mS_eq
        · rw [if_neg hh, if_pos n0_0, if_neg (by rw [ub_s (by omega)]; exact fun w => hh ((hs f hf10).mp w)), xcg hC (by decide), x14, xcg hC (by decide), l2, nI_add]
          unfold fR_names_b66
          rw [g7, if_neg (show ¬ (0 : Int32) ≤ -1 by decide)]
          unfold fR_names_b83
          rw [g8, g7, if_neg (show ¬ (0 : Int32) ≤ -1 by decide)]
          have hr1 : Rd x (mS M 8 0 (nI (2 + 2 * k + 1))) L := Rd_c hr (FX2_refl x) (FM2_8 _ _) rfl rfl (mS_o (by omega)) (mS_o (by omega))
          by_cases hq1 : 2 + 2 * k + 1 < L
          · rw [if_pos (nI_lt hq1 (by omega)), xcg hC (by decide), x14, x_textAt n hC l2 l1 hq, bnd_s, xcg hC (by decide), x14, nI_add, x_textAt n hC l2 l1 hq1, bnd_s, r_take n hr1 mS_eq hq1, bnd_s]
            unfold fR_names_b107 fR_names_b175
            rw [if_pos n0_0, nI_add]
            obtain ⟨i1, i2, i3⟩ := id hI
            have hR4 : x.2.1 0 < 4 := by omega
            obtain ⟨S1, e1, c1⟩ : ∃ S1, (bT 0 S (f2_addPair n (x.1 12 (2 + 2 * k)) (x.1 12 (2 + 2 * k + 1)) (tOf 0 S)) fun _ S13 => cg S13 14 fun v14 => cp S13 14 (v14 + nI 2) fun S15 => f1_readFields_l39 n fu (nI many) (nI (k + 1)) S15) = f1_readFields_l39 n fu (nI many) (nI (k + 1)) S1 ∧ CR S1 (pv (tpx x 0 k (x.1 12 (2 + 2 * k)) (x.1 12 (3 + 2 * k))) 14 0 (nI (2 + 2 * (k + 1)))) := by
              have := Rc_addPair n (k := 0) (a := x.1 12 (2 + 2 * k)) (b := x.1 12 (2 + 2 * k + 1)) (K := fun _ S13 => some ((0 : Int32), S13)) (by decide) hC hR4 (by omega) (r := 0) (Q := fun S' => CR S' (tpx x 0 k (x.1 12 (2 + 2 * k)) (x.1 12 (3 + 2 * k)))) (fun S' h' => Ru_some (by rw [i1, show 2 + 2 * k + 1 = 3 + 2 * k by omega] at h'; exact h'))
              obtain ⟨S1, q1, q2⟩ := this
              obtain ⟨a, ha, hb⟩ := bT_some q1
              have hb' : tIn 0 S a.2 = S1 := by cases hb; rfl
              refine ⟨(mS S1.1 14 0 (nI (2 + 2 * (k + 1))), S1.2), ?_, CR_pv (by decide) q2⟩
              rw [ha]
              show (cg (tIn 0 S a.2) 14 fun v14 => cp (tIn 0 S a.2) 14 (v14 + nI 2) fun S15 => f1_readFields_l39 n fu (nI many) (nI (k + 1)) S15) = _
              rw [hb', xcg q2 (by decide), show (tpx x 0 k (x.1 12 (2 + 2 * k)) (x.1 12 (3 + 2 * k))).1 14 0 = nI (2 + 2 * k) from x14, nI_add]
              rfl
            rw [e1]
            have hx1 : FX2 x (pv (tpx x 0 k (x.1 12 (2 + 2 * k)) (x.1 12 (3 + 2 * k))) 14 0 (nI (2 + 2 * (k + 1)))) := FX2_trans (FX2_tpx x 0 k _ _ (by decide)) (FX2_14 _ 14 (Or.inl rfl) _)
            have hm1 : FM2 M (mS (mS M 8 0 (nI (2 + 2 * k + 1))) 8 0 (nI (2 + 2 * k + 1 + 1))) := FM2_trans (FM2_8 _ _) (FM2_8 _ _)
            have hI1 := FldI_step (q := 0) (v := nI (2 + 2 * (k + 1))) hI ⟨f, hf10, hv⟩ (by rw [hv]; exact hh)
            obtain ⟨r, S', x', M', q1, q2, q3, q4, q5, q6, q7⟩ := j_fields n hn hm d (k + 1) fu (fu' + 1) S1 _ (mS (mS M 8 0 (nI (2 + 2 * k + 1))) 8 0 (nI (2 + 2 * k + 1 + 1))) (seen ||| (nI 1 <<< (nI f &&& 31))) (by omega) (by omega) (by omega) c1 (by rw [FX2_im hx1]; exact hW) (Rd_c hr hx1 hm1 rfl rfl (by rw [mS_o (by omega), mS_o (by omega)]) (by rw [mS_o (by omega), mS_o (by omega)])) (by rw [mS_ne (by omega), mS_ne (by omega), h7]) pv_e (by rw [mS_eq]; congr 1) (by omega) hI1 (fun g hg => by
              rw [ub_or (by omega) (by omega)]
              rw [Bool.or_eq_true, hs g hg, hld_iff, hld_iff, decide_eq_true_iff]
              have r1 : (pv (tpx x 0 k (x.1 12 (2 + 2 * k)) (x.1 12 (3 + 2 * k))) 14 0 (nI (2 + 2 * (k + 1)))).2.1 0 = k + 1 := hI1.1
              rw [r1, i1]
              constructor
              · rintro (⟨i, hi, w⟩ | w)
                · refine ⟨i, by omega, ?_⟩
                  rw [(hI1.2.1 i (by omega)).1, ← (i2 i hi).1, w]
                · refine ⟨k, by omega, ?_⟩
                  rw [(hI1.2.1 k (by omega)).1, w]; exact hv
              · rintro ⟨i, hi, w⟩
                rw [(hI1.2.1 i hi).1] at w
                by_cases hik : i = k
                · right
                  subst hik
                  have w' : x.1 12 (2 + 2 * i) = nI g := w
                  rw [hv, nI_eq (by omega) (by omega)] at w'
                  exact w'.symm
                · left
                  refine ⟨i, by omega, ?_⟩
                  rw [(i2 i (by omega)).1]; exact w)
            refine ⟨r, S', x', M', ?_, ?_, q3, FX2_trans hx1 q4, FM2_trans hm1 q5, q6, ?_⟩
            · exact q1
            · exact q2
            · rcases q7 with ⟨z1, z2, z3, z4, z5, z6, z7, z8, z9⟩ | q7
              · exact Or.inl ⟨z1, z2, z3, z4, z5, z6, z7, z8.trans (tpx_rn (by decide)), z9⟩
              · exact Or.inr q7
          · rw [if_neg (nI_nlt (by omega) (by omega)), xcg hC (by decide), l2, r_take_o n hr1 mS_eq h71 (by omega) (by omega), bnd_s]
            unfold fR_names_b107 fR_names_b175
            rw [if_pos n0_0]
            exact Fl_fault hC l1 rfl (r_nm_l n mS_eq (by omega)) (FM2_trans (FM2_8 _ _) (FM2_7 _ _)) mS_eq
      · rw [(x_there n hC l2 l1 hq (b := 9) (by omega)).2 hv, bnd_s, if_pos n0_0, xcg hC (by decide), x14]
        have e := rng_r (b := 9) (by omega) (x.1 12 (2 + 2 * k)) (fR_names_b60 n (fR_names_l6 n (fu' + 1)) (nI many) (nI 9) (nI 0) seen (nI k) (nI (2 + 2 * k)) (x.1 12 (2 + 2 * k)) (mS M 8 0 (nI (2 + 2 * k + 1)))) (fR_names_b60 n (fR_names_l6 n (fu' + 1)) (nI many) (nI 9) (nI 0) seen (nI k) (nI (2 + 2 * k)) (x.1 12 (2 + 2 * k)) (mS M 8 0 (nI (2 + 2 * k + 1))))
        refine Fl_fault hC (by omega) rfl ?_ fm mS_eq
        by_cases h0 : x.1 12 (2 + 2 * k) < 0
        · rw [if_pos h0, flt]
        · rw [if_neg h0, if_pos (by
            rcases i_cases (x.1 12 (2 + 2 * k)) with w | ⟨f, hf2, w⟩
            · exact absurd w h0
            · rw [w]; exact nI_lt (Nat.lt_of_not_le (fun q => hv ⟨f, by omega, w⟩)) hf2), flt]
    · rw [x_there_o n hC l2 l1 (show L ≤ 2 + 2 * k by omega) (by omega), bnd_s, if_pos n0_0, xcg hC (by decide), x14, r_take_o n hr m8 h7 (by omega) (by omega), bnd_s]
      have g7 : ∀ K : Int32 → Option (Int32 × MR), gf (mS M 7 0 (nI L)) 7 K = K (nI L) := fun K => by unfold gf; rw [mS_eq]
      rw [g7, if_pos (nI_pos' (by omega)), r_nm_66 n mS_eq (by omega)]
      exact Fl_fault hC (by omega) rfl rfl (FM2_7 _ _) (by rw [mS_eq]; congr 1; omega)
