def CdOut (x : X) (M : MR) (L en p h : Nat) (b : Bool) (FC : Option (Int32 × CS)) (FR : Option (Int32 × MR)) : Prop :=
  ∃ r S' x' M', FC = some (r, S') ∧ FR = some (0, M') ∧ CR S' x' ∧ FX x x' ∧ FM M M' ∧ (∀ q, q ≤ p ∨ en ≤ q → x'.1 13 q = x.1 13 q) ∧ M' 7 0 = r ∧ ((r = -1 ∧ Rd x' M' L ∧ ∃ m, okc (Vv (im x)) (Cc (im x)) (x'.1 13) b en m p h) ∨ ∃ f, f ≤ 60 ∧ r = nI f)
theorem FM_7 (M : MR) (v : Int32) : FM M (mS M 7 0 v) := fun a _ a2 _ => mS_o a2
theorem Cd_fault {S : CS} {x : X} {M : MR} {L en p h : Nat} {b : Bool} {FC : Option (Int32 × CS)} {FR : Option (Int32 × MR)} (hC : CR S x) {f : Nat} (hf : f ≤ 60) (e1 : FC = some (nI f, S)) (e2 : FR = some (0, mS M 7 0 (nI f))) : CdOut x M L en p h b FC FR :=
  ⟨nI f, S, x, _, e1, e2, hC, FX_refl x, FM_7 M _, fun _ _ => rfl, mS_eq, Or.inr ⟨f, hf, rfl⟩⟩
theorem bdx_13 {x : X} {p j q : Nat} : (bdx x p j).1 13 q = if q = p then bnw (im x) j else x.1 13 q := by
  show mS (mS x.1 13 p (bnw (im x) j)) 7 0 (x.1 7 0 ||| (nI 1 <<< (nI j &&& 31))) 13 q = _
  rw [mS_ne (show (13 : Nat) ≠ 7 by decide)]
  by_cases h : q = p
  · subst h; rw [mS_eq, if_pos rfl]
  · rw [mS_ne2 h, if_neg h]
theorem sz_b (a : Nat) : 1 ≤ sz a ∧ sz a ≤ 2 ∧ (a ≤ 7 → sz a = 2) ∧ (8 ≤ a → sz a = 1) := by
  unfold sz
  split <;> omega
theorem j_code (n : Nat) {L en : Nat} {b : Bool} (hen : en ≤ L) (d : Nat) : ∀ (p h i k k' : Nat) (S : CS) (x : X) (M : MR), p + d = en → h ≤ p → i ≤ p → d < k → d + 1 < k' → CR S x → WF (im x) → RelI (im x) (M 0) → Rd x M L → M 7 0 = -1 → (∀ q, p ≤ q → q < L → x.1 13 q = x.1 12 q) → CdOut x M L en p h b (f1_codeFault_l9 n k (nI en) (imI b) (nI p) (nI h) (nI i) S) (fR_code_l6 n k' (nI en) (imI b) (nI p) (nI h) M) := by
  induction d using Nat.strongRecOn with
  | ind d ih =>
    intro p h i k k' S x M hd hh hi hk hk' hC hW hR hr h7 hb
    obtain ⟨⟨l1, l2, l3⟩, t4, t5, hN, t9⟩ := id hr
    have hB := hW.1
    by_cases hd0 : d = 0
    · obtain ⟨k, rfl⟩ : ∃ q, k = q + 1 := ⟨k - 1, by omega⟩
      obtain ⟨k', rfl⟩ : ∃ q, k' = q + 1 := ⟨k' - 1, by omega⟩
      obtain rfl : p = en := by omega
      have e1 := x_code_end n (S := S) (en := p) (i := i) (k := k) (b := b) (show h ≤ 60 by omega)
      have e2 := r_code_end n (M := M) (en := p) (k := k') (b := b) (h := h) (by omega) h7 (by omega)
      by_cases h1 : h = 1
      · rw [if_pos h1] at e1 e2
        exact ⟨-1, S, x, M, e1, e2, hC, FX_refl x, FM_refl M, fun _ _ => rfl, h7, Or.inl ⟨rfl, hr, 0, rfl, h1⟩⟩
      · rw [if_neg h1] at e1 e2
        exact Cd_fault hC (by omega) e1 e2
    · have hpe : p < en := by omega
      have hpL : p < L := by omega
      obtain ⟨k, rfl⟩ : ∃ q, k = q + 1 := ⟨k - 1, by omega⟩
      obtain ⟨k', rfl⟩ : ∃ q, k' = q + 2 := ⟨k' - 2, by omega⟩
      have flt : f1_codeFault_l9 n (k + 1) (nI en) (imI b) (nI p) (nI h) (nI i) S = some (nI p, S) → fR_isActRight n (nI p) (nI en) (nI h) (imI b) M = some (nI 0, M) → CdOut x M L en p h b (f1_codeFault_l9 n (k + 1) (nI en) (imI b) (nI p) (nI h) (nI i) S) (fR_code_l6 n (k' + 2) (nI en) (imI b) (nI p) (nI h) M) :=
        fun e1 e2 => Cd_fault hC (by omega) e1 (r_code_f n hpe (by omega) h7 e2)
      rcases i_cases (x.1 12 p) with hv | ⟨a, ha0, hv⟩
      · refine flt ?_ ?_
        · rw [f1_codeFault_l9, if_neg (nI_ge (show i < 60 by omega) (by omega)), if_neg (nI_ge hpe (by omega)), x_textAt n hC l2 l1 hpL, bnd_s, if_pos hv]
        · unfold fR_isActRight
          rw [rd_at (by omega) (by decide), t4 p hpL, if_pos hv, zt_0]
      · by_cases ha : a ≤ 18
        · have rp := r_act_pre n (M := M) (b := b) ha (show p + 1 < 61 by omega) (show en ≤ 60 by omega) (show h ≤ 60 by omega) hpe (by rw [t4 p hpL, hv])
          have xp := x_act_pre n (b := b) (k := k) hC l2 l1 ha hen (show h ≤ 60 by omega) hpe (show i < 60 by omega) hv
          have hs := sz_b a
          by_cases hok : okP a h p en b
          · have rp := rp.1 hok
            have xp := xp.1 hok
            have hen2 : p + sz a ≤ en := by
              by_cases h7 : a ≤ 7
              · have := hok.2.1 h7; have := hs.2.2.1 h7; omega
              · have := hs.2.2.2 (by omega); omega
            have hkk : a ≤ 7 → M 4 (p + 1) = x.1 12 (p + 1) := fun h7 => t4 (p + 1) (by have := hok.2.1 h7; omega)
            have rb := r_b85 n hR hW (a := a) (p := p) (k := if a ≤ 7 then M 4 (p + 1) else nI 0) ha (by by_cases h7 : a ≤ 7; have := hok.2.1 h7; omega; omega)
            have harg : (argR (im x) a (if a ≤ 7 then M 4 (p + 1) else nI 0) ↔ argR (im x) a (x.1 12 (p + 1))) := by
              by_cases h7 : a ≤ 7
              · rw [if_pos h7, hkk h7]
              · exact ⟨fun _ => ⟨fun q => by omega, fun q => by omega, fun q => by omega, fun q => by omega⟩, fun _ => ⟨fun q => by omega, fun q => by omega, fun q => by omega, fun q => by omega⟩⟩
            by_cases hag : argR (im x) a (x.1 12 (p + 1))
            · obtain ⟨M1, rb1, rb2⟩ := rb.1 (harg.mpr hag)
              -- the step to the state behind the act
              obtain ⟨x1, hx1, hFX, hFM, hRd1, h13⟩ : ∃ x1, (((1 ≤ a ∧ a ≤ 4) ∧ ∃ j, j < 16 ∧ x.1 12 (p + 1) = nI j ∧ x1 = bdx x (p + 1) j) ∨ (¬ (1 ≤ a ∧ a ≤ 4) ∧ x1 = x)) ∧ FX x x1 ∧ (FM M M1 ∧ M1 7 = M 7) ∧ Rd x1 M1 L ∧ ((∀ q, q ≠ p + 1 → x1.1 13 q = x.1 13 q) ∧ (a ≤ 7 → okK (Vv (im x)) (Cc (im x)) a (x1.1 13 (p + 1)))) := by
                rcases rb2 with ⟨ha4, j, e, hj, he, hk1, hb1, hb2, rfl⟩ | ⟨ha4, rfl⟩
                · have h7' : a ≤ 7 := by omega
                  rw [if_pos h7', hkk h7'] at hk1
                  have hq := hok.2.1 h7'
                  refine ⟨bdx x (p + 1) j, Or.inl ⟨ha4, j, hj, hk1, rfl⟩, FX_bd _ _ _, ⟨FM_bd _ _ _, ?_⟩, Rd_bind hW hr (by omega) hj he hb1, fun q hq => by rw [bdx_13, if_neg hq], fun _ => ?_⟩
                  · unfold bdM
                    rw [mS_o (by omega), mS_o (by omega)]
                  · rw [bdx_13, if_pos rfl, hb1]
                    refine ⟨fun q => ⟨e, rfl, he, ?_⟩, fun q => ⟨e, rfl, he, ?_⟩, fun q => by omega, fun q => by omega⟩
                    · rw [hb2, if_pos q]
                    · rw [hb2, if_neg (by omega)]
                · refine ⟨x, Or.inr ⟨ha4, rfl⟩, FX_refl x, ⟨FM_refl _, rfl⟩, hr, fun _ _ => rfl, fun h7' => ?_⟩
                  have hq := hok.2.1 h7'
                  rw [hb (p + 1) (by omega) (by omega)]
                  exact ⟨fun q => by omega, fun q => by omega, hag.2.2.1, hag.2.2.2⟩
              have hi1 : im x1 = im x := FX_im hFX
              have hM4 : M1 4 p = nI a := by rw [hFM.1 4 (by omega) (by omega) (by omega), t4 p hpL, hv]
              have hRec := r_code_t n (k := k' + 1) (b := b) ha hpe (show en ≤ 60 by omega) (show h ≤ 60 by omega) hok.1 h7 hM4 (rp.trans rb1)
              have hM0 : M1 0 = M 0 := hFM.1 0 (by omega) (by omega) (by omega)
              have hM7 : M1 7 0 = -1 := by rw [hFM.2]; exact h7
              have IH : ∀ S1, CR S1 x1 → CdOut x1 M1 L en (p + sz a) (h + 1 - tks a) b (f1_codeFault_l9 n k (nI en) (imI b) (nI (p + sz a)) (nI (h + 1 - tks a)) (nI (i + 1)) S1) (fR_code_l6 n (k' + 1) (nI en) (imI b) (nI (p + sz a)) (nI (h + 1 - tks a)) M1) := by
                intro S1 hS1
                refine ih (d - sz a) (by omega) (p + sz a) (h + 1 - tks a) (i + 1) k (k' + 1) S1 x1 M1 (by omega) (by omega) (by omega) (by omega) (by omega) hS1 (by rw [hi1]; exact hW) (by rw [hi1, hM0]; exact hR) hRd1 hM7 (fun q q1 q2 => ?_)
                rw [show x1.1 13 q = x.1 13 q from by
                  rcases hx1 with ⟨w1, _⟩ | ⟨_, w2⟩
                  · have := hs.2.2.1 (by omega)
                    exact h13.1 q (by omega)
                  · rw [w2], hFX.1 12 (by omega) (by omega)]
                exact hb q (by omega) q2
              obtain ⟨S1, hS1, eC⟩ : ∃ S1, CR S1 x1 ∧ f1_codeFault_l9 n (k + 1) (nI en) (imI b) (nI p) (nI h) (nI i) S = f1_codeFault_l9 n k (nI en) (imI b) (nI (p + sz a)) (nI (h + 1 - tks a)) (nI (i + 1)) S1 := by
                obtain ⟨S1, hS1, e1⟩ := x_b122 n (k := k) (en := en) (i := i) (b := b) ha hok.1 (show h ≤ 60 by omega) hC hN l2 l1 (fun h7' => by have := hok.2.1 h7'; omega) x1 hx1
                refine ⟨S1, hS1, ?_⟩
                rw [xp]
                by_cases h7' : a ≤ 7
                · rw [if_neg (by omega), (x_int n hC hN hW h7').1 hag, bnd_s, if_neg n1_0, e1]
                · rw [if_pos (by omega), e1]
              obtain ⟨r, S', x', M', q1, q2, q3, q4, q5, q6, q7, q8⟩ := IH S1 hS1
              refine ⟨r, S', x', M', eC.trans q1, hRec.trans q2, q3, FX_trans hFX q4, FM_trans hFM.1 q5, fun q hq => ?_, q7, ?_⟩
              · rw [q6 q (by omega)]
                by_cases hqp : q = p + 1
                · rcases hx1 with ⟨w1, _⟩ | ⟨_, w2⟩
                  · have := hok.2.1 (by omega)
                    omega
                  · rw [w2]
                · exact h13.1 q hqp
              · rcases q8 with ⟨g1, g2, m, g3⟩ | g
                · rw [hi1] at g3
                  refine Or.inl ⟨g1, g2, m + 1, Or.inr ⟨hpe, a, ha, ?_, hok.1, hen2, hok.2.2, ?_, g3⟩⟩
                  · rw [q6 p (by omega), h13.1 p (by omega), hb p (Nat.le_refl _) hpL, hv]
                  · by_cases h7' : a ≤ 7
                    · have := hs.2.2.1 h7'
                      rw [q6 (p + 1) (by omega)]
                      exact h13.2 h7'
                    · exact okK_any (by omega)
                · exact Or.inr g
            · refine flt ?_ (rp.trans (rb.2 (fun w => hag (harg.mp w))))
              rw [xp]
              by_cases h7' : a ≤ 7
              · rw [if_neg (by omega), (x_int n hC hN hW h7').2 hag, bnd_s, if_pos n0_0]
              · exact absurd ⟨fun q => by omega, fun q => by omega, fun q => by omega, fun q => by omega⟩ hag
          · exact flt (xp.2 hok) (rp.2 hok)
        · refine flt ?_ ?_
          · rw [f1_codeFault_l9, if_neg (nI_ge (show i < 60 by omega) (by omega)), if_neg (nI_ge hpe (by omega)), x_textAt n hC l2 l1 hpL, bnd_s, hv, if_neg (nI_pos ha0), if_pos (show (19 : Int32) ≤ nI a by rw [show (19 : Int32) = nI 19 by decide]; exact nI_le (by omega) ha0)]
          · unfold fR_isActRight
            rw [rd_at (by omega) (by decide), t4 p hpL, hv, if_neg (nI_pos ha0), if_pos (nI_lt (by omega) ha0), zt_0]
