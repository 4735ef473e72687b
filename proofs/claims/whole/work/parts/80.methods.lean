theorem mpl_c {tx tx' : Nat → Int32} {nf k : Nat} (h : ∀ i, i < mpl tx nf k - 1 → tx' i = tx i) : ∀ j, j ≤ k → mpl tx' nf j = mpl tx nf j
  | 0, _ => rfl
  | j + 1, hj => by
    have ih := mpl_c h j (by omega)
    have m1 := mpl_mono tx nf (show j ≤ k by omega)
    have m2 := mpl_ge tx nf j
    rw [mpl, mpl, ih, h (mpl tx nf j) (by omega)]
def MthI (B : Im) (x : X) (tx : Nat → Int32) (nf k : Nat) : Prop := x.2.1 1 = k ∧ (∀ i, i < k → x.2.2.1 1 i 0 = tx (mpl tx nf i - 1) ∧ (∃ m, m < 5 ∧ tx (mpl tx nf i - 1) = nI m) ∧ ∃ len, len ≤ 60 ∧ tx (mpl tx nf i) = nI len ∧ x.2.2.1 1 i 1 = nI (mpl tx nf i + 1) ∧ x.2.2.1 1 i 2 = nI (mpl tx nf i + 1 + len) ∧ okC B tx true (mpl tx nf i + 1 + len) (mpl tx nf i + 1) 0) ∧ ∀ i j, i < j → j < k → tx (mpl tx nf i - 1) ≠ tx (mpl tx nf j - 1)
theorem MthI_c {B : Im} {x x' : X} {tx tx' : Nat → Int32} {nf k : Nat} (h : MthI B x tx nf k) (ht : ∀ i, i < mpl tx nf k - 1 → tx' i = tx i) (h1 : x'.2.1 1 = x.2.1 1) (h2 : x'.2.2.1 1 = x.2.2.1 1) : MthI B x' tx' nf k := by
  have hm := mpl_c ht
  obtain ⟨a1, a2, a3⟩ := h
  refine ⟨by rw [h1]; exact a1, fun i hi => ?_, fun i j hij hj => ?_⟩
  · have m1 := mpl_mono tx nf (show i + 1 ≤ k by omega)
    have m0 := mpl_ge tx nf i
    obtain ⟨b1, b2, len, b3, b4, b5, b6, m, b7⟩ := a2 i hi
    have e1 : mpl tx nf (i + 1) = mpl tx nf i + 2 + len := by rw [mpl, b4, nI_clamp (by omega)]
    rw [hm i (by omega), ht (mpl tx nf i - 1) (by omega), h2]
    refine ⟨b1, b2, len, b3, by rw [ht _ (by omega)]; exact b4, b5, b6, m, okc_c (fun _ q => q) (fun _ q => q) m _ _ (fun q _ hq => ht q (by omega)) b7⟩
  · have m1 := mpl_mono tx nf (show i ≤ k by omega)
    have m2 := mpl_mono tx nf (show j ≤ k by omega)
    have m3 := mpl_ge tx nf i
    have m4 := mpl_ge tx nf j
    rw [hm i (by omega), hm j (by omega), ht _ (by omega), ht _ (by omega)]
    exact a3 i j hij hj
theorem MthI_step {B : Im} {x x4 : X} {tx : Nat → Int32} {nf k q f len a : Nat} (hI : MthI B x tx nf k) (hmp : mpl tx nf k = q + 1) (tq : tx q = nI f) (hf : f < 5) (tq1 : tx (q + 1) = nI len) (hl : len ≤ 60) (ok : okC B tx true (q + 1 + 1 + len) (q + 1 + 1) 0) (nh : ¬ hld x 1 (nI f) = true) (r1 : x4.2.1 1 = k + 1) (r2 : ∀ i c, x4.2.2.1 1 i c = if i = k then (if c = 2 then nI (q + 1 + 1 + len) else if c = 0 then nI f else if c = 1 then nI (q + 1 + 1) else 0) else x.2.2.1 1 i c) : MthI B x4 tx nf (k + 1) := by
  obtain ⟨a1, a2, a3⟩ := hI
  refine ⟨r1, fun i hi => ?_, fun i j hij hj => ?_⟩
  · rw [r2, r2, r2]
    by_cases hik : i = k
    · subst hik
      rw [hmp, if_pos rfl, if_pos rfl, if_pos rfl, if_neg (show ¬ (0 : Nat) = 2 by decide), if_pos rfl, if_neg (show ¬ (1 : Nat) = 2 by decide), if_neg (show ¬ (1 : Nat) = 0 by decide), if_pos rfl, if_pos rfl, show q + 1 - 1 = q by omega]
      exact ⟨tq.symm, ⟨f, hf, tq⟩, len, hl, tq1, rfl, rfl, ok⟩
    · rw [if_neg hik, if_neg hik, if_neg hik]
      exact a2 i (by omega)
  · by_cases hjk : j = k
    · subst hjk
      intro w
      refine nh (hld_iff.mpr ⟨i, by omega, ?_⟩)
      rw [(a2 i hij).1, w, hmp, show q + 1 - 1 = q by omega, tq]
    · exact a3 i j hij (by omega)
theorem seen_step {x x4 : X} {k f : Nat} {seen : Int32} {T : Nat} (hk : x.2.1 T = k) (r1 : x4.2.1 T = k + 1) (r2 : ∀ i, i < k → x4.2.2.1 T i 0 = x.2.2.1 T i 0) (r3 : x4.2.2.1 T k 0 = nI f) (hf : f < 16) {g : Nat} (hg : g < 16) (hs : ub seen g = true ↔ hld x T (nI g) = true) : ub (seen ||| (nI 1 <<< (nI f &&& 31))) g = true ↔ hld x4 T (nI g) = true := by
  rw [ub_or hf hg, Bool.or_eq_true, hs, hld_iff, hld_iff, decide_eq_true_iff, r1, hk]
  constructor
  · rintro (⟨i, hi, w⟩ | w)
    · exact ⟨i, by omega, by rw [r2 i hi]; exact w⟩
    · exact ⟨k, by omega, by rw [r3, w]⟩
  · rintro ⟨i, hi, w⟩
    by_cases hik : i = k
    · subst hik
      rw [r3, nI_eq (by omega) (by omega)] at w
      exact Or.inr w.symm
    · exact Or.inl ⟨i, by omega, by rw [← r2 i (by omega)]; exact w⟩
theorem FX2_st (x : X) (T k c : Nat) (v : Int32) (hT : T < 2) : FX2 x (st x T k c v) := ⟨fun _ _ _ _ _ _ => rfl, fun j hj => ⟨rfl, by show uf x.2.2.1 T _ j = _; rw [uf_ne (by omega)]⟩, rfl⟩
def MtOut (x : X) (M : MR) (L nf many q : Nat) (FC : Option (Int32 × CS)) (FR : Option (Int32 × MR)) : Prop :=
  ∃ r S' x' M', FC = some (r, S') ∧ FR = some (0, M') ∧ CR S' x' ∧ FX2 x x' ∧ FM2 M M' ∧ M' 7 0 = r ∧ ((r = -1 ∧ Rd x' M' L ∧ ∃ q', x'.1 14 0 = nI q' ∧ M' 8 0 = nI q' ∧ q' ≤ L ∧ mpl (x'.1 13) nf many = q' + 1 ∧ MthI (im x) x' (x'.1 13) nf many ∧ (∀ i, i < q → x'.1 13 i = x.1 13 i) ∧ (∀ i, q' ≤ i → i < L → x'.1 13 i = x.1 12 i) ∧ x'.2.1 0 = x.2.1 0 ∧ x'.2.2.1 0 = x.2.2.1 0 ∧ x'.1 8 = x.1 8) ∨ ∃ f, f ≤ 60 ∧ r = nI f)
theorem Mt_fault {S : CS} {x x' : X} {M M' : MR} {L nf many q : Nat} {FC : Option (Int32 × CS)} {FR : Option (Int32 × MR)} (hC : CR S x') (hx : FX2 x x') {f : Nat} (hf : f ≤ 60) (e1 : FC = some (nI f, S)) (e2 : FR = some (0, M')) (hM : FM2 M M') (h7 : M' 7 0 = nI f) : MtOut x M L nf many q FC FR :=
  ⟨nI f, S, x', M', e1, e2, hC, hx, hM, h7, Or.inr ⟨f, hf, rfl⟩⟩
theorem j_methods (n : Nat) (hn : 2000 ≤ n) {L nf many : Nat} (hm : many ≤ 3) : ∀ d k q fu fu' (S : CS) (x : X) (M : MR) (seen : Int32), k + d = many → d < fu → d + 1 < fu' → CR S x → WF (im x) → RelI (im x) (M 0) → Rd x M L → M 7 0 = -1 → x.1 14 0 = nI q → M 8 0 = nI q → q ≤ L → mpl (x.1 13) nf k = q + 1 → MthI (im x) x (x.1 13) nf k → (∀ i, q ≤ i → i < L → x.1 13 i = x.1 12 i) → (∀ f, f < 5 → (ub seen f = true ↔ hld x 1 (nI f) = true)) → MtOut x M L nf many q (f1_readMethods_l39 n fu (nI many) (nI k) S) (fR_names_l6 n fu' (nI many) (nI 4) (nI 1) seen (nI k) M)
  | 0, k, q, fu, fu', S, x, M, seen, hk, hf, hf', hC, hW, hR, hr, h7, x14, m8, hL, hmp, hI, hb, hs => by
    obtain ⟨fu, rfl⟩ : ∃ q, fu = q + 1 := ⟨fu - 1, by omega⟩
    obtain ⟨fu', rfl⟩ : ∃ q, fu' = q + 1 := ⟨fu' - 1, by omega⟩
    obtain rfl : k = many := by omega
    rw [f1_readMethods_l39, fR_names_l6, if_pos (Int32.le_refl _), if_pos (Int32.le_refl _)]
    exact ⟨-1, S, x, M, rfl, rfl, hC, FX2_refl x, FM2_refl M, h7, Or.inl ⟨rfl, hr, q, x14, m8, hL, hmp, hI, fun _ _ => rfl, hb, rfl, rfl, rfl⟩⟩
  | d + 1, k, q, fu, fu', S, x, M, seen, hk, hf, hf', hC, hW, hR, hr, h7, x14, m8, hL, hmp, hI, hb, hs => by
    obtain ⟨fu, rfl⟩ : ∃ q, fu = q + 1 := ⟨fu - 1, by omega⟩
    obtain ⟨fu', rfl⟩ : ∃ q, fu' = q + 2 := ⟨fu' - 2, by omega⟩
    obtain ⟨⟨l1, l2, l3⟩, t4, t5, hN, t9⟩ := id hr
    rw [f1_readMethods_l39, fR_names_l6, if_neg (nI_ge (show k < many by omega) (by omega)), if_neg (nI_ge (show k < many by omega) (by omega))]
    rw [xcg hC (by decide), x14]
    rw [show ∀ K : Int32 → Option (Int32 × MR), gf M 7 K = K (-1) from fun K => by unfold gf; rw [h7], if_neg (show ¬ (0 : Int32) ≤ -1 by decide), show ∀ K : Int32 → Option (Int32 × MR), gf M 8 K = K (nI q) from fun K => by unfold gf; rw [m8]]
    by_cases hq : q < L
    · rw [r_take n hr m8 hq, bnd_s]
      have g7 : ∀ K : Int32 → Option (Int32 × MR), gf (mS M 8 0 (nI (q + 1))) 7 K = K (-1) := fun K => by unfold gf; rw [mS_ne (by omega), h7]
      have g8 : ∀ K : Int32 → Option (Int32 × MR), gf (mS M 8 0 (nI (q + 1))) 8 K = K (nI (q + 1)) := fun K => by unfold gf; rw [mS_eq]
      rw [g7, if_neg (show ¬ (0 : Int32) ≤ -1 by decide)]
      have h71 : mS M 8 0 (nI (q + 1)) 7 0 = -1 := by rw [mS_ne (by omega), h7]
      have flt : ∀ v, fR_names_b60 n (fR_names_l6 n (fu' + 1)) (nI many) (nI 4) (nI 1) seen (nI k) (nI q) v (mS M 8 0 (nI (q + 1))) = some (0, mS (mS M 8 0 (nI (q + 1))) 7 0 (nI q)) := fun v => by
        unfold fR_names_b60
        rw [r_wrong n h71, bnd_s, r_nm_66 n mS_eq (by omega)]
      have fm : FM2 M (mS (mS M 8 0 (nI (q + 1))) 7 0 (nI q)) := FM2_trans (FM2_8 _ _) (FM2_7 _ _)
      by_cases hv : ∃ f, f < 5 ∧ x.1 12 q = nI f
      · obtain ⟨f, hf5, hv⟩ := id hv
        rw [(x_there n hC l2 l1 hq (b := 4) (by omega)).1 ⟨f, by omega, hv⟩, bnd_s, if_neg n1_0, xcg hC (by decide), x14, x_textAt n hC l2 l1 hq, bnd_s, x_holds n hn (by decide) hC, hv, if_neg (nI_pos (by omega)), if_neg (nI_nlt (by omega) (by omega))]
        by_cases hh : hld x 1 (nI f) = true
        · rw [if_pos hh, if_neg n1_0, xcg hC (by decide), x14, if_pos (by rw [ub_s (by omega)]; exact (hs f hf5).mpr hh)]
          exact Mt_fault hC (FX2_refl x) (by omega) rfl (flt _) fm mS_eq
        · rw [if_neg hh, if_pos n0_0, if_neg (by rw [ub_s (by omega)]; exact fun w => hh ((hs f hf5).mp w)), xcg hC (by decide), x14, x_textAt n hC l2 l1 hq, bnd_s, xcg hC (by decide), x14, nI_add, hv]
          unfold fR_names_b66
          rw [g7, if_neg (show ¬ (0 : Int32) ≤ -1 by decide)]
          unfold fR_names_b83
          rw [g8, g7, if_neg (show ¬ (0 : Int32) ≤ -1 by decide)]
          have hr1 : Rd x (mS M 8 0 (nI (q + 1))) L := Rd_c hr (FX2_refl x) (FM2_8 _ _) rfl rfl (mS_o (by omega)) (mS_o (by omega))
          -- the class has moved its place by one
          have cC : CR (mS S.1 14 0 (nI (q + 1)), S.2) (pv x 14 0 (nI (q + 1))) := CR_pv (by decide) hC
          have cF : FX2 x (pv x 14 0 (nI (q + 1))) := FX2_14 x 14 (Or.inl rfl) _
          have c14 : (pv x 14 0 (nI (q + 1))).1 14 0 = nI (q + 1) := pv_e
          have c6 : (pv x 14 0 (nI (q + 1))).1 6 0 = nI L := by rw [pv_o (by omega)]; exact l2
          have c12 : (pv x 14 0 (nI (q + 1))).1 12 = x.1 12 := pv_o (by omega)
          rw [show ∀ K : CS → Option (Int32 × CS), cp S 14 (nI (q + 1)) K = K (mS S.1 14 0 (nI (q + 1)), S.2) from fun _ => rfl, xcg cC (by decide), c14, xcg cC (by decide), c14, xcg cC (by decide), c6, nI_add]
          by_cases hq1 : q + 1 < L
          · rw [pk_sub (by omega), r_take n hr1 mS_eq hq1, bnd_s]
            unfold fR_names_b107
            have hr2 : Rd x (mS (mS M 8 0 (nI (q + 1))) 8 0 (nI (q + 1 + 1))) L := Rd_c hr1 (FX2_refl x) (FM2_8 _ _) rfl rfl (mS_o (by omega)) (mS_o (by omega))
            have k7 : mS (mS M 8 0 (nI (q + 1))) 8 0 (nI (q + 1 + 1)) 7 0 = -1 := by rw [mS_ne (by omega)]; exact h71
            have k8 : mS (mS M 8 0 (nI (q + 1))) 8 0 (nI (q + 1 + 1)) 8 0 = nI (q + 1 + 1) := mS_eq
            have k0 : mS (mS M 8 0 (nI (q + 1))) 8 0 (nI (q + 1 + 1)) 0 = M 0 := by rw [mS_o (by omega), mS_o (by omega)]
            have k4 : FM2 M (mS (mS M 8 0 (nI (q + 1))) 8 0 (nI (q + 1 + 1))) := FM2_trans (FM2_8 _ _) (FM2_8 _ _)
            generalize mS (mS M 8 0 (nI (q + 1))) 8 0 (nI (q + 1 + 1)) = M2 at *
            have j7 : ∀ K : Int32 → Option (Int32 × MR), gf M2 7 K = K (-1) := fun K => by unfold gf; rw [k7]
            have j8 : ∀ K : Int32 → Option (Int32 × MR), gf M2 8 K = K (nI (q + 1 + 1)) := fun K => by unfold gf; rw [k8]
            have j6 : ∀ K : Int32 → Option (Int32 × MR), gf M2 6 K = K (nI L) := fun K => by unfold gf; rw [hr2.1.2.2]
            rw [if_neg n1_0, j7, if_neg (show ¬ (0 : Int32) ≤ -1 by decide), j6, j8, pk_sub (by omega)]
            have flt2 : fR_names_b139 n (fR_names_l6 n (fu' + 1)) (nI many) (nI 4) (nI 1) (seen ||| nI 1 <<< (nI f &&& 31)) (nI k) (nI (q + 1)) M2 = some (0, mS M2 7 0 (nI (q + 1))) := by
              unfold fR_names_b139 fR_names_b175
              rw [r_wrong n k7, bnd_s, r_nm_l n mS_eq (by omega)]
            by_cases hlen : ∃ len, len < L - (q + 1 + 1) + 1 ∧ x.1 12 (q + 1) = nI len
            · obtain ⟨len, hl1, hl2⟩ := id hlen
              rw [(x_there n cC c6 l1 hq1 (b := L - (q + 1 + 1)) (by omega)).1 (by rw [c12]; exact hlen), bnd_s, if_neg n1_0, xcg cC (by decide), c14, x_textAt n cC c6 l1 hq1, bnd_s, c12, hl2, if_neg (nI_pos (by omega)), if_pos (nI_le (by omega) (by omega)), j8, j8, nI_add]
              unfold f1_codeFault fR_code
              have cW : im (pv x 14 0 (nI (q + 1))) = im x := FX2_im cF
              have hRd : Rd (pv x 14 0 (nI (q + 1))) M2 L := Rd_c hr2 cF (FM2_refl _) (pv_o (by omega)) (pv_o (by omega)) rfl rfl
              obtain ⟨r, S3, x3, M3, e1, e2, e3, e4, e5, e6, e7, e8⟩ := j_code n (L := L) (en := q + 1 + 1 + len) (b := true) (by omega) len (q + 1 + 1) 0 0 n n (mS S.1 14 0 (nI (q + 1)), S.2) (pv x 14 0 (nI (q + 1))) M2 (by omega) (by omega) (by omega) (by omega) (by omega) cC (by rw [cW]; exact hW) (by rw [cW, k0]; exact hR) hRd k7 (fun i i1 i2 => by rw [c12, pv_o (by omega)]; exact hb i (by omega) i2)
              rw [show imI true = nI 1 from rfl] at e1 e2
              rw [e1, bnd_s, e2, bnd_s]
              have x14' : x3.1 14 0 = nI (q + 1) := by rw [e4.1 14 (by omega) (by omega)]; exact c14
              have fx3 : FX2 x x3 := FX2_trans cF (FX2_of e4)
              have fm3 : FM2 M M3 := FM2_trans k4 (FM2_of e5)
              have i8 : M3 8 0 = nI (q + 1 + 1) := by rw [e5 8 (by omega) (by omega) (by omega)]; exact k8
              rw [show ∀ K : Int32 → Option (Int32 × MR), gf M3 8 K = K (nI (q + 1 + 1)) from fun K => by unfold gf; rw [i8], nI_add]
              unfold fR_names_b175
              rw [show ∀ (v : Int32) (K : MR → Option (Int32 × MR)), pf M3 8 v K = K (mS M3 8 0 v) from fun _ _ => rfl, nI_add]
              rcases e8 with ⟨rfl, g1, g2⟩ | ⟨fl, g1, rfl⟩
              · rw [if_pos rfl]
                obtain ⟨I1, I2, I3⟩ := id hI
                have hR4 : x3.2.1 1 < 3 := by rw [e4.2]; show x.2.1 1 < 3; omega
                have hx31 : x3.2.1 1 = k := by rw [e4.2]; exact I1
                -- the row of the method comes
                have hrow : ∀ K : CS → Option (Int32 × CS), ∃ S4, (bT 1 S3 (f2_addPair n (nI f) (nI (q + 1 + 1)) (tOf 1 S3)) fun _ S18 => bT 1 S18 (f2_set n (nI k) (nI 2) (nI (q + 1 + 1 + len)) (tOf 1 S18)) fun _ S19 => cp S19 14 (nI (q + 1 + 1 + len)) K) = K S4 ∧ CR S4 (pv (st (tpx x3 1 k (nI f) (nI (q + 1 + 1))) 1 k 2 (nI (q + 1 + 1 + len))) 14 0 (nI (q + 1 + 1 + len))) := by
                  intro K
                  have := Rc_addPair n (k := 1) (a := nI f) (b := nI (q + 1 + 1)) (K := fun _ S13 => some ((0 : Int32), S13)) (by decide) e3 hR4 (by omega) (r := 0) (Q := fun S' => CR S' (tpx x3 1 k (nI f) (nI (q + 1 + 1)))) (fun S' h' => Ru_some (by rw [hx31] at h'; exact h'))
                  obtain ⟨S4, w1, w2⟩ := this
                  obtain ⟨a, ha, hb⟩ := bT_some w1
                  have hb' : tIn 1 S3 a.2 = S4 := by cases hb; rfl
                  have hlt : k < (tpx x3 1 k (nI f) (nI (q + 1 + 1))).2.1 1 := by rw [tpx_r, hx31]; omega
                  refine ⟨(mS (tset S4 1 k 2 (nI (q + 1 + 1 + len))).1 14 0 (nI (q + 1 + 1 + len)), (tset S4 1 k 2 (nI (q + 1 + 1 + len))).2), ?_, CR_pv (by decide) (CR_st (by decide) (show 2 < 3 by decide) w2)⟩
                  rw [ha]
                  show (bT 1 (tIn 1 S3 a.2) (f2_set n (nI k) (nI 2) (nI (q + 1 + 1 + len)) (tOf 1 (tIn 1 S3 a.2))) fun _ S19 => cp S19 14 (nI (q + 1 + 1 + len)) K) = _
                  rw [hb', b_set n (by decide) (w2.2.1 1 (by decide)) hlt (show 2 < 3 by decide)]
                  rfl
                obtain ⟨S4, e9, c4⟩ := hrow (fun S20 => f1_readMethods_l39 n fu (nI many) (nI (k + 1)) S20)
                rw [e9]
                have fx4 : FX2 x3 (pv (st (tpx x3 1 k (nI f) (nI (q + 1 + 1))) 1 k 2 (nI (q + 1 + 1 + len))) 14 0 (nI (q + 1 + 1 + len))) := FX2_trans (FX2_tpx x3 1 k _ _ (by decide)) (FX2_trans (FX2_st _ 1 k 2 _ (by decide)) (FX2_14 _ 14 (Or.inl rfl) _))
                have t13 : (pv (st (tpx x3 1 k (nI f) (nI (q + 1 + 1))) 1 k 2 (nI (q + 1 + 1 + len))) 14 0 (nI (q + 1 + 1 + len))).1 13 = x3.1 13 := pv_o (by omega)
                have r1 : (pv (st (tpx x3 1 k (nI f) (nI (q + 1 + 1))) 1 k 2 (nI (q + 1 + 1 + len))) 14 0 (nI (q + 1 + 1 + len))).2.1 1 = k + 1 := by show (tpx x3 1 k (nI f) (nI (q + 1 + 1))).2.1 1 = _; rw [tpx_r, hx31]
                have r2 : ∀ i c, (pv (st (tpx x3 1 k (nI f) (nI (q + 1 + 1))) 1 k 2 (nI (q + 1 + 1 + len))) 14 0 (nI (q + 1 + 1 + len))).2.2.1 1 i c = if i = k then (if c = 2 then nI (q + 1 + 1 + len) else if c = 0 then nI f else if c = 1 then nI (q + 1 + 1) else 0) else x3.2.2.1 1 i c := by
                  intro i c
                  show st2 ((tpx x3 1 k (nI f) (nI (q + 1 + 1))).2.2.1 1) k 2 (nI (q + 1 + 1 + len)) i c = _
                  have := @tpx_c x3 1 i c (nI f) (nI (q + 1 + 1))
                  rw [hx31] at this
                  unfold st2
                  rw [this]
                  by_cases hik : i = k
                  · by_cases hc2 : c = 2
                    · simp [hik, hc2]
                    · simp [hik, hc2]
                  · simp [hik]
                have r0 : (pv (st (tpx x3 1 k (nI f) (nI (q + 1 + 1))) 1 k 2 (nI (q + 1 + 1 + len))) 14 0 (nI (q + 1 + 1 + len))).2.1 0 = x.2.1 0 := by
                  show (tpx x3 1 k (nI f) (nI (q + 1 + 1))).2.1 0 = _
                  rw [tpx_rn (by decide), e4.2]; rfl
                have r00 : (pv (st (tpx x3 1 k (nI f) (nI (q + 1 + 1))) 1 k 2 (nI (q + 1 + 1 + len))) 14 0 (nI (q + 1 + 1 + len))).2.2.1 0 = x.2.2.1 0 := by
                  show (tpx x3 1 k (nI f) (nI (q + 1 + 1))).2.2.1 0 = _
                  rw [tpx_cn (by decide), e4.2]; rfl
                have x8 : (pv (st (tpx x3 1 k (nI f) (nI (q + 1 + 1))) 1 k 2 (nI (q + 1 + 1 + len))) 14 0 (nI (q + 1 + 1 + len))).1 8 = x.1 8 := by
                  rw [pv_o (by omega)]
                  show x3.1 8 = _
                  rw [e4.1 8 (by omega) (by omega), pv_o (by omega)]
                have hx32 : x3.2.2.1 1 = x.2.2.1 1 := by rw [e4.2]; rfl
                -- texts
                have tA : ∀ i, i ≤ q + 1 + 1 → x3.1 13 i = x.1 13 i := fun i hi => by rw [e6 i (Or.inl hi), pv_o (by omega)]
                have tB : ∀ i, q + 1 + 1 + len ≤ i → x3.1 13 i = x.1 13 i := fun i hi => by rw [e6 i (Or.inr hi), pv_o (by omega)]
                have hIc : MthI (im x) x (x3.1 13) nf k := MthI_c hI (fun i hi => tA i (by omega)) rfl rfl
                have hmp3 : mpl (x3.1 13) nf k = q + 1 := by rw [mpl_c (tx := x.1 13) (fun i hi => tA i (by omega)) k (Nat.le_refl _)]; exact hmp
                have tq : x3.1 13 q = nI f := by rw [tA q (by omega), hb q (Nat.le_refl _) hq, hv]
                have tq1 : x3.1 13 (q + 1) = nI len := by rw [tA (q + 1) (by omega), hb (q + 1) (by omega) hq1, hl2]
                have hmp4 : mpl (x3.1 13) nf (k + 1) = q + 1 + 1 + len + 1 := by rw [mpl, hmp3, tq1, nI_clamp (by omega)]; omega
                have g2' : okC (im x) (x3.1 13) true (q + 1 + 1 + len) (q + 1 + 1) 0 := by rw [cW] at g2; exact g2
                have hI4 := MthI_step (a := 0) hIc hmp3 tq hf5 tq1 (by omega) g2' hh r1 (fun i c => by rw [r2, hx32])
                have fxx : FX2 x _ := FX2_trans fx3 fx4
                have m4 : FM2 M (mS M3 8 0 (nI (q + 1 + 1 + len))) := FM2_trans fm3 (FM2_8 _ _)
                have imx := FX2_im fxx
                obtain ⟨r, S', x', M', z1, z2, z3, z4, z5, z6, z7⟩ := j_methods n hn hm d (k + 1) (q + 1 + 1 + len) fu (fu' + 1) S4 _ (mS M3 8 0 (nI (q + 1 + 1 + len))) (seen ||| (nI 1 <<< (nI f &&& 31))) (by omega) (by omega) (by omega) c4 (by rw [imx]; exact hW) (by rw [imx, m4 0 (by omega) (by omega) (by omega) (by omega)]; exact hR) (Rd_c g1 fx4 (FM2_8 _ _) t13 (by rw [pv_o (by omega)]; rfl) (mS_o (by omega)) (mS_o (by omega))) (by rw [mS_ne (by omega)]; exact e7) pv_e mS_eq (by omega) (by rw [t13]; exact hmp4) (by rw [imx, t13]; exact hI4) (fun i i1 i2 => by
                  rw [t13, tB i i1, fxx.1 12 (by omega) (by omega) (by omega) (by omega) (by omega)]
                  exact hb i (by omega) i2) (fun g hg => seen_step I1 r1 (fun i hi => by rw [r2, if_neg (by omega), hx32]) (by rw [r2, if_pos rfl, if_neg (by decide), if_pos rfl]) (by omega) (by omega) (hs g hg))
                refine ⟨r, S', x', M', z1, by first | exact z2 | (rw [nI_add]; exact z2), z3, FX2_trans fxx z4, FM2_trans m4 z5, z6, ?_⟩
                rcases z7 with ⟨w1, w2, q', w3, w4, w5, w6, w7, w8, w9, w10, w11, w12⟩ | w
                · refine Or.inl ⟨w1, w2, q', w3, w4, w5, w6, by rw [imx] at w7; exact w7, fun i hi => ?_, fun i i1 i2 => ?_, w10.trans r0, w11.trans r00, w12.trans x8⟩
                  · rw [w8 i (by omega), t13, tA i (by omega)]
                  · rw [w9 i i1 i2, fxx.1 12 (by omega) (by omega) (by omega) (by omega) (by omega)]
                · exact Or.inr w
              · rw [if_neg (fun w => m1_n fl (by omega) w.symm)]
                refine Mt_fault e3 fx3 g1 rfl (r_nm_l n (f := fl) (by rw [mS_ne (by omega)]; exact e7) (by omega)) (FM2_trans fm3 (FM2_8 _ _)) (by rw [mS_ne (by omega)]; exact e7)
            · rw [(x_there n cC c6 l1 hq1 (b := L - (q + 1 + 1)) (by omega)).2 (by rw [c12]; exact hlen), bnd_s, if_pos n0_0, xcg cC (by decide), c14]
              refine Mt_fault cC cF (by omega) rfl ?_ (FM2_trans k4 (FM2_7 _ _)) mS_eq
              by_cases h0 : x.1 12 (q + 1) < 0
              · rw [if_pos h0, flt2]
              · rw [if_neg h0, if_neg (by
                  rcases i_cases (x.1 12 (q + 1)) with w | ⟨f', hf2, w⟩
                  · exact absurd w h0
                  · rw [w]; exact nI_ge (Nat.lt_of_not_le (fun q' => hlen ⟨f', by omega, w⟩)) hf2), flt2]
          · rw [x_there_o n cC c6 l1 (show L ≤ q + 1 by omega) (by omega), bnd_s, if_pos n0_0, xcg cC (by decide), c14, r_take_o n hr1 mS_eq h71 (by omega) (by omega), bnd_s]
            unfold fR_names_b107 fR_names_b175
            have g77 : ∀ K : Int32 → Option (Int32 × MR), gf (mS (mS M 8 0 (nI (q + 1))) 7 0 (nI L)) 7 K = K (nI L) := fun K => by unfold gf; rw [mS_eq]
            rw [if_neg n1_0, g77, if_pos (nI_pos' (by omega))]
            exact Mt_fault cC cF (by omega) rfl (r_nm_l n mS_eq (by omega)) (FM2_trans (FM2_8 _ _) (FM2_7 _ _)) (by rw [mS_eq]; congr 1; omega)
      · rw [(x_there n hC l2 l1 hq (b := 4) (by omega)).2 hv, bnd_s, if_pos n0_0, xcg hC (by decide), x14]
        refine Mt_fault hC (FX2_refl x) (by omega) rfl ?_ fm mS_eq
        by_cases h0 : x.1 12 q < 0
        · rw [if_pos h0, flt]
        · rw [if_neg h0, if_pos (by
            rcases i_cases (x.1 12 q) with w | ⟨f, hf2, w⟩
            · exact absurd w h0
            · rw [w]; exact nI_lt (Nat.lt_of_not_le (fun q => hv ⟨f, by omega, w⟩)) hf2), flt]
    · rw [x_there_o n hC l2 l1 (show L ≤ q by omega) (by omega), bnd_s, if_pos n0_0, xcg hC (by decide), x14, r_take_o n hr m8 h7 (by omega) (by omega), bnd_s]
      have g7 : ∀ K : Int32 → Option (Int32 × MR), gf (mS M 7 0 (nI L)) 7 K = K (nI L) := fun K => by unfold gf; rw [mS_eq]
      rw [g7, if_pos (nI_pos' (by omega)), r_nm_66 n mS_eq (by omega)]
      exact Mt_fault hC (FX2_refl x) (by omega) rfl rfl (FM2_7 _ _) (by rw [mS_eq]; congr 1; omega)
