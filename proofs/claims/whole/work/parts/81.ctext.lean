theorem cp_e {ρ : Type} {S : CS} {a : Nat} {v : Int32} {K : CS → Option ρ} : cp S a v K = K (mS S.1 a 0 v, S.2) := rfl
def ClsTx (B : Im) (x : X) (tx : Nat → Int32) (L : Nat) : Prop := ∃ nf nm, (tx 1 = nI nf ∧ nf ≤ 4 ∧ tx (2 + 2 * nf) = nI nm ∧ nm ≤ 3 ∧ mpl tx nf nm ≤ L + 1 ∧ L ≤ 60) ∧ x.1 9 0 = nI (mpl tx nf nm - 1) ∧ x.1 8 0 = tx 0 ∧ (tx 0 = -1 ∨ ∃ p, tx 0 = nI p ∧ Cc B p) ∧ FldI x tx nf ∧ MthI B x tx nf nm ∧ (mpl tx nf nm = L + 1 ∨ okC B tx false L (mpl tx nf nm - 1) 0)
def ClOut (x : X) (M : MR) (L : Nat) (FC : Option (Int32 × CS)) (FR : Option (Int32 × MR)) : Prop :=
  ∃ r S' x' M', FC = some (r, S') ∧ FR = some (0, M') ∧ CR S' x' ∧ FX2 x x' ∧ FM2 M M' ∧ M' 7 0 = r ∧ ((r = -1 ∧ Rd x' M' L ∧ ClsTx (im x) x' (x'.1 13) L) ∨ ∃ f, f ≤ 60 ∧ r = nI f)
theorem Cl_fault {S : CS} {x x' : X} {M M' : MR} {L : Nat} {FC : Option (Int32 × CS)} {FR : Option (Int32 × MR)} (hC : CR S x') (hx : FX2 x x') {f : Nat} (hf : f ≤ 60) (e1 : FC = some (nI f, S)) (e2 : FR = some (0, M')) (hM : FM2 M M') (h7 : M' 7 0 = nI f) : ClOut x M L FC FR :=
  ⟨nI f, S, x', M', e1, e2, hC, hx, hM, h7, Or.inr ⟨f, hf, rfl⟩⟩
theorem Cl_trans {x x1 : X} {M M1 : MR} {L : Nat} {FC : Option (Int32 × CS)} {FR : Option (Int32 × MR)} (h : ClOut x1 M1 L FC FR) (hx : FX2 x x1) (hM : FM2 M M1) : ClOut x M L FC FR := by
  obtain ⟨r, S', x', M', e1, e2, e3, e4, e5, e6, e7⟩ := h
  refine ⟨r, S', x', M', e1, e2, e3, FX2_trans hx e4, FM2_trans hM e5, e6, ?_⟩
  rw [FX2_im hx] at e7
  exact e7
theorem x_b40 (n : Nat) {S : CS} {x : X} {q f : Nat} (hC : CR S x) (hf : f < 1000) : ∃ S', f1_findFault_b40 n (nI f) S = some (nI f, S') ∧ CR S' (pv x 9 0 (x.1 14 0)) := by
  refine ⟨(mS S.1 9 0 (x.1 14 0), S.2), ?_, CR_pv (by decide) hC⟩
  unfold f1_findFault_b40
  rw [xcg hC (by decide)]
  show (if nI f = -1 then _ else some (nI f, _)) = _
  rw [if_neg (fun w => m1_n f (by omega) w.symm)]
theorem FldI_c {x x' : X} {tx tx' : Nat → Int32} {k : Nat} (h : FldI x tx k) (ht : ∀ i, 2 ≤ i → i < 2 + 2 * k → tx' i = tx i) (h1 : x'.2.1 0 = x.2.1 0) (h2 : x'.2.2.1 0 = x.2.2.1 0) : FldI x' tx' k := by
  obtain ⟨a1, a2, a3⟩ := h
  refine ⟨by rw [h1]; exact a1, fun i hi => ?_, fun i j hij hj => ?_⟩
  · rw [h2, ht _ (by omega) (by omega), ht _ (by omega) (by omega)]; exact a2 i hi
  · rw [ht _ (by omega) (by omega), ht _ (by omega) (by omega)]; exact a3 i j hij hj
section CTX
variable (n : Nat)
/-- behind the methods: the start -/
theorem j_start {L q nf nm : Nat} {S : CS} {x : X} {M : MR} (hn : 2000 ≤ n) (hC : CR S x) (hW : WF (im x)) (hR : RelI (im x) (M 0)) (hr : Rd x M L) (h7 : M 7 0 = -1) (x14 : x.1 14 0 = nI q) (m8 : M 8 0 = nI q) (hq : q ≤ L) (hb : ∀ i, q ≤ i → i < L → x.1 13 i = x.1 12 i) (hmp : mpl (x.1 13) nf nm = q + 1) (hfl : FldI x (x.1 13) nf) (hmt : MthI (im x) x (x.1 13) nf nm) (h1 : x.1 13 1 = nI nf ∧ nf ≤ 4 ∧ x.1 13 (2 + 2 * nf) = nI nm ∧ nm ≤ 3) (h8 : x.1 8 0 = x.1 13 0 ∧ (x.1 13 0 = -1 ∨ ∃ p, x.1 13 0 = nI p ∧ Cc (im x) p)) : ClOut x M L (f1_findFault_b40 n (-1) S) (gf M 8 fun v3 => gf M 6 fun v4 => if v4 ≤ v3 then some (0, M) else gf M 8 fun v5 => gf M 6 fun v6 => bnd (fR_code n v5 v6 (nI 0) M) fun _ M7 => some (0, M7)) := by
  obtain ⟨⟨l1, l2, l3⟩, t4, t5, hN, t9⟩ := id hr
  have mg := mpl_ge (x.1 13) nf nm
  have cC : CR (mS S.1 9 0 (nI q), S.2) (pv x 9 0 (nI q)) := CR_pv (by decide) hC
  have cF : FX2 x (pv x 9 0 (nI q)) := FX2_14 x 9 (Or.inr (Or.inr rfl)) _
  have hRd : Rd (pv x 9 0 (nI q)) M L := Rd_c hr cF (FM2_refl _) (pv_o (by omega)) (pv_o (by omega)) rfl rfl
  have c14 : (pv x 9 0 (nI q)).1 14 0 = nI q := by rw [pv_o (by omega)]; exact x14
  have c6 : (pv x 9 0 (nI q)).1 6 0 = nI L := by rw [pv_o (by omega)]; exact l2
  have cW : im (pv x 9 0 (nI q)) = im x := FX2_im cF
  unfold f1_findFault_b40
  rw [xcg hC (by decide), x14, show ∀ K : CS → Option (Int32 × CS), cp S 9 (nI q) K = K (mS S.1 9 0 (nI q), S.2) from fun _ => rfl, if_pos rfl, xcg cC (by decide), c14, xcg cC (by decide), c6]
  rw [show ∀ K : Int32 → Option (Int32 × MR), gf M 8 K = K (nI q) from fun K => by unfold gf; rw [m8], show ∀ K : Int32 → Option (Int32 × MR), gf M 6 K = K (nI L) from fun K => by unfold gf; rw [l3]]
  have fin : ∀ x' : X, (∀ i, i ≤ q → x'.1 13 i = x.1 13 i) → FX2 x x' → x'.1 9 0 = nI q → x'.1 8 = x.1 8 → x'.2 = x.2 → (mpl (x.1 13) nf nm = L + 1 ∨ okC (im x) (x'.1 13) false L q 0) → ClsTx (im x) x' (x'.1 13) L := by
    intro x' ht hx h9 hx8 hx2 hok
    have hm : ∀ i, i ≤ nm → mpl (x'.1 13) nf i = mpl (x.1 13) nf i := mpl_c (fun i hi => ht i (by omega))
    have mg2 := mpl_ge (x.1 13) nf 0
    have mg3 := mpl_mono (x.1 13) nf (show 0 ≤ nm by omega)
    rw [mpl] at mg2
    refine ⟨nf, nm, ⟨?_, h1.2.1, ?_, h1.2.2.2, ?_, l1⟩, ?_, ?_, ?_, FldI_c hfl (fun i i1 i2 => ht i (by omega)) (by rw [hx2]) (by rw [hx2]), MthI_c hmt (fun i hi => ht i (by omega)) (by rw [hx2]) (by rw [hx2]), ?_⟩
    · rw [ht 1 (by omega)]; exact h1.1
    · rw [ht _ (by omega)]; exact h1.2.2.1
    · rw [hm nm (Nat.le_refl _)]; omega
    · rw [hm nm (Nat.le_refl _), hmp]; exact h9
    · rw [hx8, ht 0 (by omega)]; exact h8.1
    · rw [ht 0 (by omega)]; exact h8.2
    · rw [hm nm (Nat.le_refl _)]
      rcases hok with w | w
      · exact Or.inl w
      · right
        rw [hmp]; exact w
  by_cases hLq : L ≤ q
  · rw [if_pos (nI_le hLq (by omega)), if_pos (nI_le hLq (by omega))]
    refine ⟨-1, _, _, M, rfl, rfl, cC, cF, FM2_refl M, h7, Or.inl ⟨rfl, hRd, fin _ (fun i _ => by rw [pv_o (by omega)]) cF pv_e (pv_o (by omega)) rfl (Or.inl (by omega))⟩⟩
  · rw [if_neg (nI_ge (by omega) (by omega)), if_neg (nI_ge (by omega) (by omega)), xcg cC (by decide), c14, xcg cC (by decide), c6]
    unfold f1_codeFault fR_code
    obtain ⟨r, S3, x3, M3, e1, e2, e3, e4, e5, e6, e7, e8⟩ := j_code n (L := L) (en := L) (b := false) (Nat.le_refl _) (L - q) q 0 0 n n (mS S.1 9 0 (nI q), S.2) (pv x 9 0 (nI q)) M (by omega) (by omega) (by omega) (by omega) (by omega) cC (by rw [cW]; exact hW) (by rw [cW]; exact hR) hRd h7 (fun i i1 i2 => by rw [pv_o (by omega), pv_o (by omega)]; exact hb i (by omega) i2)
    rw [show imI false = nI 0 from rfl] at e1 e2
    rw [e1, bnd_s, show ∀ K : Int32 → Option (Int32 × MR), gf M 8 K = K (nI q) from fun K => by unfold gf; rw [m8], show ∀ K : Int32 → Option (Int32 × MR), gf M 6 K = K (nI L) from fun K => by unfold gf; rw [l3], e2, bnd_s]
    refine ⟨r, S3, x3, M3, rfl, rfl, e3, FX2_trans cF (FX2_of e4), FM2_of e5, e7, ?_⟩
    rcases e8 with ⟨g0, g1, g2⟩ | g
    · rw [cW] at g2
      exact Or.inl ⟨g0, g1, fin x3 (fun i hi => by rw [e6 i (Or.inl hi), pv_o (by omega)]) (FX2_trans cF (FX2_of e4)) (by rw [e4.1 9 (by omega) (by omega)]; exact pv_e) (by rw [e4.1 8 (by omega) (by omega)]; exact pv_o (by omega)) e4.2 (Or.inr g2)⟩
    · exact Or.inr g
theorem x_there_b {S : CS} {x : X} {L p b : Nat} (h : CR S x) (hL : x.1 6 0 = nI L) (hL6 : L ≤ 60) (hp : p ≤ L) (hb : b < 1000) : ((p < L ∧ ∃ f, f < b + 1 ∧ x.1 12 p = nI f) ∧ f1_isThere n (nI p) (nI 0) (nI b) S = some (nI 1, S)) ∨ ((p = L ∨ (p < L ∧ ¬ ∃ f, f < b + 1 ∧ x.1 12 p = nI f)) ∧ f1_isThere n (nI p) (nI 0) (nI b) S = some (nI 0, S)) := by
  by_cases hq : p < L
  · by_cases hv : ∃ f, f < b + 1 ∧ x.1 12 p = nI f
    · exact Or.inl ⟨⟨hq, hv⟩, (x_there n h hL hL6 hq hb).1 hv⟩
    · exact Or.inr ⟨Or.inr ⟨hq, hv⟩, (x_there n h hL hL6 hq hb).2 hv⟩
  · exact Or.inr ⟨Or.inl (by omega), x_there_o n h hL hL6 (by omega) (by omega)⟩
/-- behind the fields: the methods -/
theorem j_mths {L nf : Nat} {S : CS} {x : X} {M : MR} (hn : 2000 ≤ n) (hC : CR S x) (hW : WF (im x)) (hR : RelI (im x) (M 0)) (hr : Rd x M L) (h7 : M 7 0 = -1) (x14 : x.1 14 0 = nI (2 + 2 * nf)) (m8 : M 8 0 = nI (2 + 2 * nf)) (hq : 2 + 2 * nf ≤ L) (hb : ∀ i, 1 ≤ i → i < L → x.1 13 i = x.1 12 i) (hfl : FldI x (x.1 12) nf) (h0 : x.2.1 1 = 0) (h1 : x.1 12 1 = nI nf ∧ nf ≤ 4) (h8 : x.1 8 0 = x.1 13 0 ∧ (x.1 13 0 = -1 ∨ ∃ p, x.1 13 0 = nI p ∧ Cc (im x) p)) : ClOut x M L (bnd (f1_readMethods n S) fun v3 S3 => f1_findFault_b40 n v3 S3) (gf M 8 fun v2 => gf M 7 fun v3 => if 0 ≤ v3 then fR_classText_b107 n v2 (nI 0) M else bnd (fR_take n M) fun v4 M4 => fR_classText_b107 n v2 v4 M4) := by
  obtain ⟨⟨l1, l2, l3⟩, t4, t5, hN, t9⟩ := id hr
  rw [show ∀ K : Int32 → Option (Int32 × MR), gf M 8 K = K (nI (2 + 2 * nf)) from fun K => by unfold gf; rw [m8], show ∀ K : Int32 → Option (Int32 × MR), gf M 7 K = K (-1) from fun K => by unfold gf; rw [h7], if_neg (show ¬ (0 : Int32) ≤ -1 by decide)]
  unfold f1_readMethods
  rw [xcg hC (by decide), x14]
  rcases x_there_b n hC l2 l1 hq (b := 3) (by omega) with ⟨⟨hqL, nm, hnm, hv⟩, e⟩ | ⟨hv, e⟩
  · rw [e, bnd_s, if_neg n1_0, xcg hC (by decide), x14, x_textAt n hC l2 l1 hqL, bnd_s, xcg hC (by decide), x14, nI_add, hv, r_take n hr m8 hqL, bnd_s, hv]
    have cC : CR (mS S.1 14 0 (nI (2 + 2 * nf + 1)), S.2) (pv x 14 0 (nI (2 + 2 * nf + 1))) := CR_pv (by decide) hC
    have cF : FX2 x (pv x 14 0 (nI (2 + 2 * nf + 1))) := FX2_14 x 14 (Or.inl rfl) _
    have cM : FM2 M (mS M 8 0 (nI (2 + 2 * nf + 1))) := FM2_8 _ _
    have cW : im (pv x 14 0 (nI (2 + 2 * nf + 1))) = im x := FX2_im cF
    have h71 : mS M 8 0 (nI (2 + 2 * nf + 1)) 7 0 = -1 := by rw [mS_ne (by omega)]; exact h7
    rw [show ∀ K : CS → Option (Int32 × CS), cp S 14 (nI (2 + 2 * nf + 1)) K = K (mS S.1 14 0 (nI (2 + 2 * nf + 1)), S.2) from fun _ => rfl]
    unfold fR_classText_b107
    rw [show ∀ K : Int32 → Option (Int32 × MR), gf (mS M 8 0 (nI (2 + 2 * nf + 1))) 7 K = K (-1) from fun K => by unfold gf; rw [h71], if_neg (show ¬ (0 : Int32) ≤ -1 by decide), if_neg (nI_pos (by omega)), if_pos (nI_le (by omega) (by omega))]
    unfold fR_classText_b129 fR_names
    obtain ⟨r, S3, x3, M3, e1, e2, e3, e4, e5, e6, e7⟩ := j_methods n hn (L := L) (nf := nf) (many := nm) (by omega) nm 0 (2 + 2 * nf + 1) n n _ _ (mS M 8 0 (nI (2 + 2 * nf + 1))) (nI 0) (by omega) (by omega) (by omega) cC (by rw [cW]; exact hW) (by rw [cW, mS_o (by omega)]; exact hR) (Rd_c hr cF cM (pv_o (by omega)) (pv_o (by omega)) (mS_o (by omega)) (mS_o (by omega))) h71 pv_e mS_eq (by omega) (by rw [mpl]; omega) ⟨h0, fun i hi => by omega, fun i j _ hj => by omega⟩ (fun i i1 i2 => by rw [pv_o (by omega), pv_o (by omega)]; exact hb i (by omega) i2) (fun f hf => by
      rw [ub_0, hld_iff]
      refine ⟨fun w => by simp at w, fun ⟨i, hi, _⟩ => ?_⟩
      have hi : i < x.2.1 1 := hi
      omega)
    rw [e1, bnd_s, e2, bnd_s]
    rcases e7 with ⟨rfl, g1, q', g2, g3, g4, g5, g6, g7, g8, g9, g10, g11⟩ | ⟨f, hf, rfl⟩
    · rw [show ∀ K : Int32 → Option (Int32 × MR), gf M3 7 K = K (-1) from fun K => by unfold gf; rw [e6], if_neg (show ¬ (0 : Int32) ≤ -1 by decide)]
      have fx := FX2_trans cF e4
      have fm := FM2_trans cM e5
      have hw := FX2_im fx
      have t13 : ∀ i, i < 2 + 2 * nf + 1 → x3.1 13 i = x.1 13 i := fun i hi => by rw [g7 i hi, pv_o (by omega)]
      refine Cl_trans (j_start n hn (nf := nf) (nm := nm) e3 (by rw [hw]; exact hW) (by rw [hw, fm 0 (by omega) (by omega) (by omega) (by omega)]; exact hR) g1 e6 g2 g3 g4 (fun i i1 i2 => by rw [g8 i i1 i2, pv_o (by omega), fx.1 12 (by omega) (by omega) (by omega) (by omega) (by omega)]) g5 ?_ (by rw [hw]; rw [cW] at g6; exact g6) ⟨?_, h1.2, ?_, by omega⟩ ⟨?_, ?_⟩) fx fm
      · refine FldI_c hfl (fun i i1 i2 => ?_) (g9.trans rfl) (g10.trans rfl)
        rw [t13 i (by omega), hb i (by omega) (by omega)]
      · rw [t13 1 (by omega), hb 1 (by omega) (by omega)]; exact h1.1
      · rw [t13 _ (by omega), hb _ (by omega) (by omega)]; exact hv
      · rw [g11, pv_o (by omega), t13 0 (by omega)]; exact h8.1
      · rw [hw, t13 0 (by omega)]; exact h8.2
    · obtain ⟨S4, w1, w2⟩ := x_b40 n (q := 0) e3 (show f < 1000 by omega)
      rw [w1, show ∀ K : Int32 → Option (Int32 × MR), gf M3 7 K = K (nI f) from fun K => by unfold gf; rw [e6], if_pos (nI_pos' (by omega))]
      exact Cl_fault w2 (FX2_trans (FX2_trans cF e4) (FX2_14 _ 9 (Or.inr (Or.inr rfl)) _)) hf rfl rfl (FM2_trans cM e5) e6
  · rw [e, bnd_s, if_pos n0_0, xcg hC (by decide), x14, bnd_s]
    obtain ⟨S4, w1, w2⟩ := x_b40 n (q := 0) (f := 2 + 2 * nf) hC (by omega)
    rw [w1]
    rcases hv with hv | ⟨hqL, hv⟩
    · rw [r_take_o n hr m8 h7 (by omega) (by omega), bnd_s, r_ct_107 n (by omega) (f := L) mS_eq (by omega)]
      exact Cl_fault w2 (FX2_14 _ 9 (Or.inr (Or.inr rfl)) _) (by omega) rfl rfl (FM2_7 _ _) (by rw [mS_eq, hv])
    · rw [r_take n hr m8 hqL, bnd_s]
      have h71 : mS M 8 0 (nI (2 + 2 * nf + 1)) 7 0 = -1 := by rw [mS_ne (by omega)]; exact h7
      have flt : ∀ v, fR_classText_b124 n (nI (2 + 2 * nf)) v (mS M 8 0 (nI (2 + 2 * nf + 1))) = some (0, mS (mS M 8 0 (nI (2 + 2 * nf + 1))) 7 0 (nI (2 + 2 * nf))) := fun v => by
        unfold fR_classText_b124
        rw [r_wrong n h71, bnd_s, r_ct_129 n (by omega) mS_eq (by omega)]
      refine Cl_fault (M' := mS (mS M 8 0 (nI (2 + 2 * nf + 1))) 7 0 (nI (2 + 2 * nf))) w2 (FX2_14 _ 9 (Or.inr (Or.inr rfl)) _) (by omega) rfl ?_ (FM2_trans (FM2_8 _ _) (FM2_7 _ _)) mS_eq
      unfold fR_classText_b107
      rw [show ∀ K : Int32 → Option (Int32 × MR), gf (mS M 8 0 (nI (2 + 2 * nf + 1))) 7 K = K (-1) from fun K => by unfold gf; rw [h71], if_neg (show ¬ (0 : Int32) ≤ -1 by decide)]
      by_cases hn0 : x.1 12 (2 + 2 * nf) < 0
      · rw [if_pos hn0, flt]
      · rw [if_neg hn0, if_neg (by
          rcases i_cases (x.1 12 (2 + 2 * nf)) with w | ⟨f', hf2, w⟩
          · exact absurd w hn0
          · rw [w]; exact nI_ge (Nat.lt_of_not_le (fun q' => hv ⟨f', by omega, w⟩)) hf2), flt]
/-- behind the parent: the fields -/
theorem j_flds {L : Nat} {S : CS} {x : X} {M : MR} (hn : 2000 ≤ n) (hC : CR S x) (hW : WF (im x)) (hR : RelI (im x) (M 0)) (hr : Rd x M L) (h7 : M 7 0 = -1) (x14 : x.1 14 0 = nI 1) (m8 : M 8 0 = nI 1) (hq : 1 ≤ L) (hb : ∀ i, 1 ≤ i → i < L → x.1 13 i = x.1 12 i) (h00 : x.2.1 0 = 0) (h0 : x.2.1 1 = 0) (h8 : x.1 8 0 = x.1 13 0 ∧ (x.1 13 0 = -1 ∨ ∃ p, x.1 13 0 = nI p ∧ Cc (im x) p)) : ClOut x M L (bnd (f1_readFields n S) fun v2 S2 => if v2 = -1 then bnd (f1_readMethods n S2) fun v3 S3 => f1_findFault_b40 n v3 S3 else f1_findFault_b40 n v2 S2) (fR_classText_b37 n M) := by
  obtain ⟨⟨l1, l2, l3⟩, t4, t5, hN, t9⟩ := id hr
  unfold fR_classText_b37
  rw [show ∀ K : Int32 → Option (Int32 × MR), gf M 8 K = K (nI 1) from fun K => by unfold gf; rw [m8], show ∀ K : Int32 → Option (Int32 × MR), gf M 7 K = K (-1) from fun K => by unfold gf; rw [h7], if_neg (show ¬ (0 : Int32) ≤ -1 by decide)]
  unfold f1_readFields
  rw [xcg hC (by decide), x14]
  rcases x_there_b n hC l2 l1 hq (b := 4) (by omega) with ⟨⟨hqL, nf, hnf, hv⟩, e⟩ | ⟨hv, e⟩
  · rw [e, bnd_s, if_neg n1_0, xcg hC (by decide), x14, x_textAt n hC l2 l1 hqL, bnd_s, xcg hC (by decide), x14, nI_add, hv, r_take n hr m8 hqL, bnd_s, hv]
    have cC : CR (mS S.1 14 0 (nI (1 + 1)), S.2) (pv x 14 0 (nI (1 + 1))) := CR_pv (by decide) hC
    have cF : FX2 x (pv x 14 0 (nI (1 + 1))) := FX2_14 x 14 (Or.inl rfl) _
    have cM : FM2 M (mS M 8 0 (nI (1 + 1))) := FM2_8 _ _
    have cW : im (pv x 14 0 (nI (1 + 1))) = im x := FX2_im cF
    have h71 : mS M 8 0 (nI (1 + 1)) 7 0 = -1 := by rw [mS_ne (by omega)]; exact h7
    rw [show ∀ K : CS → Option (Int32 × CS), cp S 14 (nI (1 + 1)) K = K (mS S.1 14 0 (nI (1 + 1)), S.2) from fun _ => rfl]
    unfold fR_classText_b57
    rw [show ∀ K : Int32 → Option (Int32 × MR), gf (mS M 8 0 (nI (1 + 1))) 7 K = K (-1) from fun K => by unfold gf; rw [h71], if_neg (show ¬ (0 : Int32) ≤ -1 by decide), if_neg (nI_pos (by omega)), if_pos (nI_le (by omega) (by omega))]
    unfold fR_classText_b79 fR_names
    obtain ⟨r, S3, x3, M3, e1, e2, e3, e4, e5, e6, e7⟩ := j_fields n hn (L := L) (many := nf) (by omega) nf 0 n n _ _ (mS M 8 0 (nI (1 + 1))) (nI 0) (by omega) (by omega) (by omega) cC (by rw [cW]; exact hW) (Rd_c hr cF cM (pv_o (by omega)) (pv_o (by omega)) (mS_o (by omega)) (mS_o (by omega))) h71 pv_e mS_eq (by omega) ⟨h00, fun i hi => by omega, fun i j _ hj => by omega⟩ (fun f hf => by
      rw [ub_0, hld_iff]
      refine ⟨fun w => by simp at w, fun ⟨i, hi, _⟩ => ?_⟩
      have hi : i < x.2.1 0 := hi
      omega)
    rw [e1, bnd_s, e2, bnd_s]
    rcases e7 with ⟨rfl, g1, g2, g3, g4, g5, g6, g7, g8⟩ | ⟨f, hf, rfl⟩
    · rw [if_pos rfl]
      have fx := FX2_trans cF e4
      have fm := FM2_trans cM e5
      have hw := FX2_im fx
      have t13 : x3.1 13 = x.1 13 := by rw [g2, pv_o (by omega)]
      have t12 : x3.1 12 = x.1 12 := fx.1 12 (by omega) (by omega) (by omega) (by omega) (by omega)
      refine Cl_trans (j_mths n hn (nf := nf) e3 (by rw [hw]; exact hW) (by rw [hw, fm 0 (by omega) (by omega) (by omega) (by omega)]; exact hR) g1 e6 g3 g4 g5 (fun i i1 i2 => by rw [t13, t12]; exact hb i i1 i2) ?_ (g7.trans h0) ⟨by rw [t12]; exact hv, by omega⟩ ⟨?_, ?_⟩) fx fm
      · rw [t12]; rw [pv_o (by omega)] at g6; exact g6
      · rw [g8, pv_o (by omega), t13]; exact h8.1
      · rw [hw, t13]; exact h8.2
    · obtain ⟨S4, w1, w2⟩ := x_b40 n (q := 0) e3 (show f < 1000 by omega)
      rw [if_neg (fun w => m1_n f (by omega) w.symm), w1]
      refine Cl_fault w2 (FX2_trans (FX2_trans cF e4) (FX2_14 _ 9 (Or.inr (Or.inr rfl)) _)) hf rfl ?_ (FM2_trans cM e5) e6
      unfold gf
      dsimp only
      rw [e6, if_pos (nI_pos' (show f < 2147483648 by omega))]
      exact r_ct_107 n (by omega) e6 (by omega)
  · rw [e, bnd_s, if_pos n0_0, xcg hC (by decide), x14, bnd_s, if_neg (by decide)]
    obtain ⟨S4, w1, w2⟩ := x_b40 n (q := 0) (f := 1) hC (by omega)
    rw [w1]
    rcases hv with hv | ⟨hqL, hv⟩
    · rw [r_take_o n hr m8 h7 (by omega) (by omega), bnd_s, r_ct_57 n (by omega) (f := L) mS_eq (by omega)]
      exact Cl_fault w2 (FX2_14 _ 9 (Or.inr (Or.inr rfl)) _) (by omega) rfl rfl (FM2_7 _ _) (by rw [mS_eq, hv])
    · rw [r_take n hr m8 hqL, bnd_s]
      have h71 : mS M 8 0 (nI (1 + 1)) 7 0 = -1 := by rw [mS_ne (by omega)]; exact h7
      have flt : ∀ v, fR_classText_b74 n (nI 1) v (mS M 8 0 (nI (1 + 1))) = some (0, mS (mS M 8 0 (nI (1 + 1))) 7 0 (nI 1)) := fun v => by
        unfold fR_classText_b74
        rw [r_wrong n h71, bnd_s, r_ct_79 n (by omega) mS_eq (by omega)]
      refine Cl_fault (M' := mS (mS M 8 0 (nI (1 + 1))) 7 0 (nI 1)) w2 (FX2_14 _ 9 (Or.inr (Or.inr rfl)) _) (by omega) rfl ?_ (FM2_trans (FM2_8 _ _) (FM2_7 _ _)) mS_eq
      unfold fR_classText_b57
      rw [show ∀ K : Int32 → Option (Int32 × MR), gf (mS M 8 0 (nI (1 + 1))) 7 K = K (-1) from fun K => by unfold gf; rw [h71], if_neg (show ¬ (0 : Int32) ≤ -1 by decide)]
      by_cases hn0 : x.1 12 1 < 0
      · rw [if_pos hn0, flt]
      · rw [if_neg hn0, if_neg (by
          rcases i_cases (x.1 12 1) with w | ⟨f', hf2, w⟩
          · exact absurd w hn0
          · rw [w]; exact nI_ge (Nat.lt_of_not_le (fun q' => hv ⟨f', by omega, w⟩)) hf2), flt]
/-- the text of a class, all of it -/
theorem j_class {L : Nat} {S : CS} {x : X} {M : MR} (hn : 2000 ≤ n) (hC : CR S x) (hW : WF (im x)) (hR : RelI (im x) (M 0)) (hr : Rd x M L) (h7 : M 7 0 = -1) (hb : ∀ i, i < L → x.1 13 i = x.1 12 i) (h00 : x.2.1 0 = 0) (h0 : x.2.1 1 = 0) (h8 : x.1 8 0 = -1) : ClOut x M L (f1_findFault n (nI 1) S) (fR_classText n M) := by
  obtain ⟨⟨l1, l2, l3⟩, t4, t5, hN, t9⟩ := id hr
  have hB := hW.1
  unfold f1_findFault fR_classText
  rw [if_pos rfl]
  have h70 : mS M 8 0 (nI 0) 7 0 = -1 := by rw [mS_ne (by omega)]; exact h7
  have hr0 : Rd x (mS M 8 0 (nI 0)) L := Rd_c hr (FX2_refl x) (FM2_8 _ _) rfl rfl (mS_o (by omega)) (mS_o (by omega))
  rw [show ∀ K : MR → Option (Int32 × MR), pf M 8 (nI 0) K = K (mS M 8 0 (nI 0)) from fun _ => rfl]
  by_cases hL0 : L = 0
  · have e : f1_readParent n S = some (nI 0, S) := by
      unfold f1_readParent
      rw [x_there_o n hC l2 l1 (by omega) (by omega), bnd_s, if_pos n0_0, zt_0]
    rw [e, bnd_s, if_pos n0_0, r_take_o n hr0 mS_eq h70 (by omega) (by omega), bnd_s, show ∀ K : Int32 → Option (Int32 × MR), gf (mS (mS M 8 0 (nI 0)) 7 0 (nI L)) 7 K = K (nI L) from fun K => by unfold gf; rw [mS_eq], if_pos (nI_pos' (by omega)), r_ct_37 n (by omega) (f := L) mS_eq (by omega)]
    exact Cl_fault hC (FX2_refl x) (by omega) rfl rfl (FM2_trans (FM2_8 _ _) (FM2_7 _ _)) (by rw [mS_eq, hL0])
  · have hL1 : 0 < L := by omega
    rw [r_take n hr0 mS_eq hL1, bnd_s]
    have h71 : mS (mS M 8 0 (nI 0)) 8 0 (nI (0 + 1)) 7 0 = -1 := by rw [mS_ne (by omega)]; exact h70
    have m81 : mS (mS M 8 0 (nI 0)) 8 0 (nI (0 + 1)) 8 0 = nI 1 := mS_eq
    have fm1 : FM2 M (mS (mS M 8 0 (nI 0)) 8 0 (nI (0 + 1))) := FM2_trans (FM2_8 _ _) (FM2_8 _ _)
    have e5 : mS (mS M 8 0 (nI 0)) 8 0 (nI (0 + 1)) 5 = M 5 := by rw [mS_o (by omega), mS_o (by omega)]
    have e9 : mS (mS M 8 0 (nI 0)) 8 0 (nI (0 + 1)) 9 = M 9 := by rw [mS_o (by omega), mS_o (by omega)]
    generalize mS (mS M 8 0 (nI 0)) 8 0 (nI (0 + 1)) = M1 at h71 m81 fm1 e5 e9
    rw [show ∀ K : Int32 → Option (Int32 × MR), gf M1 7 K = K (-1) from fun K => by unfold gf; rw [h71], if_neg (show ¬ (0 : Int32) ≤ -1 by decide)]
    have cC : CR (mS S.1 14 0 (nI 1), S.2) (pv x 14 0 (nI 1)) := CR_pv (by decide) hC
    have cF : FX2 x (pv x 14 0 (nI 1)) := FX2_14 x 14 (Or.inl rfl) _
    have cW : im (pv x 14 0 (nI 1)) = im x := FX2_im cF
    have c6 : (pv x 14 0 (nI 1)).1 6 0 = nI L := by rw [pv_o (by omega)]; exact l2
    have c12 : (pv x 14 0 (nI 1)).1 12 = x.1 12 := pv_o (by omega)
    have cR : Rd (pv x 14 0 (nI 1)) M1 L := Rd_c hr cF fm1 (pv_o (by omega)) (pv_o (by omega)) e5 e9
    have cN : NwR (pv x 14 0 (nI 1)) := cR.2.2.2.1
    have m0 : M1 0 = M 0 := fm1 0 (by omega) (by omega) (by omega) (by omega)
    by_cases hm1 : x.1 12 0 = -1
    · have e : f1_readParent n S = some (nI 1, (mS S.1 14 0 (nI 1), S.2)) := by
        unfold f1_readParent f1_isThere
        rw [xcg hC (by decide), l2, if_neg (nI_ge hL1 (by omega)), x_textAt n hC l2 l1 hL1, bnd_s, hm1, if_neg (by decide), x_textAt n hC l2 l1 hL1, bnd_s, hm1, if_neg (by decide), zt_1, bnd_s, if_neg n1_0]
        rw [cp_e]
        rw [x_textAt n cC c6 l1 hL1, bnd_s, c12, if_pos hm1, zt_1]
      rw [e, bnd_s, if_neg n1_0, hm1, if_pos rfl]
      refine Cl_trans (j_flds n hn cC (by rw [cW]; exact hW) (by rw [cW, m0]; exact hR) cR h71 pv_e m81 (by omega) (fun i _ i2 => by rw [c12, pv_o (by omega)]; exact hb i i2) h00 h0 ⟨?_, Or.inl ?_⟩) cF fm1
      · rw [pv_o (by omega), pv_o (by omega), hb 0 hL1, hm1]; exact h8
      · rw [pv_o (by omega), hb 0 hL1, hm1]
    · rw [if_neg hm1]
      by_cases hst : stf (im x) (x.1 12 0) 1
      · obtain ⟨j, e, hj, he, hk, hb1, hb2⟩ := id hst
        obtain ⟨S2, b1, b2⟩ := x_bind n cC cN c6 l1 hL1 hj (by rw [c12]; exact hk)
        have hbv : (bdx (pv x 14 0 (nI 1)) 0 j).1 13 0 = nI e := by rw [bdx_13, if_pos rfl, cW]; exact hb1
        have eP : f1_readParent n S = some (nI 1, (mS S2.1 8 0 (nI e), S2.2)) := by
          unfold f1_readParent f1_isThere
          rw [xcg hC (by decide), l2, if_neg (nI_ge hL1 (by omega)), x_textAt n hC l2 l1 hL1, bnd_s, hk, if_neg (by rw [Int32.not_lt]; exact m1_le j (by omega)), x_textAt n hC l2 l1 hL1, bnd_s, hk, if_neg (nI_nlt (by omega) (by omega)), zt_1, bnd_s, if_neg n1_0]
          rw [cp_e]
          rw [x_textAt n cC c6 l1 hL1, bnd_s, c12, if_neg hm1, x_textAt n cC c6 l1 hL1, bnd_s, c12, x_stands_t n cC cN (by rw [cW]; omega) (by rw [cW]; exact hst), bnd_s, if_neg n1_0, b1, bnd_s]
          unfold f1_boundAt
          rw [if_neg (nI_pos (by omega)), if_neg (nI_ge (by omega) (by omega)), xcr b2 (by decide) (by omega) (by decide), hbv, bnd_s, cp_e, zt_1]
        rw [eP, bnd_s, if_neg n1_0, hk, r_means_t n (x := x) (by rw [m0]; exact hR) hW (by omega) hj he hb1 hb2, bnd_s, if_neg n1_0]
        have fx : FX2 x (pv (bdx (pv x 14 0 (nI 1)) 0 j) 8 0 (nI e)) := FX2_trans cF (FX2_trans (FX2_of (FX_bd _ _ _)) (FX2_14 _ 8 (Or.inr (Or.inl rfl)) _))
        have hw := FX2_im fx
        have fm : FM2 M (bdM M1 0 e) := FM2_trans fm1 (FM2_of (FM_bd _ _ _))
        have rb : Rd (bdx (pv x 14 0 (nI 1)) 0 j) (bdM M1 0 e) L := Rd_bind (by rw [cW]; exact hW) cR hL1 hj (by rw [cW]; exact he) (by rw [cW]; exact hb1)
        have rb2 : Rd (pv (bdx (pv x 14 0 (nI 1)) 0 j) 8 0 (nI e)) (bdM M1 0 e) L := Rd_c rb (FX2_14 _ 8 (Or.inr (Or.inl rfl)) _) (FM2_refl _) (pv_o (by omega)) (pv_o (by omega)) rfl rfl
        have q13 : ∀ i, 1 ≤ i → (pv (bdx (pv x 14 0 (nI 1)) 0 j) 8 0 (nI e)).1 13 i = x.1 13 i := fun i hi => by rw [pv_o (by omega), bdx_13, if_neg (by omega), pv_o (by omega)]
        refine Cl_trans (j_flds n hn (CR_pv (by decide) b2) (by rw [hw]; exact hW) (by rw [hw, fm 0 (by omega) (by omega) (by omega) (by omega)]; exact hR) rb2 ?_ ?_ ?_ (by omega) (fun i i1 i2 => by rw [q13 i i1, fx.1 12 (by omega) (by omega) (by omega) (by omega) (by omega)]; exact hb i i2) h00 h0 ⟨?_, Or.inr ⟨e, ?_, ?_⟩⟩) fx fm
        · unfold bdM; rw [mS_ne (by omega), mS_ne (by omega)]; exact h71
        · rw [pv_o (by omega), (FX_bd _ _ _).1 14 (by omega) (by omega)]; exact pv_e
        · unfold bdM; rw [mS_ne (by omega), mS_ne (by omega)]; exact m81
        · rw [pv_e, pv_o (by omega), hbv]
        · rw [pv_o (by omega), hbv]
        · rw [hw]; exact ⟨he, hb2⟩
      · rw [r_means_f n (x := x) (by rw [m0]; exact hR) hW hst, bnd_s, if_pos n0_0, r_wrong n h71, bnd_s, r_ct_37 n (by omega) (f := 0) mS_eq (by omega)]
        have eP : ∃ S', f1_readParent n S = some (nI 0, S') ∧ ∃ x', CR S' x' ∧ FX2 x x' := by
          unfold f1_readParent f1_isThere
          rw [xcg hC (by decide), l2, if_neg (nI_ge hL1 (by omega)), x_textAt n hC l2 l1 hL1, bnd_s]
          by_cases c1 : x.1 12 0 < -1
          · rw [if_pos c1, zt_0, bnd_s, if_pos n0_0, zt_0]
            exact ⟨S, rfl, x, hC, FX2_refl x⟩
          · rw [if_neg c1, x_textAt n hC l2 l1 hL1, bnd_s]
            by_cases c2 : nI 15 < x.1 12 0
            · rw [if_pos c2, zt_0, bnd_s, if_pos n0_0, zt_0]
              exact ⟨S, rfl, x, hC, FX2_refl x⟩
            · rw [if_neg c2, zt_1, bnd_s, if_neg n1_0]
              refine ⟨(mS S.1 14 0 (nI 1), S.2), ?_, _, cC, cF⟩
              rw [cp_e]
              rw [x_textAt n cC c6 l1 hL1, bnd_s, c12, if_neg hm1, x_textAt n cC c6 l1 hL1, bnd_s, c12, x_stands_f n cC cN (by rw [cW]; exact hW) (by rw [cW]; exact hst), bnd_s, if_pos n0_0, zt_0]
        obtain ⟨S', eP, x', hC', hF'⟩ := eP
        rw [eP, bnd_s, if_pos n0_0]
        exact Cl_fault hC' hF' (by omega) rfl rfl (FM2_trans fm1 (FM2_7 _ _)) mS_eq
end CTX
