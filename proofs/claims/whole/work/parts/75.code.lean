-- ===== a text is read =====
def nmn (B : Im) (e : Nat) : Nat := (bed B e 0).toNatClampNeg
def lnd (B : Im) (u : Int32) (e : Nat) : Bool := decide (e < bE B) && decide (bnw B (nmn B e) = nI e) && ub u (nmn B e)
def NwR (x : X) : Prop := ∀ j, j < 16 → x.1 10 j = bnw (im x) j ∧ ∀ e, e < bE (im x) → bnw (im x) j = nI e → x.1 11 j = bed (im x) e 2
def Rd (x : X) (M : MR) (L : Nat) : Prop := (L ≤ 60 ∧ x.1 6 0 = nI L ∧ M 6 0 = nI L) ∧ (∀ i, i < L → M 4 i = x.1 12 i) ∧ (∀ i, i < L → M 5 i = x.1 13 i) ∧ NwR x ∧ ∀ e, e < 150 → M 9 e = if lnd (im x) (x.1 7 0) e = true then nI 1 else nI 0
def stf (B : Im) (k : Int32) (s : Nat) : Prop := ∃ j e, j < 16 ∧ e < bE B ∧ k = nI j ∧ bnw B j = nI e ∧ bed B e 2 = nI s
def FX (x x' : X) : Prop := (∀ a, a ≠ 13 → a ≠ 7 → x'.1 a = x.1 a) ∧ x'.2 = x.2
def FM (M M' : MR) : Prop := ∀ a, a ≠ 5 → a ≠ 7 → a ≠ 9 → M' a = M a
theorem FX_refl (x : X) : FX x x := ⟨fun _ _ _ => rfl, rfl⟩
theorem FX_trans {x x' x'' : X} (h : FX x x') (h' : FX x' x'') : FX x x'' := ⟨fun a a1 a2 => (h'.1 a a1 a2).trans (h.1 a a1 a2), h'.2.trans h.2⟩
theorem FM_refl (M : MR) : FM M M := fun _ _ _ _ => rfl
theorem FM_trans {x x' x'' : MR} (h : FM x x') (h' : FM x' x'') : FM x x'' := fun a a1 a2 a3 => (h' a a1 a2 a3).trans (h a a1 a2 a3)
theorem FX_im {x x' : X} (h : FX x x') : im x' = im x := by
  unfold im
  rw [h.2, h.1 20 (by omega) (by omega)]
def bdx (x : X) (p j : Nat) : X := pv (pv x 13 p (bnw (im x) j)) 7 0 (x.1 7 0 ||| (nI 1 <<< (nI j &&& 31)))
def bdM (M : MR) (p e : Nat) : MR := mS (mS M 9 e (nI 1)) 5 p (nI e)
theorem FX_bd (x : X) (p j : Nat) : FX x (bdx x p j) := by
  refine ⟨fun a a1 a2 => ?_, rfl⟩
  show mS (mS x.1 13 p _) 7 0 _ a = _
  rw [mS_o a2, mS_o a1]
theorem FM_bd (M : MR) (p e : Nat) : FM M (bdM M p e) := fun a a1 a2 a3 => by
  unfold bdM
  rw [mS_o a1, mS_o a3]
section RDS
variable {S : CS} {x : X} {M : MR} {L : Nat} (n : Nat)
theorem x_textAt (h : CR S x) (hL : x.1 6 0 = nI L) (hL6 : L ≤ 60) {p : Nat} (hp : p < L) : f1_textAt n (nI p) S = some (x.1 12 p, S) := by
  unfold f1_textAt
  simp (disch := omega) only [bnd_s, xg0 _ h, xg1 _ h, xg2 _ h, xg3 _ h, xg4 _ h, xg5 _ h, xg6 _ h, xg7 _ h, xz0 _ h, xz1 _ h, xz2 _ h, xz3 _ h, xz4 _ h, xz5 _ h, xz6 _ h, xz7 _ h, xh5 _ h, xh6 _ h, xh7 _ h, xcg h, xcr h, nI_add, pk_mul, Nat.add_zero, zt_0, zt_1, y_lt, y_nlt, y_le, y_nle, y_ne, y_eq, y_n0, y_00, y_l0, y_0l, y_le0, y_m1, y_m1', y_ml, y_m0, y_0m, y_mm, y_lem, y_mle, ↓reduceIte, if_true, if_false, hL]
theorem x_stands_t (h : CR S x) (hN : NwR x) (hE : bE (im x) ≤ 150) {k : Int32} {s : Nat} (hs : stf (im x) k s) : f1_standsFor n k (nI s) S = some (nI 1, S) := by
  obtain ⟨j, e, hj, he, rfl, h1, h2⟩ := hs
  obtain ⟨q1, q2⟩ := hN j hj
  unfold f1_standsFor
  simp (disch := omega) only [bnd_s, xg0 _ h, xg1 _ h, xg2 _ h, xg3 _ h, xg4 _ h, xg5 _ h, xg6 _ h, xg7 _ h, xz0 _ h, xz1 _ h, xz2 _ h, xz3 _ h, xz4 _ h, xz5 _ h, xz6 _ h, xz7 _ h, xh5 _ h, xh6 _ h, xh7 _ h, xcg h, xcr h, nI_add, pk_mul, Nat.add_zero, zt_0, zt_1, y_lt, y_nlt, y_le, y_nle, y_ne, y_eq, y_n0, y_00, y_l0, y_0l, y_le0, y_m1, y_m1', y_ml, y_m0, y_0m, y_mm, y_lem, y_mle, ↓reduceIte, if_true, if_false, q1, h1, q2 e he h1, h2]
theorem x_stands_f (h : CR S x) (hN : NwR x) (hW : WF (im x)) {k : Int32} {s : Nat} (hs : ¬ stf (im x) k s) : f1_standsFor n k (nI s) S = some (nI 0, S) := by
  have hB := hW.1
  unfold f1_standsFor
  rcases i_cases k with hk | ⟨j, hj0, rfl⟩
  · rw [if_pos hk, zt_0]
  · by_cases hj : j < 16
    · obtain ⟨q1, q2⟩ := hN j hj
      simp (disch := omega) only [bnd_s, xg0 _ h, xg1 _ h, xg2 _ h, xg3 _ h, xg4 _ h, xg5 _ h, xg6 _ h, xg7 _ h, xz0 _ h, xz1 _ h, xz2 _ h, xz3 _ h, xz4 _ h, xz5 _ h, xz6 _ h, xz7 _ h, xh5 _ h, xh6 _ h, xh7 _ h, xcg h, xcr h, nI_add, pk_mul, Nat.add_zero, zt_0, zt_1, y_lt, y_nlt, y_le, y_nle, y_ne, y_eq, y_n0, y_00, y_l0, y_0l, y_le0, y_m1, y_m1', y_ml, y_m0, y_0m, y_mm, y_lem, y_mle, ↓reduceIte, if_true, if_false, q1]
      rcases hW.2.2.2.2 j hj with q | ⟨e, he, q, _⟩
      · rw [if_pos q]
      · rw [if_neg (by rw [q]; exact fun w => m1_n e (by omega) w.symm), q2 e he q, if_neg (fun w => hs ⟨j, e, hj, he, rfl, q, w⟩)]
    · simp (disch := omega) only [y_lt, y_nlt, y_le, y_nle, y_ne, y_eq, y_n0, y_00, y_l0, y_0l, y_le0, y_m1, y_m1', y_ml, y_m0, y_0m, y_mm, y_lem, y_mle, ↓reduceIte, if_true, if_false, zt_0]
theorem r_means_t (hR : RelI (im x) (M 0)) (hW : WF (im x)) {p j e s : Nat} (hp : p < 60) (hj : j < 16) (he : e < bE (im x)) (h1 : bnw (im x) j = nI e) (h2 : bed (im x) e 2 = nI s) : fR_means n (nI p) (nI j) (nI s) M = some (nI 1, bdM M p e) := by
  have hB := hW.1
  unfold fR_means bdM
  rw [r_newest n M hj, hR.1.2.2.2 j hj, p1_m1, h1, bnd_s, if_neg (nI_pos (by omega)), r_editAt, bnd_s, nI_add, rd_at (by omega) (by decide), ri_e1 hR he, h2, if_pos rfl, wz_at bo_1 (by omega) (by decide), wr_at (by omega) (by decide), zt_1]
theorem r_means_f (hR : RelI (im x) (M 0)) (hW : WF (im x)) {k p : Int32} {s : Nat} (hs : ¬ stf (im x) k s) : fR_means n p k (nI s) M = some (nI 0, M) := by
  have hB := hW.1
  unfold fR_means
  by_cases ho : k < 0 ∨ nI 16 ≤ k
  · rw [r_newest_o n M ho, bnd_s, if_pos m1_lt, zt_0]
  · rcases i_cases k with hb | ⟨j, hj0, rfl⟩
    · exact absurd (Or.inl hb) ho
    have hj : j < 16 := Nat.lt_of_not_le (fun hh => ho (Or.inr (nI_le hh hj0)))
    rw [r_newest n M hj, hR.1.2.2.2 j hj, p1_m1, bnd_s]
    rcases hW.2.2.2.2 j hj with q | ⟨e, he, q, _⟩
    · rw [q, if_pos m1_lt, zt_0]
    · rw [q, if_neg (nI_pos (by omega)), r_editAt, bnd_s, nI_add, rd_at (by omega) (by decide), ri_e1 hR he, if_neg (fun w => hs ⟨j, e, hj, he, rfl, q, w⟩), zt_0]
theorem x_bind (h : CR S x) (hN : NwR x) (hL : x.1 6 0 = nI L) (hL6 : L ≤ 60) {p j : Nat} (hp : p < L) (hj : j < 16) (ht : x.1 12 p = nI j) : Ru (f1_bind n (nI p) S) 0 (fun S' => CR S' (bdx x p j)) := by
  unfold f1_bind
  simp (disch := omega) only [x_textAt n h hL hL6 hp, ht, bnd_s, k_isName' n S (show j < 2147483648 by omega), if_pos hj, y_lt, y_nlt, y_le, y_nle, y_ne, y_eq, y_n0, y_00, y_l0, y_0l, y_le0, y_m1, y_m1', y_ml, y_m0, y_0m, y_mm, y_lem, y_mle, ↓reduceIte, if_true, if_false]
  refine Rc_cr (by decide) (by decide) h hj ?_
  rw [(hN j hj).1]
  refine Rc_cw (by decide) (by decide) h (show p < 60 by omega) (fun S1 h1 => ?_)
  refine Rc_cg (by decide) h1 ?_
  exact Rc_cp (by decide) h1 (fun S2 h2 => Ru_some h2)
theorem Rd_bind (hW : WF (im x)) (hr : Rd x M L) {p j e : Nat} (hp : p < L) (hj : j < 16) (he : e < bE (im x)) (h1 : bnw (im x) j = nI e) : Rd (bdx x p j) (bdM M p e) L := by
  have hB := hW.1
  have hi : im (bdx x p j) = im x := FX_im (FX_bd x p j)
  have hx : ∀ a, a ≠ 13 → a ≠ 7 → (bdx x p j).1 a = x.1 a := (FX_bd x p j).1
  have hm : ∀ a, a ≠ 5 → a ≠ 7 → a ≠ 9 → bdM M p e a = M a := FM_bd M p e
  obtain ⟨⟨a1, a2, a3⟩, a4, a5, a6, a7⟩ := hr
  have hu : (bdx x p j).1 7 0 = (x.1 7 0 ||| (nI 1 <<< (nI j &&& 31))) := by show mS (mS x.1 13 p (bnw (im x) j)) 7 0 (x.1 7 0 ||| (nI 1 <<< (nI j &&& 31))) 7 0 = _; exact mS_eq
  refine ⟨⟨a1, by rw [hx 6 (by omega) (by omega)]; exact a2, by rw [hm 6 (by omega) (by omega) (by omega)]; exact a3⟩, fun i hi => ?_, fun i hi => ?_, fun j' hj' => ?_, fun e' he' => ?_⟩
  · rw [hx 12 (by omega) (by omega), hm 4 (by omega) (by omega) (by omega)]; exact a4 i hi
  · show mS (mS M 9 e (nI 1)) 5 p (nI e) 5 i = mS (mS x.1 13 p (bnw (im x) j)) 7 0 (x.1 7 0 ||| (nI 1 <<< (nI j &&& 31))) 13 i
    rw [mS_ne (show (13 : Nat) ≠ 7 by decide)]
    by_cases hip : i = p
    · subst hip; rw [mS_eq, mS_eq, h1]
    · rw [mS_ne2 hip, mS_ne2 hip, mS_ne (show (5 : Nat) ≠ 9 by decide)]; exact a5 i hi
  · rw [hi, hx 10 (by omega) (by omega), hx 11 (by omega) (by omega)]; exact a6 j' hj'
  · rw [hi, hu]
    show mS (mS M 9 e (nI 1)) 5 p (nI e) 9 e' = _
    rw [mS_ne (show (9 : Nat) ≠ 5 by decide)]
    obtain ⟨e2, hq1, hq2, hq3⟩ := (hW.2.2.2.2 j hj).resolve_left (by rw [h1]; exact fun w => m1_n e (by omega) w.symm)
    have : e2 = e := by
      rw [h1, nI_eq (by omega) (by omega)] at hq2
      exact hq2.symm
    subst this
    have hnm : nmn (im x) e2 = j := by unfold nmn; rw [hq3, nI_clamp (by omega)]
    by_cases hee : e' = e2
    · subst hee
      rw [mS_eq, if_pos]
      unfold lnd
      rw [hnm, ub_or hj hj]
      simp [he, h1]
    · rw [mS_ne2 hee, a7 e' he']
      have : lnd (im x) (x.1 7 0 ||| (nI 1 <<< (nI j &&& 31))) e' = lnd (im x) (x.1 7 0) e' := by
        unfold lnd
        by_cases q1 : e' < bE (im x)
        · by_cases q2 : bnw (im x) (nmn (im x) e') = nI e'
          · have hj' : nmn (im x) e' < 16 := by
              obtain ⟨⟨j', w1, w2⟩, _⟩ := hW.2.2.1 e' q1
              unfold nmn; rw [w2, nI_clamp (by omega)]; exact w1
            have hne : nmn (im x) e' ≠ j := fun w => by
              rw [w, h1, nI_eq (by omega) (by omega)] at q2
              exact hee q2.symm
            rw [ub_or hj hj']
            simp [hne]
          · simp [q2]
        · simp [q1]
      rw [this]
end RDS
-- ===== one act =====
def imI (b : Bool) : Int32 := if b = true then nI 1 else nI 0
def okP (a h p en : Nat) (b : Bool) : Prop := tks a ≤ h ∧ (a ≤ 7 → p + 1 < en) ∧ (a = 16 ∨ a = 17 → b = true)
theorem tks_le (a : Nat) : tks a ≤ 3 := by
  unfold tks
  repeat' split
  all_goals omega
section ACT
variable {S : CS} {x : X} {M : MR} {L : Nat} (n : Nat)
theorem r_act_pre {a h p en : Nat} {b : Bool} (ha : a ≤ 18) (hp : p + 1 < 61) (he : en ≤ 60) (hh : h ≤ 60) (hpe : p < en) (ht : M 4 p = nI a) : (okP a h p en b → fR_isActRight n (nI p) (nI en) (nI h) (imI b) M = fR_isActRight_b85 n (nI p) (nI a) (if a ≤ 7 then M 4 (p + 1) else nI 0) M) ∧ (¬ okP a h p en b → fR_isActRight n (nI p) (nI en) (nI h) (imI b) M = some (nI 0, M)) := by
  have ht3 := tks_le a
  unfold fR_isActRight
  rw [rd_at (by omega) (by decide), ht, if_neg (nI_pos (by omega)), if_neg (nI_nlt (by omega) (by omega)), r_hasInt n M ha, bnd_s]
  by_cases h7 : a ≤ 7
  · rw [if_pos h7, if_neg n1_0, if_pos h7, nI_add]
    by_cases hq : p + 1 < en
    · rw [if_neg (nI_ge hq (by omega))]
      unfold fR_isActRight_b35 fR_isActRight_b65
      rw [r_takes n M ha, bnd_s]
      by_cases hk : tks a ≤ h
      · rw [if_neg (nI_nlt hk (by omega)), if_neg (fun w => absurd ((nI_eq (by omega) (by omega)).mp w) (by omega)), if_neg (fun w => absurd ((nI_eq (by omega) (by omega)).mp w) (by omega)), r_hasInt n M ha, bnd_s, if_pos h7, if_neg n1_0, nI_add, rd_at (by omega) (by decide)]
        exact ⟨fun _ => rfl, fun w => absurd ⟨hk, fun _ => hq, fun w => by omega⟩ w⟩
      · rw [if_pos (nI_lt (by omega) (by omega)), zt_0]
        exact ⟨fun w => absurd w.1 hk, fun _ => rfl⟩
    · rw [if_pos (nI_le (by omega) (by omega)), zt_0]
      exact ⟨fun w => absurd (w.2.1 h7) hq, fun _ => rfl⟩
  · rw [if_neg h7, if_pos n0_0, if_neg h7]
    unfold fR_isActRight_b35 fR_isActRight_b58 fR_isActRight_b65
    rw [r_takes n M ha, bnd_s]
    by_cases hk : tks a ≤ h
    · rw [if_neg (nI_nlt hk (by omega)), r_hasInt n M ha, bnd_s, if_neg h7, if_pos n0_0]
      by_cases h16 : a = 16 ∨ a = 17
      · have e : ∀ X Y Z : Option (Int32 × MR), (if nI a = nI 16 then X else if nI a = nI 17 then X else Z) = X := by
          intro X Y Z
          rcases h16 with rfl | rfl
          · rw [if_pos rfl]
          · rw [if_neg (fun w => absurd ((nI_eq (by omega) (by omega)).mp w) (by omega)), if_pos rfl]
        rw [e _ (none)]
        cases b with
        | true =>
          rw [show imI true = nI 1 from rfl, if_neg n1_0]
          exact ⟨fun _ => rfl, fun w => absurd ⟨hk, fun q => by omega, fun _ => rfl⟩ w⟩
        | false =>
          rw [show imI false = nI 0 from rfl, if_pos n0_0, zt_0]
          exact ⟨fun w => absurd (w.2.2 h16) (by simp), fun _ => rfl⟩
      · rw [if_neg (fun w => absurd ((nI_eq (by omega) (by omega)).mp w) (by omega)), if_neg (fun w => absurd ((nI_eq (by omega) (by omega)).mp w) (by omega))]
        exact ⟨fun _ => rfl, fun w => absurd ⟨hk, fun q => by omega, fun q => absurd q h16⟩ w⟩
    · rw [if_pos (nI_lt (by omega) (by omega)), zt_0]
      exact ⟨fun w => absurd w.1 hk, fun _ => rfl⟩
theorem x_act_pre {a h p en i k : Nat} {b : Bool} (hC : CR S x) (hL : x.1 6 0 = nI L) (hL6 : L ≤ 60) (ha : a ≤ 18) (he : en ≤ L) (hh : h ≤ 60) (hpe : p < en) (hi : i < 60) (ht : x.1 12 p = nI a) : (okP a h p en b → f1_codeFault_l9 n (k + 1) (nI en) (imI b) (nI p) (nI h) (nI i) S = if 8 ≤ a then f1_codeFault_b122 n (f1_codeFault_l9 n k) (nI en) (imI b) (nI p) (nI h) (nI i) (nI a) (nI (p + sz a)) S else bnd (f1_isIntRight n (nI a) (x.1 12 (p + 1)) S) fun v3 S3 => if v3 = 0 then some (nI p, S3) else f1_codeFault_b122 n (f1_codeFault_l9 n k) (nI en) (imI b) (nI p) (nI h) (nI i) (nI a) (nI (p + sz a)) S3) ∧ (¬ okP a h p en b → f1_codeFault_l9 n (k + 1) (nI en) (imI b) (nI p) (nI h) (nI i) S = some (nI p, S)) := by
  have ht3 := tks_le a
  have hsz : sz a = if a ≤ 7 then 2 else 1 := rfl
  rw [f1_codeFault_l9, if_neg (nI_ge hi (by omega)), if_neg (nI_ge hpe (by omega)), x_textAt n hC hL hL6 (show p < L by omega), bnd_s, ht, if_neg (nI_pos (by omega)), if_neg (show ¬ (19 : Int32) ≤ nI a by rw [show (19 : Int32) = nI 19 by decide]; exact nI_ge (by omega) (by omega)), tkr_at ha]
  by_cases hk : tks a ≤ h
  · rw [if_pos (nI_le hk (by omega))]
    by_cases h16 : a = 16 ∨ a = 17
    · cases b with
      | true =>
        rw [show imI true = nI 1 from rfl, if_neg n1_0]
        unfold f1_codeFault_b79 f1_sizeOf
        rw [if_pos (nI_le (by omega) (by omega)), bnd_s, nI_add, if_neg (nI_nlt (by omega) (by omega)), if_pos (nI_le (by omega) (by omega)), hsz, if_neg (show ¬ a ≤ 7 by omega), if_pos (show 8 ≤ a by omega)]
        exact ⟨fun _ => rfl, fun w => absurd ⟨hk, fun q => by omega, fun _ => rfl⟩ w⟩
      | false =>
        rw [show imI false = nI 0 from rfl, if_pos n0_0]
        have e : ∀ X Z : Option (Int32 × CS), (if nI a = nI 16 then X else if nI a = nI 17 then X else Z) = X := by
          intro X Z
          rcases h16 with rfl | rfl
          · rw [if_pos rfl]
          · rw [if_neg (fun w => absurd ((nI_eq (by omega) (by omega)).mp w) (by omega)), if_pos rfl]
        rw [e]
        exact ⟨fun w => absurd (w.2.2 h16) (by simp), fun _ => rfl⟩
    · rw [if_neg (show ¬ nI a = nI 16 from fun w => absurd ((nI_eq (by omega) (by omega)).mp w) (by omega)), if_neg (show ¬ nI a = nI 17 from fun w => absurd ((nI_eq (by omega) (by omega)).mp w) (by omega))]
      rw [show ∀ X : Option (Int32 × CS), (if imI b = 0 then X else X) = X from fun X => by split <;> rfl]
      unfold f1_codeFault_b79 f1_sizeOf
      by_cases h7 : a ≤ 7
      · rw [if_neg (nI_ge (show a < 8 by omega) (by omega)), bnd_s, nI_add, nI_add, hsz, if_pos h7]
        by_cases hq : p + 1 < en
        · rw [if_neg (nI_nlt (by omega) (by omega)), if_neg (nI_ge (show a < 8 by omega) (by omega)), x_textAt n hC hL hL6 (show p + 1 < L by omega), bnd_s, if_neg (show ¬ 8 ≤ a by omega)]
          exact ⟨fun _ => rfl, fun w => absurd ⟨hk, fun q => hq, fun q => absurd q h16⟩ w⟩
        · rw [if_pos (nI_lt (by omega) (by omega))]
          exact ⟨fun w => absurd (w.2.1 h7) hq, fun _ => rfl⟩
      · rw [if_pos (nI_le (show 8 ≤ a by omega) (by omega)), bnd_s, nI_add, hsz, if_neg h7, if_neg (nI_nlt (by omega) (by omega)), if_pos (nI_le (show 8 ≤ a by omega) (by omega)), if_pos (show 8 ≤ a by omega)]
        exact ⟨fun _ => rfl, fun w => absurd ⟨hk, fun q => by omega, fun q => absurd q h16⟩ w⟩
  · rw [if_neg (nI_ge (by omega) (by omega))]
    exact ⟨fun w => absurd w.1 hk, fun _ => rfl⟩
end ACT
