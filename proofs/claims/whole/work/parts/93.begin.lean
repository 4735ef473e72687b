theorem cnt_dec {P P' : Nat → Bool} {s : Nat} (h1 : P s = true) (h2 : P' s = false) (h3 : ∀ i, i ≠ s → P' i = P i) : ∀ m, s < m → cnt P' m + 1 = cnt P m
  | 0, h => by omega
  | m + 1, h => by
    by_cases hm : m = s
    · subst hm
      rw [cnt_t h1, cnt_f (by rw [h2]; simp), cnt_congr m (fun i hi => h3 i (by omega))]
    · have ih := cnt_dec h1 h2 h3 m (by omega)
      rw [cnt, cnt, h3 m hm]
      omega
def zc (B : Im) : Nat := cnt (fun e => decide (bed B e 6 = nI 0)) (bE B)
theorem zc_set {B : Im} {s : Nat} (hs : s < bE B) (h : bed B s 6 = nI 0) : zc (sE B s 6 (nI 1)) + 1 = zc B := by
  refine cnt_dec (s := s) (decide_eq_true h) ?_ (fun i hi => ?_) _ hs
  · show decide (st2 (bed B) s 6 (nI 1) s 6 = nI 0) = false
    rw [st2_eq]; decide
  · show decide (st2 (bed B) s 6 (nI 1) i 6 = nI 0) = _
    rw [st2_ne (Or.inl hi)]
theorem par_set {B : Im} {s e : Nat} {w : Int32} : par (sE B s 6 w) e = par B e := by
  unfold par
  rw [show bed (sE B s 6 w) e 5 = bed B e 5 from st2_ne (Or.inr (by decide))]
theorem brk_set {B : Im} {s : Nat} (h : bed B s 6 = nI 0) : ∀ k e, brkB (sE B s 6 (nI 1)) k e = brkB B k e
  | 0, _ => rfl
  | k + 1, e => by
    rw [brkB, brkB, par_set]
    have e2 : (bed (sE B s 6 (nI 1)) e 6 = nI 2) ↔ (bed B e 6 = nI 2) := by
      show st2 (bed B) s 6 (nI 1) e 6 = nI 2 ↔ _
      by_cases he : e = s
      · subst he
        rw [st2_eq, h]; decide
      · rw [st2_ne (Or.inl he)]
    by_cases h2 : bed B e 6 = nI 2
    · rw [if_pos h2, if_pos (e2.mpr h2)]
    · rw [if_neg h2, if_neg (fun w => h2 (e2.mp w))]
      cases par B e with
      | none => rfl
      | some p => exact brk_set h k p
theorem nxt_zero {B : Im} {b p : Nat} (h : nxt B (b + 1) p = none) : ¬ bed B p 6 = nI 0 := by
  intro w
  rw [nxt] at h
  split at h
  · exact absurd h (by simp)
  · rw [if_pos w] at h; exact absurd h (by simp)
theorem nxt_some {B : Im} (hW : WF B) : ∀ b e s, e ≤ b → e < bE B → cls B e → nxt B (b + 1) e = some s → s ≤ e ∧ cls B s ∧ bed B s 6 = nI 0 ∧ ∀ p, p < bE B → bed B s 5 = nI p → ¬ bed B p 6 = nI 0 := by
  have hB := hW.1
  have self : ∀ b e, e < bE B → cls B e → (∀ p', par B e = some p' → nxt B (b + 1) p' = none) → ∀ p, p < bE B → bed B e 5 = nI p → ¬ bed B p 6 = nI 0 := by
    intro b e heB hc hm p hp h5
    cases hpe : par B e with
    | none =>
      rw [wf_ni hW heB hc, hpe] at h5
      exact absurd h5 (m1_n p (by omega))
    | some p' =>
      have hm := hm p' hpe
      have h5' : bed B e 5 = nI p' := by rw [wf_ni hW heB hc, hpe]; rfl
      have h6 := (wf_par hW e p' heB hc hpe).1
      rw [h5', nI_eq (by omega) (by omega)] at h5
      subst h5
      exact nxt_zero hm
  intro b
  induction b with
  | zero =>
    intro e s he heB hc h
    have hp : par B e = none := by
      cases hp : par B e with
      | none => rfl
      | some p => exact absurd (wf_par hW e p heB hc hp).1 (by omega)
    have sf := self 0 e heB hc (fun p' w => by rw [hp] at w; exact absurd w (by simp))
    rw [nxt, hp] at h
    by_cases h0 : bed B e 6 = nI 0
    · simp only [h0, if_true] at h
      cases h
      exact ⟨Nat.le_refl _, hc, h0, sf⟩
    · simp [h0] at h
  | succ b ih =>
    intro e s he heB hc h
    rw [nxt] at h
    cases hp : par B e with
    | none =>
      rw [hp] at h
      by_cases h0 : bed B e 6 = nI 0
      · simp only [h0, if_true] at h
        cases h
        exact ⟨Nat.le_refl _, hc, h0, self b e heB hc (fun p' w => by rw [hp] at w; exact absurd w (by simp))⟩
      · simp [h0] at h
    | some p =>
      rw [hp] at h
      dsimp only at h
      obtain ⟨h1, h3⟩ := wf_par hW e p heB hc hp
      cases hq : nxt B (b + 1) p with
      | some q =>
        rw [hq] at h
        cases h
        obtain ⟨a1, a2⟩ := ih p s (by omega) (by omega) h3 hq
        exact ⟨by omega, a2⟩
      | none =>
        rw [hq] at h
        by_cases h0 : bed B e 6 = nI 0
        · simp only [h0, if_true] at h
          cases h
          exact ⟨Nat.le_refl _, hc, h0, self b e heB hc (fun p' w => by rw [hp] at w; cases w; exact hq)⟩
        · simp [h0] at h
section BEG
variable (n : Nat)
/-- the make act, at the top frame of the reference -/
def AtMk (B : Im) (cc fr : Nat → Int32) (M : MR) (t en P e : Nat) : Prop := t < 22 ∧ M 20 0 = nI (t + 1) ∧ M 13 t = fr 0 ∧ M 14 t = nI P ∧ fr 2 = nI en ∧ M 15 t = nI en ∧ P + 2 ≤ en ∧ en ≤ 60 ∧ (fr 0 = -1 → ∀ q, q < 60 → nI q < fr 2 → M 5 q = cc q) ∧ FrK B fr en ∧ txF B cc fr P = nI 2 ∧ txF B cc fr (P + 1) = nI e ∧ M 24 0 = nI 0
theorem AtMk_c {B B' : Im} {cc fr : Nat → Int32} {M M' : MR} {t en P e : Nat} (h : AtMk B cc fr M t en P e) (hs : Ims B B') (hM : ∀ a, a ≠ 0 → a ≠ 22 → a ≠ 23 → M' a = M a) : AtMk B' cc fr M' t en P e := by
  obtain ⟨a1, a2, a3, a4, a5, a6, a7, a8, a9, a10, a11, a12, a13⟩ := h
  unfold AtMk
  rw [hM 20 (by omega) (by omega) (by omega), hM 13 (by omega) (by omega) (by omega), hM 14 (by omega) (by omega) (by omega), hM 15 (by omega) (by omega) (by omega), hM 5 (by omega) (by omega) (by omega), hM 24 (by omega) (by omega) (by omega), txF_m hs]
  exact ⟨a1, a2, a3, a4, a5, a6, a7, a8, a9, FrK_m hs a10, a11, a12, a13⟩
def RW (e k : Nat) (M : MR) : Option (Int32 × MR) := bnd (bnd (fR_make n (nI e) M) fun _ M2 => some ((0 : Int32), M2)) fun _ M3 => fR_work_l15 n k M3
/-- the reference goes on to an act that it does again -/
theorem r_again {x : X} {cc fr : Nat → Int32} {M : MR} {t en P e s k : Nat} (hW : WF (im x)) (hR : RelI (im x) (M 0)) (h : AtMk (im x) cc fr M t en P e) (h22 : M 22 0 = nI 1) (h23 : M 23 0 = nI s) : fR_work_l15 n (k + 1) M = RW n e k (mS (mS M 23 0 (nI s)) 22 0 (nI 0)) := by
  obtain ⟨a1, a2, a3, a4, a5, a6, a7, a8, a9, a10, a11, a12, a13⟩ := id h
  rw [fR_work_l15, gf_e a2, if_neg (nI_nle (by omega) (by omega)), gf_e a13, if_pos n0_0, gf_e a2, pk_sub (by omega), Nat.add_sub_cancel, rd_at a1 (by decide), rd_at a1 (by decide), a4, a6, if_neg (fun w => by rw [nI_eq (by omega) (by omega)] at w; omega), gf_e h22, if_neg n1_0]
  unfold fR_work_b84 fR_work_b101 fR_work_b114
  rw [gf_e h23, gf_e h22, if_neg n1_0, nI_add, Nat.add_zero, pf_e, zt_0, pf_e]
  have hc := AtMk_c (B' := im x) (M' := mS (mS M 23 0 (nI s)) 22 0 (nI 0)) h (Ims_refl _) (fun a a0 a1 a2 => by rw [mS_o a1, mS_o a2])
  obtain ⟨b1, b2, b3, b4, b5, b6, b7, b8, b9, b10, b11, b12, b13⟩ := hc
  rw [r_act n (x := x) hW (by rw [mS_o (by omega), mS_o (by omega)]; exact hR) b1 b2 b3 b4 b5 b9 b10 b8 (show P + sz 2 ≤ en from b7) (by omega) b11, if_pos rfl, b12]
  rfl
theorem j_begin (hn : 1000 ≤ n) {cc fr : Nat → Int32} {t en P e : Nat} : ∀ z i fu (S : CS) (x : X) (M : MR), zc (im x) = z → i + z ≤ 150 → z < fu → CR S x → WF (im x) → RelI (im x) (M 0) → e < bE (im x) → cls (im x) e → AtMk (im x) cc fr M t en P e → (∃ s, M 23 0 = nI s) → M 22 0 = nI 0 → brkB (im x) 151 e = false → ∃ v S' x' M' j, f0_beginUpToStart_l8 n fu (nI e) (orE (nxt (im x) 151 e) (-1)) (nI i) S = some (orE v (-1), S') ∧ CR S' x' ∧ WF (im x') ∧ RelI (im x') (M' 0) ∧ Ims (im x) (im x') ∧ (x'.1 = x.1 ∧ x'.2.1 = x.2.1 ∧ (∀ k, k ≠ 6 → x'.2.2.1 k = x.2.2.1 k) ∧ x'.2.2.2 = x.2.2.2) ∧ ((∀ a, a ≠ 0 → a ≠ 22 → a ≠ 23 → M' a = M a) ∧ M' 23 0 = M 23 0 ∧ M' 22 0 = nI 0 ∧ ∀ i, 20870 ≤ i → M' 0 i = M 0 i) ∧ v = nxt (im x') 151 e ∧ (∀ s, v = some s → bed (im x') s 7 < bed (im x') s 8) ∧ bO (im x') = bO (im x) ∧ zc (im x') + j = z ∧ ∀ k, RW n e (k + j) M = bnd (bnd (mkT n (nI e) (orE v (-1)) M') fun _ M2 => some ((0 : Int32), M2)) fun _ M3 => fR_work_l15 n k M3
  | z, i, fu, S, x, M, hz, hi, hfu, hC, hW, hR, heB, hc, hA, h23, h22, hbr => by
    have hB := hW.1
    obtain ⟨fu, rfl⟩ : ∃ q, fu = q + 1 := ⟨fu - 1, by omega⟩
    have hmk : fR_make n (nI e) M = mkT n (nI e) (orE (nxt (im x) 151 e) (-1)) M := by
      unfold fR_make
      rw [r_mk_o n hW hR 150 e n (-1) (by omega) (by omega) heB hc]
      unfold mkR
      rw [hbr, if_neg (by simp)]
    cases hv : nxt (im x) 151 e with
    | none =>
      refine ⟨none, S, x, M, 0, ?_, hC, hW, hR, Ims_refl _, ⟨rfl, rfl, fun _ _ => rfl, rfl⟩, ⟨fun _ _ _ _ => rfl, rfl, h22, fun _ _ => rfl⟩, hv.symm, fun s hs => by simp at hs, rfl, hz, fun k => ?_⟩
      · rw [show orE none (-1) = (-1 : Int32) from rfl, f0_beginUpToStart_l8]
        split
        · rfl
        · rw [if_pos rfl]
      · unfold RW
        rw [hmk, hv]
        rfl
    | some s =>
      obtain ⟨s1, s2, s3, s4⟩ := nxt_some hW 150 e s (by omega) heB hc hv
      have hsB : s < bE (im x) := by omega
      obtain ⟨nf, nm, l, hcl⟩ := wf_cls hW hsB s2
      have c7 : bed (im x) s 7 = nI (mpl (ett (im x) s) nf nm - 1) := hcl.1.2.2.2.2.1
      have c8 : bed (im x) s 8 = nI l := hcl.1.2.2.2.2.2.1
      have hl60 : l ≤ 60 := hcl.1.2.2.2.2.2.2.2
      have hmp := hcl.1.2.2.2.2.2.2.1
      have hmg := mpl_ge (ett (im x) s) nf nm
      have hzp : 1 ≤ z := by
        have := zc_set hsB s3
        omega
      by_cases hst : mpl (ett (im x) s) nf nm - 1 < l
      · refine ⟨some s, S, x, M, 0, ?_, hC, hW, hR, Ims_refl _, ⟨rfl, rfl, fun _ _ => rfl, rfl⟩, ⟨fun _ _ _ _ => rfl, rfl, h22, fun _ _ => rfl⟩, hv.symm, fun s' hs' => ?_, rfl, hz, fun k => ?_⟩
        · rw [show orE (some s) (-1) = nI s from rfl, f0_beginUpToStart_l8, if_neg (nI_ge (by omega) (by omega)), if_neg (fun w => m1_n s (by omega) w.symm), xg6 n hC hsB (by omega), xg6 n hC hsB (by omega), c7, c8, if_neg (nI_ge hst (by omega))]
        · cases hs'
          rw [c7, c8]; exact nI_lt hst (by omega)
        · unfold RW
          rw [hmk, hv]
          rfl
      · -- a class without a start: it is begun, and on it goes
        have hC1 : CR (tset S 6 s 6 (nI 1)) (st x 6 s 6 (nI 1)) := CR_st (by decide) (show 6 < 104 by decide) hC
        have hi1 : im (st x 6 s 6 (nI 1)) = sE (im x) s 6 (nI 1) := im_st6
        have hs1 : Ims (im x) (im (st x 6 s 6 (nI 1))) := by rw [hi1]; exact Ims_state (by decide)
        have hW1 : WF (im (st x 6 s 6 (nI 1))) := by rw [hi1]; exact WF_state hW hsB (Or.inl rfl) s4
        obtain ⟨q, h23⟩ := h23
        have hR0 : RelI (im (st x 6 s 6 (nI 1))) (uf (M 0) (7220 + 70 * s + 5) (nI 1)) := by rw [hi1]; exact RelI_state hR hW.1 hsB
        have hR3 : RelI (im (st x 6 s 6 (nI 1))) (mS (mS M 0 (7220 + 70 * s + 5) (nI 1)) 22 0 (nI 1) 0) := by rw [mS_o (by omega)]; exact hR0
        have hA3 := AtMk_c (B' := im (st x 6 s 6 (nI 1))) (M' := mS (mS M 0 (7220 + 70 * s + 5) (nI 1)) 22 0 (nI 1)) hA hs1 (fun a a0 a1 a2 => by rw [mS_o a1, mS_o a0])
        have hz1 : zc (im (st x 6 s 6 (nI 1))) = z - 1 := by
          have := zc_set hsB s3
          rw [hi1]; omega
        have hc1 : cls (im (st x 6 s 6 (nI 1))) e := (Ims_Cc hs1 ⟨heB, hc⟩).2
        obtain ⟨v, S', x', M', j, r1, r2, r3, r4, r5, r6, r7, r8, r9, r10, r11, r12⟩ := j_begin hn (cc := cc) (fr := fr) (t := t) (en := en) (P := P) (e := e) (z - 1) (i + 1) fu (tset S 6 s 6 (nI 1)) (st x 6 s 6 (nI 1)) (mS (mS (mS (mS M 0 (7220 + 70 * s + 5) (nI 1)) 22 0 (nI 1)) 23 0 (nI q)) 22 0 (nI 0)) hz1 (by omega) (by omega) hC1 hW1 (by rw [mS_o (by omega), mS_o (by omega)]; exact hR3) heB hc1 (AtMk_c hA3 (Ims_refl _) (fun a a0 a1 a2 => by rw [mS_o a1, mS_o a2])) ⟨q, by rw [mS_ne (by omega), mS_eq]⟩ mS_eq (by rw [hi1, brk_set s3]; exact hbr)
        refine ⟨v, S', x', M', j + 1, ?_, r2, r3, r4, Ims_trans hs1 r5, ⟨r6.1, r6.2.1, fun k hk => (r6.2.2.1 k hk).trans ?_, r6.2.2.2⟩, ⟨fun a a0 a1 a2 => ?_, ?_, r7.2.2.1, fun i hi => ?_⟩, r8, r9, r10, by omega, fun k => ?_⟩
        · rw [show orE (some s) (-1) = nI s from rfl, f0_beginUpToStart_l8, if_neg (nI_ge (by omega) (by omega)), if_neg (fun w => m1_n s (by omega) w.symm), xg6 n hC hsB (by omega), xg6 n hC hsB (by omega), c7, c8, if_pos (nI_le (by omega) (by omega)), b_set n (by decide) (hC.2.1 6 (by decide)) hsB (show 6 < 104 by decide)]
          unfold f0_nextToStart
          rw [x_next n hC1 hW1 150 e n 0 (-1) (by omega) (by omega) (by omega) heB hc1, bnd_s, nI_add]
          exact r1
        · show uf x.2.2.1 6 _ k = _
          rw [uf_ne hk]
        · rw [r7.1 a a0 a1 a2, mS_o a1, mS_o a2, mS_o a1, mS_o a0]
        · rw [r7.2.1, mS_ne (by omega), mS_eq, h23]
        · rw [r7.2.2.2 i hi, mS_ne (by omega), mS_ne (by omega), mS_ne (by omega), mS_ne2 (by omega)]
        · have hT := RE_tx (RE_of hR) hsB s2 hcl
          have hstart : fR_start n (nI s) M = some (0, mS (mS M 0 (7220 + 70 * s + 5) (nI 1)) 22 0 (nI 1)) := by
            unfold fR_start fR_start_b31
            rw [r_startPlace n hn (show s < 150 by omega) hT (cls_text hcl), bnd_s, RE_len n hW (RE_of hR) hsB s2 hcl, bnd_s, if_pos (nI_le (by omega) (by omega)), r_editAt, bnd_s, nI_add, wr_at (by omega) (by decide), zt_1, pf_e]
            have hlen : fR_lengthOf n (nI s) (mS (mS M 0 (7220 + 70 * s + 5) (nI 1)) 22 0 (nI 1)) = some (nI l, mS (mS M 0 (7220 + 70 * s + 5) (nI 1)) 22 0 (nI 1)) := by
              rw [r_lengthOf n _ (show s < 150 by omega), mS_ne (by omega), mS_ne2 (by omega), show 7227 + 70 * s = 7220 + 70 * s + 7 by omega, ri_e7 hR hsB s2, c8]
            rw [hlen, bnd_s, if_pos (nI_le (by omega) (by omega))]
          have hmk2 : mkT n (nI e) (nI s) M = some (0, mS (mS M 0 (7220 + 70 * s + 5) (nI 1)) 22 0 (nI 1)) := by
            unfold mkT
            rw [fR_make_l7, if_pos m1_lt, if_neg (nI_pos (by omega)), hstart, bnd_s]
          rw [← r12 k]
          conv => lhs; unfold RW
          rw [hmk, hv, show orE (some s) (-1) = nI s from rfl, hmk2, bnd_s, bnd_s, show k + (j + 1) = k + j + 1 by omega]
          exact r_again n hW1 hR3 hA3 mS_eq (by rw [mS_ne (by omega), mS_ne (by omega)]; exact h23)
  termination_by z => z
end BEG
