section RUN2
variable (n : Nat)
/-- what a run leaves, on both sides -/
def RunO (c : Nat) (x : X) (M : MR) (FC : Option (Int32 × CS)) (FR : Option (Int32 × MR)) : Prop := ∃ r S' x' M', r ≤ 2 ∧ FC = some (nI r, S') ∧ FR = some (nI r, M') ∧ CR S' x' ∧ WF (im x') ∧ RelI (im x') (M' 0) ∧ (∀ r, bce (im x') r 125 = if r = c then nI 0 else bce (im x) r 125) ∧ (∀ a, a < 15 → x'.1 a = x.1 a) ∧ bC (im x') = bC (im x) ∧ bE (im x') ≤ bE (im x) + 1 ∧ x'.2.2.2 = x.2.2.2 ∧ (∀ i, 20870 ≤ i → M' 0 i = M 0 i) ∧ ∀ a, a ≠ 0 → (a < 10 ∨ 28 ≤ a) → M' a = M a
theorem Wri_v {x : X} {M : MR} (h : Wri x M) : ∃ w, w ≤ 1000 ∧ x.1 15 0 = nI w ∧ M 25 0 = nI w ∧ x.1 16 0 = M 23 0 ∧ x.2.1 2 = min w 20 ∧ (∀ i, i < min w 20 → M 26 i = x.2.2.1 2 i 0 ∧ M 27 i = x.2.2.1 2 i 1) ∧ ∀ i, i < min w 20 → M 26 i = nI 0 ∨ M 26 i = nI 1 := by
  obtain ⟨s, w, h1, h2, h3, h4, h5, h6, h7, h8⟩ := h
  exact ⟨w, by omega, h5, h6, h3.trans h4.symm, h7, fun i hi => ⟨(h8 i hi).1, (h8 i hi).2.1⟩, fun i hi => by rw [(h8 i hi).1]; exact (h8 i hi).2.2⟩
/-- the end of a run that made nothing -/
theorem run_bad (hn : 1000 ≤ n) {S : CS} {x : X} {M : MR} {c r fl : Nat} (hC : CR S x) (hW : WF (im x)) (hR : RelI (im x) (M 0)) (hc : c < bC (im x)) (hfl2 : ¬ bce (im x) c 125 = nI 2) (hWr : Wri x M) (h24 : M 24 0 = nI fl) (h17 : x.1 17 0 = nI (if fl = 100 then 0 else fl)) (hr : (r = 1 ∧ 1 ≤ fl ∧ fl ≤ 8) ∨ (r = 2 ∧ fl = 100)) : RunO c x M (f4_runCell_b105 n (nI c) (nI r) (-1) S) (fR_run_b117 n (nI c) (nI (20 + 180 * c)) M) := by
  have hB := hW.1
  obtain ⟨w, w1, w2, w3, w4, w5, w6, w7⟩ := Wri_v hWr
  obtain ⟨S', e1, e2⟩ := x_note n (o := nI r) (md := -1) hn hC hc (by omega) (by omega)
  obtain ⟨M', r1, r2⟩ := r_note n hn (c := c) (r := r) (fl := fl) (by omega) w1 w3 w7 h24 (Or.inr hr)
  have h24' : M' 24 0 = nI fl := by rw [r2.1 24 (by omega)]; exact h24
  have hfl : ¬ nI fl = 0 := fun w => by rw [← nI_0, nI_eq (by omega) (by omega)] at w; omega
  have hN : Noted M M' c (nI r) (nI (if fl = 100 then 0 else fl)) (-1 + nI 1) w := by rw [show (-1 : Int32) + nI 1 = nI 0 from by decide]; exact r2
  refine ⟨r, S', _, M', by omega, ?_, ?_, e2, WF_cell hW nrX_same (CelOk_note (by omega) (hW.2.1 c hc)), RelI_cell hR hB hc nrX_same (fun i hi => r2.2.1 i (by omega)) (relC_note (hR.2.1 c hc) hfl2 hN w2 w3 w1 w4 h17 w5 w6), fun r => nrX_fl (by omega), fun _ _ => rfl, rfl, Nat.le_succ _, rfl, fun i hi => r2.2.1 i (by omega), fun a h1 _ => r2.1 a h1⟩
  · unfold f4_runCell_b105
    rw [e1, bnd_s]
  · rw [r1]
    unfold rTail
    rw [gf_e h24', if_neg hfl]
    unfold fR_run_b397
    rw [nI_add, rd_at (by omega) (by decide), r2.2.2.1]
/-- a new edition in the reference, behind what is noted -/
theorem r_tail0 (hn : 1000 ≤ n) {M : MR} {E L j c s : Nat} {kd vl : Int32} (hE : E < 150) (hL : L ≤ 60) (h6 : M 6 0 = nI L) (hj : j < 16) (hc : c < 40) (h1 : M 0 1 = nI E) (hcn : M 0 (20 + 180 * c) = nI j) (hcs : M 0 (20 + 180 * c + 1) = nI s) (h24 : M 24 0 = nI 0) (h3 : M 0 (20 + 180 * c + 3) = nI 0) (hk : (s = 0 ∧ M 10 0 = kd ∧ M 11 0 = vl ∧ (kd = nI 0 ∨ kd = nI 1)) ∨ (s = 1 ∧ kd = nI 0 ∧ vl = nI 0)) : ∃ M', rTail n c M = some (nI 0, M') ∧ (∀ a, a ≠ 0 → M' a = M a) ∧ (∀ i, i ≠ 1 → i ≠ 4 + j → (i < 7220 + 70 * E ∨ 7220 + 70 * E + 70 ≤ i) → i ≠ 20 + 180 * c + 7 → M' 0 i = M 0 i) ∧ M' 0 (20 + 180 * c + 7) = nI E + nI 1 ∧ M' 0 1 = nI (E + 1) ∧ M' 0 (4 + j) = nI E + nI 1 ∧ (M' 0 (7220 + 70 * E) = nI j ∧ M' 0 (7220 + 70 * E + 1) = nI s ∧ M' 0 (7220 + 70 * E + 2) = nI c ∧ M' 0 (7220 + 70 * E + 3) = kd ∧ M' 0 (7220 + 70 * E + 4) = vl ∧ M' 0 (7220 + 70 * E + 5) = nI 0 ∧ M' 0 (7220 + 70 * E + 6) = nI 0 ∧ M' 0 (7220 + 70 * E + 7) = nI L) ∧ ∀ i, i < L → M' 0 (7220 + 70 * E + 8 + i) = M 5 i := by
  obtain ⟨N, r1, r2, r3, r4, r5, ⟨q0, q1, q2, q3, q4, q5, q6, q7⟩, r6⟩ := r_newEd n hn hE hL h6 hj hc h1 hcn hcs
  obtain ⟨M', hM'⟩ : ∃ M', M' = mS (mS (mS N 0 (20 + 180 * c + 7) (nI E + nI 1)) 0 (7220 + 70 * E + 3) kd) 0 (7220 + 70 * E + 4) vl := ⟨_, rfl⟩
  have ho : ∀ i, i ≠ 20 + 180 * c + 7 → i ≠ 7220 + 70 * E + 3 → i ≠ 7220 + 70 * E + 4 → M' 0 i = N 0 i := fun i z1 z2 z3 => by rw [hM', mS_ne2 z3, mS_ne2 z2, mS_ne2 z1]
  have hNc : ∀ i, i ≠ 7 → i < 180 → N 0 (20 + 180 * c + i) = M 0 (20 + 180 * c + i) := fun i _ hi => r3 _ (by omega) (by omega) (by omega)
  refine ⟨M', ?_, fun a ha => by rw [hM', mS_o ha, mS_o ha, mS_o ha, r2 a ha], fun i z1 z2 z3 z4 => by rw [ho i z4 (by omega) (by omega), r3 i z1 z2 z3], ?_, ?_, ?_, ⟨?_, ?_, ?_, ?_, ?_, ?_, ?_, ?_⟩, fun i hi => ?_⟩
  · unfold rTail
    rw [gf_e h24, if_pos n0_0, r1, bnd_s]
    simp only [nI_add (20 + 180 * c)]
    rw [wr_at (by omega) (by decide), r_editAt, bnd_s, rd_at (by omega) (by decide), mS_ne2 (by omega), hNc 1 (by omega) (by omega), hcs]
    have b363 : ∀ v, (v = kd) → fR_run_b363 n (nI (20 + 180 * c)) (nI E) (nI (7220 + 70 * E) + nI 3) v (mS N 0 (20 + 180 * c + 7) (nI E + nI 1)) = some (nI 0, M') := by
      intro v hv
      subst hv
      have e397 : fR_run_b397 n (nI (20 + 180 * c)) M' = some (nI 0, M') := by
        unfold fR_run_b397
        rw [nI_add, rd_at (by omega) (by decide), ho _ (by omega) (by omega) (by omega), hNc 3 (by omega) (by omega), h3]
      have c1 : mS (mS N 0 (20 + 180 * c + 7) (nI E + nI 1)) 0 (7220 + 70 * E + 3) v 0 (20 + 180 * c + 1) = nI s := by
        rw [mS_ne2 (by omega), mS_ne2 (by omega), hNc 1 (by omega) (by omega), hcs]
      unfold fR_run_b363
      rw [nI_add (7220 + 70 * E), wr_at (by omega) (by decide), r_editAt, bnd_s, nI_add (20 + 180 * c), rd_at (by omega) (by decide), c1, nI_add (7220 + 70 * E)]
      rcases hk with ⟨rfl, k1, k2, k3⟩ | ⟨rfl, k1, k2⟩
      · rw [if_pos n0_0, rd_at (by omega) (by decide), mS_o (by omega), mS_o (by omega), r2 11 (by omega), k2]
        unfold fR_run_b396
        rw [wr_at (by omega) (by decide), ← hM', e397]
      · rw [if_neg n1_0]
        unfold fR_run_b396
        subst k2
        rw [wr_at (by omega) (by decide), ← hM', e397]
    unfold fR_run_b362
    rcases hk with ⟨rfl, k1, k2, k3⟩ | ⟨rfl, k1, k2⟩
    · rw [if_pos n0_0, rd_at (by omega) (by decide), mS_o (by omega), r2 10 (by omega), k1]
      rcases k3 with k3 | k3
      · rw [if_pos (by rw [k3]; rfl), b363 _ k3.symm]
      · rw [if_neg (by rw [k3]; exact n1_0), b363 _ k3.symm]
    · rw [if_neg n1_0, b363 _ k1.symm]
  · rw [hM', mS_ne2 (by omega), mS_ne2 (by omega), mS_eq]
  · rw [ho 1 (by omega) (by omega) (by omega), r4]
  · rw [ho _ (by omega) (by omega) (by omega), r5]
  · rw [ho _ (by omega) (by omega) (by omega), q0]
  · rw [ho _ (by omega) (by omega) (by omega), q1]
  · rw [ho _ (by omega) (by omega) (by omega), q2]
  · rw [hM', mS_ne2 (by omega), mS_eq]
  · rw [hM', mS_eq]
  · rw [ho _ (by omega) (by omega) (by omega), q5]
  · rw [ho _ (by omega) (by omega) (by omega), q6]
  · rw [ho _ (by omega) (by omega) (by omega), q7]
  · rw [ho _ (by omega) (by omega) (by omega), r6 i hi]
/-- the end of a run that made an edition -/
theorem run_new (hn : 1000 ≤ n) {S : CS} {x : X} {M : MR} {c j s L : Nat} {row : Nat → Int32} (hC : CR S (edX x j row)) (hW : WF (im x)) (hR : RelI (im x) (M 0)) (hc : c < bC (im x)) (hfl2 : ¬ bce (im x) c 125 = nI 2) (hE : bE (im x) < 150) (hj : j < 16) (hs : s < 2) (h5 : bce (im x) c 5 = nI j) (h6 : bce (im x) c 6 = nI s) (hWr : Wri x M) (h24 : M 24 0 = nI 0) (h17 : x.1 17 0 = nI 0) (hL : L ≤ 60) (hL6 : M 6 0 = nI L) (hk : (s = 0 ∧ M 10 0 = row 3 ∧ M 11 0 = row 4 ∧ (row 3 = nI 0 ∨ row 3 = nI 1)) ∨ (s = 1 ∧ row 3 = nI 0 ∧ row 4 = nI 0)) (hr : row 0 = nI j ∧ row 1 = nI c ∧ row 2 = nI s ∧ row 6 = nI 0) (hr1 : s = 1 → row 8 = nI L ∧ ∀ i, i < L → row (44 + i) = M 5 i) (hed : EdOk (im (edX x j row)) (bE (im x))) : RunO c x M (f4_runCell_b105 n (nI c) (nI 0) (nI (bE (im x))) S) (fR_run_b117 n (nI c) (nI (20 + 180 * c)) M) := by
  have hB := hW.1
  have e1 : ∀ a, a ≠ 20 → (edX x j row).1 a = x.1 a := fun a ha => edX_1 (x := x) (j := j) (row := row) ha
  have e2 : (edX x j row).2.1 2 = x.2.1 2 := edX_rk (x := x) (j := j) (row := row) (k := 2) (by decide)
  have e2c : (edX x j row).2.2.1 2 = x.2.2.1 2 := edX_ck (x := x) (j := j) (row := row) (k := 2) (by decide)
  obtain ⟨w, w1, w2, w3, w4, w5, w6, w7⟩ := Wri_v hWr
  obtain ⟨S', g1, g2⟩ := x_note n (o := nI 0) (md := nI (bE (im x))) hn hC (show c < bC (im (edX x j row)) by rw [edX_bC]; exact hc) (by rw [e2]; omega) (by omega)
  obtain ⟨M1, r1, r2⟩ := r_note n hn (c := c) (r := 0) (fl := 0) (by omega) w1 w3 w7 h24 (Or.inl ⟨rfl, rfl⟩)
  obtain ⟨a0, a1, a2⟩ : M 0 (20 + 180 * c) = nI j ∧ M 0 (20 + 180 * c + 1) = nI s ∧ True := ⟨(hR.2.1 c hc).1.trans h5, (hR.2.1 c hc).2.1.trans h6, trivial⟩
  obtain ⟨M2, t1, t2, t3, t4, t5, t6, ⟨q0, q1, q2, q3, q4, q5, q6, q7⟩, t7⟩ := r_tail0 n hn (M := M1) (kd := row 3) (vl := row 4) hE hL (by rw [r2.1 6 (by omega)]; exact hL6) hj (show c < 40 by omega) (by rw [r2.2.1 1 (by omega)]; exact hR.1.2.1) (by rw [r2.2.1 _ (by omega)]; exact a0) (by rw [r2.2.1 _ (by omega)]; exact a1) (by rw [r2.1 24 (by omega)]; exact h24) r2.2.2.1 (by rw [r2.1 10 (by omega), r2.1 11 (by omega)]; exact hk)
  obtain ⟨N, hN⟩ : ∃ N, N = mS M1 0 (20 + 180 * c + 7) (nI (bE (im x)) + nI 1) := ⟨_, rfl⟩
  have hNn : Noted M N c (nI 0) (nI 0) (nI (bE (im x)) + nI 1) w := by
    obtain ⟨n1, n2, n3, n4, n5, n6, n7, n8⟩ := r2
    rw [hN]
    exact ⟨fun a ha => by rw [mS_o ha, n1 a ha], fun i hi => by rw [mS_ne2 (by omega), n2 i hi], by rw [mS_ne2 (by omega)]; exact n3, by rw [mS_ne2 (by omega)]; exact n4, by rw [mS_ne2 (by omega)]; exact n5, by rw [mS_ne2 (by omega)]; exact n6, mS_eq, fun i hi hw => by rw [mS_ne2 (by omega), mS_ne2 (by omega)]; exact n8 i hi hw⟩
  have hM2N : ∀ i, i < 180 → M2 0 (20 + 180 * c + i) = N 0 (20 + 180 * c + i) := fun i hi => by
    rw [hN]
    by_cases h7 : i = 7
    · subst h7; rw [mS_eq, t4]
    · rw [mS_ne2 (by omega), t3 _ (by omega) (by omega) (by omega) (by omega)]
  have hM2o : ∀ i, i ≠ 1 → i ≠ 4 + j → (i < 7220 + 70 * bE (im x) ∨ 7220 + 70 * bE (im x) + 70 ≤ i) → (i < 20 + 180 * c ∨ 20 + 180 * c + 180 ≤ i) → M2 0 i = M 0 i := fun i z1 z2 z3 z4 => by rw [t3 i z1 z2 z3 (by omega), r2.2.1 i (by omega)]
  have hWe := WF_edX hW hE hr.1 hed
  obtain ⟨g, hg⟩ : ∃ g : Nat → Int32, g = fun i => if 20 + 180 * c ≤ i ∧ i < 20 + 180 * c + 180 then M 0 i else M2 0 i := ⟨_, rfl⟩
  have hgo : ∀ i, (i < 20 + 180 * c ∨ 20 + 180 * c + 180 ≤ i) → g i = M2 0 i := fun i hi => by rw [hg]; exact if_neg (by omega)
  have hgi : ∀ i, i < 180 → g (20 + 180 * c + i) = M 0 (20 + 180 * c + i) := fun i hi => by rw [hg]; exact if_pos (by omega)
  have hRe : RelI (im (edX x j row)) g := by
    refine RelI_edX hW hE hj hR (fun i z1 z2 z3 => ?_) ?_ ?_ ?_ ?_
    · by_cases hci : 20 + 180 * c ≤ i ∧ i < 20 + 180 * c + 180
      · rw [hg]; exact if_pos hci
      · rw [hgo i (by omega), hM2o i z1 z2 z3 (by omega)]
    · rw [hgo 1 (by omega), t5]
    · rw [hgo _ (by omega), t6]
    · refine ⟨?_, ?_, ?_, ?_, ?_, ?_, fun h2 => ?_⟩
      · show g _ = _; rw [hgo _ (by omega), hr.1]; exact q0
      · show g _ = _; rw [hgo _ (by omega), hr.2.2.1]; exact q1
      · show g _ = _; rw [hgo _ (by omega), hr.2.1]; exact q2
      · show g _ = _; rw [hgo _ (by omega)]; exact q3
      · show g _ = _; rw [hgo _ (by omega)]; exact q4
      · show g _ = _; rw [hgo _ (by omega), hr.2.2.2]; exact q5
      · rw [hr.2.2.1, nI_eq (by omega) (by omega)] at h2
        obtain ⟨b1, b2⟩ := hr1 h2
        refine ⟨by show g _ = _; rw [hgo _ (by omega), b1]; exact q7, fun i hi hl => ?_⟩
        rw [b1] at hl
        have hiL : i < L := Nat.lt_of_not_le (fun q => nI_nlt q (by omega) hl)
        show g _ = _
        rw [hgo _ (by omega), b2 i hiL, ← Nat.add_assoc, t7 i hiL, r2.1 5 (by omega)]
    · rw [hgo _ (by omega)]; exact q6
  have hcE : c < bC (im (edX x j row)) := by rw [edX_bC]; exact hc
  refine ⟨0, S', _, M2, by omega, ?_, ?_, g2, WF_cell hWe nrX_same (CelOk_note (by rw [e2]; omega) (hWe.2.1 c hcE)), RelI_cell hRe hWe.1 hcE nrX_same (fun i hi => (hgo i hi).symm) ?_, fun r => by rw [nrX_fl (by rw [e2]; omega), edX_ce], fun a ha => e1 a (by omega), edX_bC (x := x) (j := j) (row := row), by show bE (im (edX x j row)) ≤ _; rw [edX_bE]; exact Nat.le_refl _, rfl, fun i hi => hM2o i (by omega) (by omega) (by omega) (by omega), fun a h1 _ => by rw [t2 a h1, r2.1 a h1]⟩
  · unfold f4_runCell_b105
    rw [g1, bnd_s]
  · rw [r1, t1]
  · refine relC_c (relC_note (M := M) (M' := N) (x := edX x j row) (w := w) (relC_c (hR.2.1 c hc) (fun i _ => by rw [edX_ce]) (fun i hi => rfl)) (by rw [edX_ce]; exact hfl2) hNn (by rw [e1 15 (by omega)]; exact w2) w3 w1 (by rw [e1 16 (by omega)]; exact w4) (by rw [e1 17 (by omega)]; exact h17) (by rw [e2]; exact w5) (fun i hi => by rw [e2c]; exact w6 i hi)) (fun i _ => rfl) (fun i hi => hM2N i hi)
end RUN2
