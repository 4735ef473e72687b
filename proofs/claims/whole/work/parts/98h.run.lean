section RUN1
variable (n : Nat)
/-- a run of a cell in the class, from its branch on -/
def cRunT (x1 : Int32) (S3 : CS) : Option (Int32 × CS) :=
    bT 5 S3 (f2_get n x1 (nI 6) (tOf 5 S3)) fun v4 S4 =>
    if v4 = (nI 1) then
      (bnd (f0_addClass n x1 S4) fun v10 S10 =>
      f4_runCell_b105 n x1 (nI 0) v10 S10)
    else
      (bnd (f3_beginCell n S4) fun _ S5 =>
      bnd (f3_work n S5) fun v6 S6 =>
      if v6 = 0 then
        (bnd (f3_lastKind n S6) fun v7 S7 =>
        bnd (f3_lastNumber n S7) fun v8 S8 =>
        bnd (f0_addValue n x1 v7 v8 S8) fun v9 S9 =>
        f4_runCell_b105 n x1 v6 v9 S9)
      else
        (f4_runCell_b105 n x1 v6 (-1 : Int32) S6))
/-- and in the reference -/
def rRunT (x1 x2 : Int32) (M7 : MR) : Option (Int32 × MR) :=
      rd M7 0 62610 (x2 + (nI 1)) fun v8 =>
      if v8 = 0 then
        (gf M7 6 fun v9 =>
        bnd (fR_frame n (-1 : Int32) (nI 0) v9 (-1 : Int32) (-1 : Int32) M7) fun _ M10 =>
        bnd (fR_work n M10) fun _ M11 =>
        fR_run_b117 n x1 x2 M11)
      else
        (fR_run_b117 n x1 x2 M7)
def M0s (M : MR) : Prop := M 12 0 = nI 0 ∧ M 20 0 = nI 0 ∧ M 21 0 = nI 0 ∧ M 23 0 = nI 0 ∧ M 24 0 = nI 0 ∧ M 25 0 = nI 0
theorem run_pre (hn : 1000 ≤ n) {S : CS} {x : X} {M : MR} {c : Nat} (hC : CR S x) (hW : WF (im x)) (hR : RelI (im x) (M 0)) (hc : c < bC (im x)) (h9 : ∀ e, e < 150 → M 9 e = if lnd (im x) (x.1 7 0) e = true then nI 1 else nI 0) : ∃ S1 m f M7, f4_runCell n (nI c) S = cRunT n (nI c) S1 ∧ fR_run n (nI c) M = rRunT n (nI c) (nI (20 + 180 * c)) M7 ∧ m ≤ 16 ∧ CR S1 (clr (lnZ x c m f)) ∧ WF (im (lnZ x c m f)) ∧ RelI (im (lnZ x c m f)) (M7 0) ∧ M0s M7 ∧ (∀ i, 20870 ≤ i → M7 0 i = M 0 i) ∧ ∀ a, a ≠ 0 → (a < 10 ∨ 28 ≤ a) → M7 a = M a := by
  have hB := hW.1
  obtain ⟨S', f, M', k2, j1, j2, j3, j4, j5, j6, j7⟩ := j_leans n (M0 := M) (u := x.1 7 0) hW hc (bE (im x)) 0 n n S (fun _ => 0) M (by omega) (by omega) (by omega) (CR_ext hC (fun _ _ => rfl) (fun _ _ => rfl) (fun k r q hk _ _ => by
    show uf x.2.2.1 5 _ k r q = _
    by_cases h5 : k = 5
    · subst h5
      rw [uf_eq, if_neg]
      intro w
      have : cnt (lnd (im x) (x.1 7 0)) 0 = 0 := rfl
      omega
    · rw [uf_ne h5]) rfl) (fun i hi => absurd hi (Nat.not_lt_zero _)) (fun _ _ => rfl) (fun _ _ => rfl) h9
  obtain ⟨m, hm⟩ : ∃ m, m = cnt (lnd (im x) (x.1 7 0)) (bE (im x)) := ⟨_, rfl⟩
  have hm16 : m ≤ 16 := by rw [hm]; exact lnd_le hW _ hB.2.1
  rw [← hm] at j2 j4 j5
  have j2' : CR S' (lnZ x c m f) := CR_ext j2 (fun _ _ => rfl) (fun _ _ => rfl) (fun k r q hk _ hq => by
    show uf (uf (uf x.2.2.1 5 _) 5 _) 5 _ k r q = uf (uf x.2.2.1 5 _) 5 _ k r q
    by_cases h5 : k = 5
    · subst h5
      have hq5 : q < 125 := hq
      rw [uf_eq, uf_eq, st2_ne (Or.inr (show q ≠ 125 by omega))]
      rfl
    · rw [uf_ne h5, uf_ne h5, uf_ne h5]) rfl
  obtain ⟨S1, c1, c2⟩ := x_clear n j2'
  obtain ⟨N, hN⟩ : ∃ N, N = mS M' 0 (20 + 180 * c + 8) (nI m) := ⟨_, rfl⟩
  obtain ⟨M7, hM7⟩ : ∃ M7, M7 = mS (mS (mS (mS (mS (mS N 23 0 (nI 0)) 24 0 (nI 0)) 25 0 (nI 0)) 12 0 (nI 0)) 20 0 (nI 0)) 21 0 (nI 0) := ⟨_, rfl⟩
  have hMo : ∀ a, a ≠ 12 → a ≠ 20 → a ≠ 21 → a ≠ 23 → a ≠ 24 → a ≠ 25 → M7 a = N a := fun a z1 z2 z3 z4 z5 z6 => by rw [hM7, mS_o z3, mS_o z2, mS_o z1, mS_o z6, mS_o z5, mS_o z4]
  have hM0 : M7 0 = N 0 := hMo 0 (by omega) (by omega) (by omega) (by omega) (by omega) (by omega)
  have hNo : ∀ a, a ≠ 0 → N a = M a := fun a ha => by rw [hN, mS_o ha, j7 a ha]
  have hok := lnZ_ok (M' := M7) (f := f) hW hR hc hm16 (fun i hi => by
    obtain ⟨w1, w2⟩ := j5 i hi
    refine ⟨w1, ?_⟩
    rw [hM0, hN, mS_ne2 (by omega)]; exact w2) (by rw [hM0, hN, mS_eq]) (fun i h1 h2 => by rw [hM0, hN, mS_ne2 h1]; exact j6 i h2)
  refine ⟨S1, m, f, M7, ?_, ?_, hm16, c2, hok.1, hok.2, ?_, fun i hi => ?_, fun a h1 h2 => ?_⟩
  · unfold f4_runCell
    rw [xcg hC (by decide)]
    unfold f0_noteLeans
    rw [show f0_noteLeans_l5 n n (nI c) (x.1 7 0) (nI 0) (nI 0) S = some (0, S') from j1, bnd_s, c1, bnd_s]
    rfl
  · unfold fR_run
    rw [r_cellAt, bnd_s, show fR_run_l10 n n (nI c) (nI (20 + 180 * c)) (nI 0) (nI 0) M = _ from j4, r_leans_o n (150 - bE (im x)) (bE (im x)) k2 (by omega) (by omega) (fun q q1 q2 => by
      rw [j7 9 (by omega), h9 q q2, if_neg]
      unfold lnd
      simp
      intro w
      omega), fR_run_l10, if_pos (Int32.le_refl _), nI_add, wr_at (by omega) (by decide), ← hN, pf_e, pf_e, pf_e, pf_e, pf_e, pf_e, ← hM7]
    rfl
  · unfold M0s
    rw [hM7]
    refine ⟨?_, ?_, ?_, ?_, ?_, ?_⟩
    · rw [mS_ne (by omega), mS_ne (by omega), mS_eq]
    · rw [mS_ne (by omega), mS_eq]
    · rw [mS_eq]
    · rw [mS_ne (by omega), mS_ne (by omega), mS_ne (by omega), mS_ne (by omega), mS_ne (by omega), mS_eq]
    · rw [mS_ne (by omega), mS_ne (by omega), mS_ne (by omega), mS_ne (by omega), mS_eq]
    · rw [mS_ne (by omega), mS_ne (by omega), mS_ne (by omega), mS_eq]
  · rw [hM0, hN, mS_ne2 (by omega)]; exact j6 i (by omega)
  · rw [hMo a (by omega) (by omega) (by omega) (by omega) (by omega) (by omega), hNo a h1]
end RUN1
