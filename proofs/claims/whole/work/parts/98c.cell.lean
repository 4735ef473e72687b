-- ===== one cell of an image changes =====
def SameC (B B' : Im) (c : Nat) : Prop := bC B' = bC B ∧ bE B' = bE B ∧ bO B' = bO B ∧ bed B' = bed B ∧ bob B' = bob B ∧ bnw B' = bnw B ∧ ∀ r, r ≠ c → bce B' r = bce B r
theorem RelI_cell {B B' : Im} {g g' : Nat → Int32} {c : Nat} (h : RelI B g) (hB : bC B ≤ 40 ∧ bE B ≤ 150 ∧ bO B ≤ 150) (hc : c < bC B) (hs : SameC B B' c) (hg : ∀ i, (i < 20 + 180 * c ∨ 20 + 180 * c + 180 ≤ i) → g' i = g i) (hr : relC (bce B' c) (fun i => g' (20 + 180 * c + i))) : RelI B' g' := by
  obtain ⟨e1, e2, e3, e4, e5, e6, e7⟩ := hs
  refine RelI_upd h ?_ ?_ ?_ (fun j hj => ?_) (fun c' hc' => ?_) (fun e he => Or.inl ⟨by omega, fun i _ => by rw [e4], fun i hi _ => hg _ (by omega)⟩) (fun e he hs => ?_) (fun o ho => Or.inl ⟨by omega, fun i _ => by rw [e5], fun i hi => hg _ (by omega)⟩)
  · rw [hg 0 (by omega), e1]; exact h.1.1
  · rw [hg 1 (by omega), e2]; exact h.1.2.1
  · rw [hg 2 (by omega), e3]; exact h.1.2.2.1
  · rw [hg _ (by omega), e6]; exact h.1.2.2.2 j hj
  · by_cases hcc : c' = c
    · subst hcc; exact Or.inr hr
    · exact Or.inl ⟨by omega, fun i _ => by rw [e7 c' hcc], fun i hi => hg _ (by omega)⟩
  · rw [e4] at hs
    rw [hg _ (by omega), (h.2.2.1 e (by omega)).2 hs]
    unfold cntO
    rw [e5, e3]
theorem WF_cell {B B' : Im} {c : Nat} (hW : WF B) (hs : SameC B B' c) (hk : CelOk B' c) : WF B' := by
  obtain ⟨e1, e2, e3, e4, e5, e6, e7⟩ := hs
  refine ⟨⟨by rw [e1]; exact hW.1.1, by rw [e2]; exact hW.1.2.1, by rw [e3]; exact hW.1.2.2⟩, fun c' hc' => ?_, fun e he => ?_, fun o ho => ObOk_c (hW.2.2.2.1 o (by omega)) (fun i => by rw [e5]) (fun e _ => by rw [e4]) (by omega) (by omega), fun j hj => ?_⟩
  · by_cases hcc : c' = c
    · subst hcc; exact hk
    · exact CelOk_c (hW.2.1 c' (by omega)) (fun i => by rw [e7 c' hcc]) (by omega)
  · rw [e2] at he
    refine EdOk_c hW.1.2.1 (hW.2.2.1 e he) he (fun e' i _ _ => by rw [e4]) (by omega) (by omega) (by omega) (fun hs => ?_)
    have hst := ((hW.2.2.1 e he).2.2.2.2 hs).2
    unfold StOk
    rw [e4, e2]
    exact hst
  · rw [e6, e2, e4]; exact hW.2.2.2.2 j hj
-- ===== the leans, noted =====
def lnZ (x : X) (c m : Nat) (f : Nat → Int32) : X := st (st (lnY x c m f) 5 c 7 (nI m)) 5 c 125 (nI 1)
theorem lnZ_c {x : X} {c m : Nat} {f : Nat → Int32} {r k : Nat} : bce (im (lnZ x c m f)) r k = if r = c ∧ k = 125 then nI 1 else if r = c ∧ k = 7 then nI m else if r = c ∧ 69 ≤ k ∧ k < 69 + m then f (k - 69) else bce (im x) r k := rfl
theorem lnZ_same {x : X} {c m : Nat} {f : Nat → Int32} : SameC (im x) (im (lnZ x c m f)) c := by
  refine ⟨rfl, rfl, rfl, rfl, rfl, rfl, fun r hr => funext fun k => ?_⟩
  rw [lnZ_c, if_neg (fun w => hr w.1), if_neg (fun w => hr w.1), if_neg (fun w => hr w.1)]
theorem lnZ_ok {x : X} {c m : Nat} {f : Nat → Int32} {M M' : MR} (hW : WF (im x)) (hR : RelI (im x) (M 0)) (hc : c < bC (im x)) (hm : m ≤ 16) (hf : ∀ i, i < m → (∃ e', e' < bE (im x) ∧ f i = nI e') ∧ M' 0 (20 + 180 * c + 10 + i) = f i) (h8 : M' 0 (20 + 180 * c + 8) = nI m) (hg : ∀ i, i ≠ 20 + 180 * c + 8 → (i < 20 + 180 * c + 10 ∨ 20 + 180 * c + 26 ≤ i) → M' 0 i = M 0 i) : WF (im (lnZ x c m f)) ∧ RelI (im (lnZ x c m f)) (M' 0) := by
  have hB := hW.1
  have e0 : ∀ k, k ≠ 7 → (k < 69 ∨ 85 ≤ k ∧ k < 125) → bce (im (lnZ x c m f)) c k = bce (im x) c k := fun k h1 h2 => by rw [lnZ_c, if_neg (by omega), if_neg (fun w => h1 w.2), if_neg (by omega)]
  have e7 : bce (im (lnZ x c m f)) c 7 = nI m := by rw [lnZ_c, if_neg (by omega), if_pos ⟨rfl, rfl⟩]
  have eF : bce (im (lnZ x c m f)) c 125 = nI 1 := by rw [lnZ_c, if_pos ⟨rfl, rfl⟩]
  have el : ∀ i, i < m → bce (im (lnZ x c m f)) c (69 + i) = f i := fun i hi => by rw [lnZ_c, if_neg (by omega), if_neg (by omega), if_pos (by omega), show 69 + i - 69 = i by omega]
  have hg' : ∀ i, i ≠ 8 → (i < 10 ∨ 26 ≤ i) → M' 0 (20 + 180 * c + i) = M 0 (20 + 180 * c + i) := fun i h1 h2 => hg _ (by omega) (by omega)
  refine ⟨WF_cell hW lnZ_same ?_, RelI_cell hR hW.1 hc lnZ_same (fun i hi => hg i (by omega) (by omega)) ?_⟩
  · obtain ⟨h1, h2, h3, _⟩ := hW.2.1 c hc
    unfold CelOk
    rw [e0 5 (by omega) (by omega), e0 6 (by omega) (by omega), e0 8 (by omega) (by omega)]
    refine ⟨h1, h2, h3, m, hm, e7, fun i hi => ?_⟩
    rw [el i hi]
    exact (hf i hi).1
  · obtain ⟨a0, a1, a2, a3, _, _⟩ := hR.2.1 c hc
    have z0 : M' 0 (20 + 180 * c) = M 0 (20 + 180 * c) := hg' 0 (by omega) (by omega)
    refine ⟨?_, ?_, ?_, fun i hi hl => ?_, fun _ => ⟨?_, fun i hi hl => ?_⟩, fun w => ?_⟩
    · rw [e0 5 (by omega) (by omega)]; exact z0.trans a0
    · rw [e0 6 (by omega) (by omega)]; exact (hg' 1 (by omega) (by omega)).trans a1
    · rw [e0 8 (by omega) (by omega)]; exact (hg' 2 (by omega) (by omega)).trans a2
    · rw [e0 8 (by omega) (by omega)] at hl
      rw [e0 (9 + i) (by omega) (by omega)]
      exact (hg' _ (by omega) (by omega)).trans (a3 i hi hl)
    · rw [e7]; exact h8
    · rw [e7] at hl
      have hi' : i < m := Nat.lt_of_not_le (fun w => nI_nlt w (by omega) hl)
      rw [el i hi']
      show M' 0 (20 + 180 * c + (10 + i)) = f i
      rw [← Nat.add_assoc]; exact (hf i hi').2
    · rw [eF] at w
      exact absurd w (by decide)
-- ===== what was run is noted: the class =====
def nrow (x : X) (c : Nat) (o md : Int32) (q : Nat) (k : Nat) : Int32 := if k = 0 then o else if k = 1 then x.1 17 0 else if k = 2 then x.1 16 0 else if k = 3 then x.1 15 0 else if k = 4 then md else if 85 ≤ k ∧ k < 85 + q then x.2.2.1 2 (k - 85) 0 else if 105 ≤ k ∧ k < 105 + q then x.2.2.1 2 (k - 105) 1 else if k = 125 then nI 0 else x.2.2.1 5 c k
def nrX (x : X) (c : Nat) (o md : Int32) (q : Nat) : X := (x.1, x.2.1, uf x.2.2.1 5 (fun r k => if r = c then nrow x c o md q k else x.2.2.1 5 r k), x.2.2.2)
section NOTE
variable (n : Nat)
theorem x_note_l {x : X} {c : Nat} {o md : Int32} (hc : c < x.2.1 5) (h20 : x.2.1 2 ≤ 20) (hcl : c < 1000) : ∀ d q k S, q + d = x.2.1 2 → d < k → CR S (nrX x c o md q) → Ru (f4_noteRun_l70 n k (nI c) (nI q) S) 0 (fun S' => CR S' (nrX x c o md (x.2.1 2)))
  | 0, q, k, S, hq, hk, h => by
    obtain ⟨k, rfl⟩ : ∃ q, k = q + 1 := ⟨k - 1, by omega⟩
    obtain rfl : q = x.2.1 2 := by omega
    rw [f4_noteRun_l70, xz2 n h, show (nrX x c o md (x.2.1 2)).2.1 2 = x.2.1 2 from rfl, if_pos (Int32.le_refl _)]
    exact Ru_some h
  | d + 1, q, k, S, hq, hk, h => by
    obtain ⟨k, rfl⟩ : ∃ q, k = q + 1 := ⟨k - 1, by omega⟩
    have hq2 : q < (nrX x c o md q).2.1 2 := by show q < x.2.1 2; omega
    have hc5 : c < (nrX x c o md q).2.1 5 := hc
    rw [f4_noteRun_l70, xz2 n h, show (nrX x c o md q).2.1 2 = x.2.1 2 from rfl, if_neg (nI_ge (by omega) (by omega)), xg2 n h hq2 (by omega), nI_add]
    refine Rc_set n (by decide) h hc5 (show 85 + q < 125 by omega) (fun S1 h1 => ?_)
    rw [xg2 n h1 hq2 (by omega), nI_add]
    refine Rc_set n (by decide) h1 hc5 (show 105 + q < 125 by omega) (fun S2 h2 => ?_)
    rw [nI_add]
    refine x_note_l hc h20 hcl d (q + 1) k S2 (by omega) (by omega) (CR_ext h2 (fun _ _ => rfl) (fun _ _ => rfl) (fun t r k' ht hr hk' => ?_) rfl)
    by_cases ht5 : t = 5
    · subst ht5
      show (if r = c then nrow x c o md (q + 1) k' else x.2.2.1 5 r k') = st2 (st2 (fun r k => if r = c then nrow x c o md q k else x.2.2.1 5 r k) c (85 + q) (x.2.2.1 2 q 0)) c (105 + q) (x.2.2.1 2 q 1) r k'
      by_cases hrc : r = c
      · subst hrc
        rw [if_pos rfl]
        by_cases k1 : k' = 105 + q
        · subst k1
          rw [st2_eq]
          unfold nrow
          rw [if_neg (by omega), if_neg (by omega), if_neg (by omega), if_neg (by omega), if_neg (by omega), if_neg (by omega), if_pos (by omega), show 105 + q - 105 = q by omega]
        · rw [st2_ne (Or.inr k1)]
          by_cases k2 : k' = 85 + q
          · subst k2
            rw [st2_eq]
            unfold nrow
            rw [if_neg (by omega), if_neg (by omega), if_neg (by omega), if_neg (by omega), if_neg (by omega), if_pos (by omega), show 85 + q - 85 = q by omega]
          · rw [st2_ne (Or.inr k2), if_pos rfl]
            unfold nrow
            repeat' split
            all_goals first | rfl | omega
      · rw [if_neg hrc, st2_ne (Or.inl hrc), st2_ne (Or.inl hrc), if_neg hrc]
    · show uf x.2.2.1 5 _ t r k' = uf (uf (uf x.2.2.1 5 _) 5 _) 5 _ t r k'
      rw [uf_ne ht5, uf_ne ht5, uf_ne ht5, uf_ne ht5]
theorem x_note {x : X} {c : Nat} {o md : Int32} {S : CS} (hn : 1000 ≤ n) (h : CR S x) (hc : c < x.2.1 5) (h20 : x.2.1 2 ≤ 20) (hcl : c < 1000) : Ru (f4_noteRun n (nI c) o md S) 0 (fun S' => CR S' (nrX x c o md (x.2.1 2))) := by
  unfold f4_noteRun
  refine Rc_set n (by decide) h hc (show 0 < 125 by decide) (fun S1 h1 => ?_)
  refine Rc_cg (by decide) h1 ?_
  refine Rc_set n (by decide) h1 hc (show 1 < 125 by decide) (fun S2 h2 => ?_)
  refine Rc_cg (by decide) h2 ?_
  refine Rc_set n (by decide) h2 hc (show 2 < 125 by decide) (fun S3 h3 => ?_)
  refine Rc_cg (by decide) h3 ?_
  refine Rc_set n (by decide) h3 hc (show 3 < 125 by decide) (fun S4 h4 => ?_)
  refine Rc_set n (by decide) h4 hc (show 4 < 125 by decide) (fun S5 h5 => ?_)
  refine x_note_l n hc h20 hcl (x.2.1 2) 0 n S5 (by omega) (by omega) (CR_ext h5 (fun _ _ => rfl) (fun _ _ => rfl) (fun t r k' ht hr hk' => ?_) rfl)
  by_cases ht5 : t = 5
  · subst ht5
    show (if r = c then nrow x c o md 0 k' else x.2.2.1 5 r k') = st2 (st2 (st2 (st2 (st2 (x.2.2.1 5) c 0 o) c 1 (x.1 17 0)) c 2 (x.1 16 0)) c 3 (x.1 15 0)) c 4 md r k'
    unfold st2 nrow
    by_cases hrc : r = c
    · subst hrc
      by_cases k4 : k' = 4
      · subst k4; simp
      · by_cases k3 : k' = 3
        · subst k3; simp
        · by_cases k2 : k' = 2
          · subst k2; simp
          · by_cases k1 : k' = 1
            · subst k1; simp
            · by_cases k0 : k' = 0
              · subst k0; simp
              · have hk5 : k' < 125 := hk'
                rw [if_pos rfl, if_neg k0, if_neg k1, if_neg k2, if_neg k3, if_neg k4, if_neg (by omega), if_neg (by omega), if_neg (show ¬ k' = 125 by omega), if_neg (fun w => k4 w.2), if_neg (fun w => k3 w.2), if_neg (fun w => k2 w.2), if_neg (fun w => k1 w.2), if_neg (fun w => k0 w.2)]
    · simp [hrc]
  · show uf x.2.2.1 5 _ t r k' = uf (uf (uf (uf (uf x.2.2.1 5 _) 5 _) 5 _) 5 _) 5 _ t r k'
    rw [uf_ne ht5, uf_ne ht5, uf_ne ht5, uf_ne ht5, uf_ne ht5, uf_ne ht5]
end NOTE
