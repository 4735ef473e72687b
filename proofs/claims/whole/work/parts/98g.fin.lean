theorem cnt_zero {P : Nat → Bool} : ∀ m, (∀ i, i < m → ¬ P i = true) → cnt P m = 0
  | 0, _ => rfl
  | m + 1, h => by rw [cnt_f (h m (by omega)), cnt_zero m (fun i hi => h i (by omega))]
section EDW
variable {x : X} {j : Nat} {row : Nat → Int32}
theorem edX_bE : bE (im (edX x j row)) = bE (im x) + 1 := edX_r (x := x) (j := j) (row := row)
theorem edX_bC : bC (im (edX x j row)) = bC (im x) := edX_rk (x := x) (j := j) (row := row) (k := 5) (by decide)
theorem edX_bO : bO (im (edX x j row)) = bO (im x) := edX_rk (x := x) (j := j) (row := row) (k := 7) (by decide)
theorem edX_ce : bce (im (edX x j row)) = bce (im x) := edX_ck (x := x) (j := j) (row := row) (k := 5) (by decide)
theorem edX_ob : bob (im (edX x j row)) = bob (im x) := edX_ck (x := x) (j := j) (row := row) (k := 7) (by decide)
theorem edX_nw : bnw (im (edX x j row)) = uf (bnw (im x)) j (nI (bE (im x))) := rfl
theorem WF_edX (hW : WF (im x)) (hE : bE (im x) < 150) (h0 : row 0 = nI j) (hed : EdOk (im (edX x j row)) (bE (im x))) : WF (im (edX x j row)) := by
  have bo : ∀ e k, e < bE (im x) → bed (im (edX x j row)) e k = bed (im x) e k := fun e k he => by rw [edX_e, if_neg (by omega)]
  refine ⟨⟨by rw [edX_bC]; exact hW.1.1, by rw [edX_bE]; omega, by rw [edX_bO]; exact hW.1.2.2⟩, fun c hc => ?_, fun e he => ?_, fun o ho => ?_, fun j' hj' => ?_⟩
  · rw [edX_bC] at hc
    exact CelOk_c (hW.2.1 c hc) (fun i => by rw [edX_ce]) (by rw [edX_bE]; omega)
  · rw [edX_bE] at he
    by_cases hee : e = bE (im x)
    · subst hee; exact hed
    · have he' : e < bE (im x) := by omega
      refine EdOk_c hW.1.2.1 (hW.2.2.1 e he') he' (fun e' i h1 _ => bo e' i h1) (by rw [edX_bC]; exact Nat.le_refl _) (by rw [edX_bE]; omega) (by rw [edX_bO]; exact Nat.le_refl _) (fun hs => ?_)
      obtain ⟨⟨nf, nm, l, hcl⟩, hst⟩ := (hW.2.2.1 e he').2.2.2.2 hs
      exact StOk_c hW.1.2.1 (by rw [edX_bE]; omega) hcl hst he' (bo e 5 he') (fun e' h1 => bo e' 6 h1)
  · rw [edX_bO] at ho
    exact ObOk_c (hW.2.2.2.1 o ho) (fun i => by rw [edX_ob]) (fun e he => bo e 2 he) (by rw [edX_bE]; omega) (by rw [edX_bO]; exact Nat.le_refl _)
  · rw [edX_nw]
    by_cases hjj : j' = j
    · subst hjj
      rw [uf_eq]
      exact Or.inr ⟨bE (im x), by rw [edX_bE]; omega, rfl, by rw [edX_e, if_pos rfl]; exact h0⟩
    · rw [uf_ne hjj]
      rcases hW.2.2.2.2 j' hj' with w | ⟨e, w1, w2, w3⟩
      · exact Or.inl w
      · exact Or.inr ⟨e, by rw [edX_bE]; omega, w2, by rw [bo e 0 w1]; exact w3⟩
theorem RelI_edX {g g1 : Nat → Int32} (hW : WF (im x)) (hE : bE (im x) < 150) (hj : j < 16) (hR : RelI (im x) g) (h1 : ∀ i, i ≠ 1 → i ≠ 4 + j → (i < 7220 + 70 * bE (im x) ∨ 7220 + 70 * bE (im x) + 70 ≤ i) → g1 i = g i) (h2 : g1 1 = nI (bE (im x) + 1)) (h3 : g1 (4 + j) = nI (bE (im x)) + nI 1) (h4 : relE row (fun i => g1 (7220 + 70 * bE (im x) + i))) (h5 : g1 (7220 + 70 * bE (im x) + 6) = nI 0) : RelI (im (edX x j row)) g1 := by
  have hB := hW.1
  have bo : ∀ e k, e < bE (im x) → bed (im (edX x j row)) e k = bed (im x) e k := fun e k he => by rw [edX_e, if_neg (by omega)]
  have hcn : ∀ e, cntO (im (edX x j row)) e = cntO (im x) e := fun e => by unfold cntO; rw [edX_ob, edX_bO]
  refine RelI_upd hR ?_ ?_ ?_ (fun j' hj' => ?_) (fun c hc => Or.inl ?_) (fun e he => ?_) (fun e he hs => ?_) (fun o ho => Or.inl ?_)
  · rw [h1 0 (by omega) (by omega) (by omega), edX_bC]; exact hR.1.1
  · rw [h2, edX_bE]
  · rw [h1 2 (by omega) (by omega) (by omega), edX_bO]; exact hR.1.2.2.1
  · rw [edX_nw]
    by_cases hjj : j' = j
    · subst hjj; rw [uf_eq]; exact h3
    · rw [uf_ne hjj, h1 _ (by omega) (by omega) (by omega)]; exact hR.1.2.2.2 j' hj'
  · rw [edX_bC] at hc
    exact ⟨hc, fun i _ => by rw [edX_ce], fun i hi => h1 _ (by omega) (by omega) (by omega)⟩
  · rw [edX_bE] at he
    by_cases hee : e = bE (im x)
    · subst hee
      right
      have : bed (im (edX x j row)) (bE (im x)) = row := funext fun k => by rw [edX_e, if_pos rfl]
      rw [this]; exact h4
    · exact Or.inl ⟨by omega, fun i _ => bo e i (by omega), fun i hi _ => h1 _ (by omega) (by omega) (by omega)⟩
  · rw [edX_bE] at he
    rw [hcn]
    by_cases hee : e = bE (im x)
    · subst hee
      rw [h5]
      unfold cntO
      rw [cnt_zero _ (fun o ho => by
        obtain ⟨⟨e', he1, he2⟩, _⟩ := hW.2.2.2.1 o ho
        have := he1.1
        rw [he2]
        simp
        intro w
        rw [nI_eq (by omega) (by omega)] at w
        omega)]
    · rw [bo e 2 (by omega)] at hs
      rw [h1 _ (by omega) (by omega) (by omega)]
      exact (hR.2.2.1 e (by omega)).2 hs
  · rw [edX_bO] at ho
    exact ⟨ho, fun i _ => by rw [edX_ob], fun i hi => h1 _ (by omega) (by omega) (by omega)⟩
end EDW
section RFIN
variable (n : Nat)
/-- what the reference notes of a run, up to the edition -/
def Noted (M M' : MR) (c : Nat) (o f md : Int32) (w : Nat) : Prop := (∀ a, a ≠ 0 → M' a = M a) ∧ (∀ i, (i < 20 + 180 * c + 3 ∨ (20 + 180 * c + 8 ≤ i ∧ i < 20 + 180 * c + 71) ∨ 20 + 180 * c + 111 ≤ i) → M' 0 i = M 0 i) ∧ M' 0 (20 + 180 * c + 3) = o ∧ M' 0 (20 + 180 * c + 4) = f ∧ M' 0 (20 + 180 * c + 5) = M 23 0 ∧ M' 0 (20 + 180 * c + 6) = M 25 0 ∧ M' 0 (20 + 180 * c + 7) = md ∧ ∀ i, i < 20 → i < w → M' 0 (20 + 180 * c + 71 + 2 * i) = M 26 i ∧ M' 0 (20 + 180 * c + 72 + 2 * i) = M 27 i
def rTail (c : Nat) (M1 : MR) : Option (Int32 × MR) := gf M1 24 fun v2 => if v2 = 0 then bnd (fR_newEdition n (nI c) M1) fun v3 M3 => wr M3 0 62610 (nI (20 + 180 * c) + nI 7) (v3 + nI 1) fun M4 => bnd (fR_editAt n v3 M4) fun v5 M5 => rd M5 0 62610 (nI (20 + 180 * c) + nI 1) fun v6 => if v6 = 0 then rd M5 10 2000 (nI 0) fun v7 => if v7 = 0 then fR_run_b362 n (nI (20 + 180 * c)) v3 (v5 + nI 3) M5 else fR_run_b363 n (nI (20 + 180 * c)) v3 (v5 + nI 3) (nI 1) M5 else fR_run_b362 n (nI (20 + 180 * c)) v3 (v5 + nI 3) M5 else fR_run_b397 n (nI (20 + 180 * c)) M1
theorem r_note (hn : 1000 ≤ n) {M : MR} {c w r fl : Nat} (hc : c < 40) (hw : w ≤ 1000) (h25 : M 25 0 = nI w) (h26 : ∀ i, i < min w 20 → M 26 i = nI 0 ∨ M 26 i = nI 1) (h24 : M 24 0 = nI fl) (hr : (r = 0 ∧ fl = 0) ∨ (r = 1 ∧ 1 ≤ fl ∧ fl ≤ 8) ∨ (r = 2 ∧ fl = 100)) : ∃ M', fR_run_b117 n (nI c) (nI (20 + 180 * c)) M = rTail n c M' ∧ Noted M M' c (nI r) (nI (if fl = 100 then 0 else fl)) (nI 0) w := by
  obtain ⟨N, hN⟩ : ∃ N, N = mS (mS (mS (mS M 0 (20 + 180 * c + 3) (nI r)) 0 (20 + 180 * c + 4) (nI (if fl = 100 then 0 else fl))) 0 (20 + 180 * c + 5) (M 23 0)) 0 (20 + 180 * c + 6) (M 25 0) := ⟨_, rfl⟩
  have hNa : ∀ a, a ≠ 0 → N a = M a := fun a ha => by rw [hN, mS_o ha, mS_o ha, mS_o ha, mS_o ha]
  obtain ⟨M', r1, r2, r3, r4⟩ := r_vals n (M0 := N) hc hw (by rw [hNa 25 (by omega)]; exact h25) (fun i hi => by rw [hNa 26 (by omega)]; exact h26 i hi) 20 0 n N (by omega) (by omega) (fun _ _ => rfl) (fun _ _ => rfl) (fun i hi => by omega)
  have e174 : ∀ (N0 : MR) (v : Int32), (∀ a, a ≠ 0 → N0 a = M a) → mS (mS (mS N0 0 (20 + 180 * c + 4) v) 0 (20 + 180 * c + 5) (M 23 0)) 0 (20 + 180 * c + 6) (M 25 0) = N → fR_run_b174 n (nI c) (nI (20 + 180 * c)) (nI (20 + 180 * c) + nI 4) v N0 = fR_run_l203 n n (nI c) (nI (20 + 180 * c)) (nI 0) N := by
    intro N0 v h1 h2
    unfold fR_run_b174
    rw [nI_add, wr_at (by omega) (by decide), gf_e (v := M 23 0) (by rw [mS_ne (by omega), h1 23 (by omega)]), nI_add, wr_at (by omega) (by decide), gf_e (v := M 25 0) (by rw [mS_ne (by omega), mS_ne (by omega), h1 25 (by omega)]), nI_add, wr_at (by omega) (by decide), h2]
  have e149 : fR_run_b149 n (nI c) (nI (20 + 180 * c)) (nI (20 + 180 * c) + nI 3) (nI r) M = fR_run_l203 n n (nI c) (nI (20 + 180 * c)) (nI 0) N := by
    unfold fR_run_b149
    rw [nI_add, wr_at (by omega) (by decide), gf_e (v := nI fl) (by rw [mS_ne (by omega)]; exact h24)]
    by_cases h100 : fl = 100
    · rw [if_pos (by rw [h100]), e174 _ _ (fun a ha => by rw [mS_o ha]) (by rw [hN, if_pos h100])]
    · rw [if_neg (fun w => by rw [nI_eq (by omega) (by omega)] at w; exact h100 w), gf_e (v := nI fl) (by rw [mS_ne (by omega)]; exact h24), e174 _ _ (fun a ha => by rw [mS_o ha]) (by rw [hN, if_neg h100])]
  refine ⟨mS M' 0 (20 + 180 * c + 7) (nI 0), ?_, fun a ha => by rw [mS_o ha, r2 a ha, hNa a ha], fun i hi => ?_, ?_, ?_, ?_, ?_, mS_eq, fun i hi hiw => ?_⟩
  · have e117 : fR_run_b117 n (nI c) (nI (20 + 180 * c)) M = fR_run_b149 n (nI c) (nI (20 + 180 * c)) (nI (20 + 180 * c) + nI 3) (nI r) M := by
      unfold fR_run_b117
      rw [gf_e h24]
      rcases hr with ⟨rfl, rfl⟩ | ⟨rfl, q1, q2⟩ | ⟨rfl, rfl⟩
      · rw [if_pos n0_0]
      · rw [if_neg (fun w => by rw [← nI_0, nI_eq (by omega) (by omega)] at w; omega), gf_e h24, if_neg (fun w => by rw [nI_eq (by omega) (by omega)] at w; omega)]
      · rw [if_neg (by decide), gf_e h24, if_pos rfl]
    rw [e117, e149, r1, fR_run_l203, if_pos (Int32.le_refl _), nI_add, wr_at (by omega) (by decide)]
    unfold rTail
    simp only [nI_add]
  · rw [mS_ne2 (by omega), r3 i (by omega), hN, mS_ne2 (by omega), mS_ne2 (by omega), mS_ne2 (by omega), mS_ne2 (by omega)]
  · rw [mS_ne2 (by omega), r3 _ (by omega), hN, mS_ne2 (by omega), mS_ne2 (by omega), mS_ne2 (by omega), mS_eq]
  · rw [mS_ne2 (by omega), r3 _ (by omega), hN, mS_ne2 (by omega), mS_ne2 (by omega), mS_eq]
  · rw [mS_ne2 (by omega), r3 _ (by omega), hN, mS_ne2 (by omega), mS_eq]
  · rw [mS_ne2 (by omega), r3 _ (by omega), hN, mS_eq]
  · rw [mS_ne2 (by omega), mS_ne2 (by omega), (r4 i hi hiw).1, (r4 i hi hiw).2, hNa 26 (by omega), hNa 27 (by omega)]
    exact ⟨rfl, rfl⟩
/-- the cell's row, as noted on both sides -/
theorem relC_note {x : X} {M M' : MR} {c w : Nat} {o f md : Int32} (hr : relC (bce (im x) c) (fun i => M 0 (20 + 180 * c + i))) (hfl : ¬ bce (im x) c 125 = nI 2) (hN : Noted M M' c o f (md + nI 1) w) (hw1 : x.1 15 0 = nI w) (hw2 : M 25 0 = nI w) (hww : w ≤ 1000) (hs : x.1 16 0 = M 23 0) (h17 : x.1 17 0 = f) (hq : x.2.1 2 = min w 20) (hv : ∀ i, i < min w 20 → M 26 i = x.2.2.1 2 i 0 ∧ M 27 i = x.2.2.1 2 i 1) : relC (bce (im (nrX x c o md (x.2.1 2))) c) (fun i => M' 0 (20 + 180 * c + i)) := by
  obtain ⟨n1, n2, n3, n4, n5, n6, n7, n8⟩ := hN
  obtain ⟨a0, a1, a2, a11, a4, _⟩ := hr
  obtain ⟨a8, a9⟩ := a4 hfl
  have hb : ∀ k, bce (im (nrX x c o md (x.2.1 2))) c k = nrow x c o md (x.2.1 2) k := fun k => by
    show (if c = c then nrow x c o md (x.2.1 2) k else _) = _
    rw [if_pos rfl]
  have ho : ∀ k, 5 ≤ k → k < 85 → bce (im (nrX x c o md (x.2.1 2))) c k = bce (im x) c k := fun k h1 h2 => by
    rw [hb]
    unfold nrow
    rw [if_neg (by omega), if_neg (by omega), if_neg (by omega), if_neg (by omega), if_neg (by omega), if_neg (by omega), if_neg (by omega), if_neg (by omega)]
    rfl
  have b3 : bce (im (nrX x c o md (x.2.1 2))) c 3 = x.1 15 0 := by rw [hb]; rfl
  refine ⟨?_, ?_, ?_, fun i hi hl => ?_, fun _ => ⟨?_, fun i hi hl => ?_⟩, fun _ => ⟨?_, ?_, ?_, ?_, ?_, fun i hi hl => ?_⟩⟩
  · rw [ho 5 (by omega) (by omega)]; exact (n2 _ (by omega)).trans a0
  · rw [ho 6 (by omega) (by omega)]; exact (n2 _ (by omega)).trans a1
  · rw [ho 8 (by omega) (by omega)]; exact (n2 _ (by omega)).trans a2
  · rw [ho 8 (by omega) (by omega)] at hl
    rw [ho (9 + i) (by omega) (by omega)]
    exact (n2 _ (by omega)).trans (a11 i hi hl)
  · rw [ho 7 (by omega) (by omega)]; exact (n2 _ (by omega)).trans a8
  · rw [ho 7 (by omega) (by omega)] at hl
    rw [ho (69 + i) (by omega) (by omega)]
    exact (n2 _ (by omega)).trans (a9 i hi hl)
  · rw [hb]; exact n3
  · rw [hb]; exact n4.trans h17.symm
  · rw [hb]; exact n5.trans hs.symm
  · rw [b3]; exact n6.trans (hw2.trans hw1.symm)
  · rw [hb]; exact n7
  · rw [b3, hw1] at hl
    have hiw : i < w := Nat.lt_of_not_le (fun q => nI_nlt q (by omega) hl)
    have hq2 : i < x.2.1 2 := by omega
    obtain ⟨v1, v2⟩ := hv i (by omega)
    rw [hb, hb]
    unfold nrow
    rw [if_neg (by omega), if_neg (by omega), if_neg (by omega), if_neg (by omega), if_neg (by omega), if_pos (by omega), if_neg (by omega), if_neg (by omega), if_neg (by omega), if_neg (by omega), if_neg (by omega), if_neg (by omega), if_pos (by omega), show 85 + i - 85 = i by omega, show 105 + i - 105 = i by omega]
    refine ⟨?_, ?_⟩
    · show M' 0 (20 + 180 * c + (71 + 2 * i)) = _
      rw [← Nat.add_assoc, (n8 i hi hiw).1, v1]
    · show M' 0 (20 + 180 * c + (72 + 2 * i)) = _
      rw [← Nat.add_assoc, (n8 i hi hiw).2, v2]
theorem nrX_fl {x : X} {c q r : Nat} {o md : Int32} (hq : q ≤ 20) : bce (im (nrX x c o md q)) r 125 = if r = c then nI 0 else bce (im x) r 125 := by
  show (if r = c then nrow x c o md q 125 else x.2.2.1 5 r 125) = _
  by_cases hr : r = c
  · rw [if_pos hr, if_pos hr]
    unfold nrow
    rw [if_neg (by omega), if_neg (by omega), if_neg (by omega), if_neg (by omega), if_neg (by omega), if_neg (by omega), if_neg (by omega), if_pos rfl]
  · rw [if_neg hr, if_neg hr]; rfl
theorem nrX_same {x : X} {c q : Nat} {o md : Int32} : SameC (im x) (im (nrX x c o md q)) c := by
  refine ⟨rfl, rfl, rfl, rfl, rfl, rfl, fun r hr => funext fun k => ?_⟩
  show (if r = c then nrow x c o md q k else x.2.2.1 5 r k) = _
  rw [if_neg hr]; rfl
theorem CelOk_note {x : X} {c q : Nat} {o md : Int32} (hq : q ≤ 20) (h : CelOk (im x) c) : CelOk (im (nrX x c o md q)) c := by
  have ho : ∀ k, 5 ≤ k → k < 85 → bce (im (nrX x c o md q)) c k = bce (im x) c k := fun k h1 h2 => by
    show (if c = c then nrow x c o md q k else _) = _
    rw [if_pos rfl]
    unfold nrow
    rw [if_neg (by omega), if_neg (by omega), if_neg (by omega), if_neg (by omega), if_neg (by omega), if_neg (by omega), if_neg (by omega), if_neg (by omega)]
    rfl
  obtain ⟨h1, h2, h3, q', h4, h5, h6⟩ := h
  unfold CelOk
  rw [ho 5 (by omega) (by omega), ho 6 (by omega) (by omega), ho 8 (by omega) (by omega)]
  refine ⟨h1, h2, h3, q', h4, by rw [ho 7 (by omega) (by omega)]; exact h5, fun i hi => ?_⟩
  rw [ho (69 + i) (by omega) (by omega)]
  exact h6 i hi
end RFIN
