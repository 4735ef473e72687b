section ADDC
variable {x : X} {j : Nat} (n : Nat)
/-- what is inherited at a column -/
def inhv (B : Im) (par : Int32) (q : Nat) : Int32 := if par = -1 then (if q < 14 then -1 else 0) else bed B par.toNatClampNeg q
def RowC (x : X) (tx : Nat → Int32) (row : Nat → Int32) (j c nf nm L : Nat) : Prop := (row 0 = nI j ∧ row 1 = nI c ∧ row 2 = nI 1 ∧ row 3 = 0 ∧ row 4 = 0 ∧ row 5 = tx 0 ∧ row 6 = 0 ∧ row 7 = nI (mpl tx nf nm - 1) ∧ row 8 = nI L) ∧ (∀ i, i < L → row (44 + i) = tx i) ∧ (∀ f, f < 10 → row (24 + f) = ohd (fOf tx nf f) (inhv (im x) (tx 0) (24 + f)) (fun _ => nI 1) ∧ row (34 + f) = ohd (fOf tx nf f) (inhv (im x) (tx 0) (34 + f)) (fun k => tx (3 + 2 * k))) ∧ (∀ m, m < 5 → row (9 + m) = ohd (mOf tx nf nm m) (inhv (im x) (tx 0) (9 + m)) (fun _ => nI (x.2.1 6)) ∧ row (14 + m) = ohd (mOf tx nf nm m) (inhv (im x) (tx 0) (14 + m)) (fun k => nI (mpl tx nf k + 1)) ∧ row (19 + m) = ohd (mOf tx nf nm m) (inhv (im x) (tx 0) (19 + m)) (fun k => nI (mpl tx nf k + 1 + (tx (mpl tx nf k)).toNatClampNeg)))
theorem x_addCls {S : CS} {c nf nm L : Nat} {tx : Nat → Int32} (hn : 1000 ≤ n) (h : CR S x) (hE : x.2.1 6 < 150) (hc : c < x.2.1 5) (hc2 : c < 1000) (hj : j < 16) (h5 : bce (im x) c 5 = nI j) (h6 : bce (im x) c 6 = nI 1) (htx : tx = x.1 13) (hL : L ≤ 60) (hL6 : x.1 6 0 = nI L) (hnf : nf ≤ 4) (hnm : nm ≤ 3) (h9 : x.1 9 0 = nI (mpl tx nf nm - 1)) (h8 : x.1 8 0 = tx 0) (hpar : tx 0 = -1 ∨ ∃ p, tx 0 = nI p ∧ Cc (im x) p) (hF : FldI x tx nf) (hM : MthI (im x) x tx nf nm) : Ru (f0_addClass n (nI c) S) (nI (x.2.1 6)) (fun S' => ∃ row, CR S' (edX x j row) ∧ RowC x tx row j c nf nm L) := by
  unfold f0_addClass
  refine Ru_bnd (x_addEd n hn h hE hc hc2 hj h5 h6) (fun S1 h1 => ?_)
  refine Rc_cg (by decide) h1 ?_
  rw [edX_1 (by omega), h8]
  refine Rc_ed n h1 (show 5 < 104 by omega) (fun S2 h2 => ?_)
  refine Rc_cg (by decide) h2 ?_
  rw [edX_1 (by omega), h9]
  refine Rc_ed n h2 (show 7 < 104 by omega) (fun S3 h3 => ?_)
  refine Rc_cg (by decide) h3 ?_
  rw [edX_1 (by omega), hL6]
  refine Rc_ed n h3 (show 8 < 104 by omega) (fun S4 h4 => ?_)
  refine Rc_cg (by decide) h4 ?_
  rw [edX_1 (by omega), h8]
  obtain ⟨row1, hrow1⟩ : ∃ r, r = uf (uf (uf (row0 j c 1) 5 (tx 0)) 7 (nI (mpl tx nf nm - 1))) 8 (nI L) := ⟨_, rfl⟩
  rw [← hrow1] at h4
  have r1v : ∀ q, 9 ≤ q → row1 q = 0 := fun q hq => by
    rw [hrow1, uf_ne (by omega), uf_ne (by omega), uf_ne (by omega)]
    unfold row0
    rw [if_neg (by omega), if_neg (by omega), if_neg (by omega)]
  have hinh : Ru (f0_inherit n (nI (x.2.1 6)) (tx 0) S4) 0 (fun S' => ∃ row', CR S' (edX x j row') ∧ ∀ q, row' q = if 9 ≤ q ∧ q < 44 then inhv (im x) (tx 0) q else row1 q) := by
    unfold f0_inherit
    rcases hpar with w | ⟨p, w, hp⟩
    · rw [w, if_pos rfl]
      refine Ru_imp (x_inh0 n 5 0 n S4 row1 (by omega) (by omega) h4) (fun S' ⟨row', h', h2⟩ => ⟨row', h', fun q => ?_⟩)
      rw [h2 q]
      unfold inhv
      rw [if_pos rfl]
      by_cases hq : 9 ≤ q ∧ q < 44
      · rw [if_pos hq]
        by_cases hq2 : q < 14
        · rw [if_pos hq2, if_pos (by omega)]
        · rw [if_neg hq2, if_neg (by omega), r1v q (by omega)]
      · rw [if_neg hq, if_neg (by omega)]
    · have hpE : p < x.2.1 6 := hp.1
      rw [w, if_neg (fun q => m1_n p (by omega) q.symm)]
      refine Ru_imp (x_inhP n hpE hE 35 9 n S4 row1 (by omega) (by omega) h4) (fun S' ⟨row', h', h2⟩ => ⟨row', h', fun q => ?_⟩)
      rw [h2 q]
      unfold inhv
      rw [if_neg (show ¬ nI p = -1 from fun w => m1_n p (by omega) w.symm), nI_clamp (by omega)]
  refine Ru_bnd hinh (fun S5 ⟨row2, h5', h6'⟩ => ?_)
  obtain ⟨S6, row3, e1, c1, f1, f2⟩ := x_clsF n hnf hF nf 0 n S5 row2 (by omega) (by omega) h5'
  obtain ⟨S7, row4, e2, c2, g1, g2⟩ := x_clsM n hE hnm hM nm 0 n S6 row3 (by omega) (by omega) c1
  rw [e1, e2]
  refine Ru_imp (x_clsC n hL hL6 L 0 n S7 row4 (by omega) (by omega) c2) (fun S' ⟨row5, h', h2⟩ => ⟨row5, h', ?_, fun i hi => ?_, fun f hf => ?_, fun m hm => ?_⟩)
  · have low : ∀ q, q < 9 → row5 q = row1 q := fun q hq => by rw [h2 q, if_neg (by omega), g1 q (by omega), f1 q (by omega), h6' q, if_neg (by omega)]
    rw [low 0 (by omega), low 1 (by omega), low 2 (by omega), low 3 (by omega), low 4 (by omega), low 5 (by omega), low 6 (by omega), low 7 (by omega), low 8 (by omega), hrow1]
    refine ⟨?_, ?_, ?_, ?_, ?_, ?_, ?_, ?_, ?_⟩
    · rw [uf_ne (by omega), uf_ne (by omega), uf_ne (by omega)]; rfl
    · rw [uf_ne (by omega), uf_ne (by omega), uf_ne (by omega)]; rfl
    · rw [uf_ne (by omega), uf_ne (by omega), uf_ne (by omega)]; rfl
    · rw [uf_ne (by omega), uf_ne (by omega), uf_ne (by omega)]; rfl
    · rw [uf_ne (by omega), uf_ne (by omega), uf_ne (by omega)]; rfl
    · rw [uf_ne (by omega), uf_ne (by omega), uf_eq]
    · rw [uf_ne (by omega), uf_ne (by omega), uf_ne (by omega)]; rfl
    · rw [uf_ne (by omega), uf_eq]
    · rw [uf_eq]
  · rw [h2, if_pos (by omega), show 44 + i - 44 = i by omega, htx]
  · rw [h2, if_neg (by omega), h2, if_neg (by omega), g1 _ (by omega), g1 _ (by omega), (f2 f hf).1, (f2 f hf).2, h6', if_pos (by omega), h6', if_pos (by omega)]
    exact ⟨rfl, rfl⟩
  · rw [h2, if_neg (by omega), h2, if_neg (by omega), h2, if_neg (by omega), (g2 m hm).1, (g2 m hm).2.1, (g2 m hm).2.2, f1 _ (by omega), f1 _ (by omega), f1 _ (by omega), h6', if_pos (by omega), h6', if_pos (by omega), h6', if_pos (by omega)]
    exact ⟨rfl, rfl, rfl⟩
end ADDC
theorem fnd_c {P P' : Nat → Bool} : ∀ r k, (∀ i, k ≤ i → i < k + r → P' i = P i) → fnd P' k r = fnd P k r
  | 0, _, _ => rfl
  | r + 1, k, h => by
    rw [fnd, fnd, h k (Nat.le_refl _) (by omega), fnd_c r (k + 1) (fun i h1 h2 => h i (by omega) (by omega))]
theorem ohd_c {α : Type} {o : Option Nat} {d : α} {f g : Nat → α} (h : ∀ k, o = some k → f k = g k) : ohd o d f = ohd o d g := by
  cases o with
  | none => rfl
  | some k => exact h k rfl
/-- the new class is right -/
theorem cls_new {x : X} {j c nf nm L : Nat} {tx row : Nat → Int32} (hE : x.2.1 6 < 150) (hr : RowC x tx row j c nf nm L) (ht : tx 1 = nI nf ∧ nf ≤ 4 ∧ tx (2 + 2 * nf) = nI nm ∧ nm ≤ 3 ∧ mpl tx nf nm ≤ L + 1 ∧ L ≤ 60) (hpar : tx 0 = -1 ∨ ∃ p, tx 0 = nI p ∧ Cc (im x) p) (hM : MthI (im x) x tx nf nm) (hst : mpl tx nf nm = L + 1 ∨ okC (im x) tx false L (mpl tx nf nm - 1) 0) : ClsOk (im (edX x j row)) (bE (im x)) nf nm L := by
  obtain ⟨⟨r0, r1, r2, r3, r4, r5, r6, r7, r8⟩, rt, rf, rm⟩ := hr
  obtain ⟨t1, t2, t3, t4, t5, t6⟩ := ht
  have mg := mpl_ge tx nf nm
  have hbE : bE (im x) = x.2.1 6 := rfl
  have be : ∀ k, bed (im (edX x j row)) (bE (im x)) k = row k := fun k => by rw [edX_e, if_pos rfl]
  have bo : ∀ e k, e < bE (im x) → bed (im (edX x j row)) e k = bed (im x) e k := fun e k he => by rw [edX_e, if_neg (by omega)]
  have hV : ∀ e, Vv (im x) e → Vv (im (edX x j row)) e := fun e q => ⟨Nat.lt_succ_of_lt q.1 |> fun w => by show e < (edX x j row).2.1 6; rw [edX_r]; exact w, by rw [bo e 2 q.1]; exact q.2⟩
  have hCc : ∀ e, Cc (im x) e → Cc (im (edX x j row)) e := fun e q => ⟨Nat.lt_succ_of_lt q.1 |> fun w => by show e < (edX x j row).2.1 6; rw [edX_r]; exact w, by rw [bo e 2 q.1]; exact q.2⟩
  have te : ∀ i, i < L → ett (im (edX x j row)) (bE (im x)) i = tx i := fun i hi => by show bed (im (edX x j row)) (bE (im x)) (44 + i) = _; rw [be, rt i hi]
  have hm : ∀ k, k ≤ nm → mpl (ett (im (edX x j row)) (bE (im x))) nf k = mpl tx nf k := mpl_c (fun i hi => te i (by omega))
  have hmlt : ∀ k, k < nm → mpl tx nf k + 1 ≤ L ∧ 4 ≤ mpl tx nf k := fun k hk => by
    have := mpl_mono tx nf (show k + 1 ≤ nm by omega)
    have m2 : mpl tx nf (k + 1) = mpl tx nf k + 2 + (tx (mpl tx nf k)).toNatClampNeg := rfl
    have := mpl_ge tx nf k
    omega
  have ok : ∀ b en p k, en ≤ L → okC (im x) tx b en p k → okC (im (edX x j row)) (ett (im (edX x j row)) (bE (im x))) b en p k := fun b en p k hen ⟨q, w⟩ => ⟨q, okc_c hV hCc q p k (fun i _ hi => te i (by omega)) w⟩
  have hin : ∀ q d, 9 ≤ q → q < 44 → (d = if q < 14 then -1 else 0) → inh (im (edX x j row)) (bE (im x)) q d = inhv (im x) (tx 0) q := by
    intro q d h1 h2 hd
    unfold inhv
    rcases hpar with w | ⟨p, w, hp⟩
    · rw [inh_n (by rw [be, r5]; exact w), if_pos w, hd]
    · rw [inh_p (p := p) (by rw [be, r5]; exact w) (by have := hp.1; omega), w, if_neg (fun q => m1_n p (by have := hp.1; omega) q.symm), nI_clamp (by have := hp.1; omega), bo p q hp.1]
  have hfo : ∀ f, fOf (ett (im (edX x j row)) (bE (im x))) nf f = fOf tx nf f := fun f => fnd_c nf 0 (fun i _ hi => by rw [te _ (by omega)])
  have hmo : ∀ m, mOf (ett (im (edX x j row)) (bE (im x))) nf nm m = mOf tx nf nm m := fun m => fnd_c nm 0 (fun i _ hi => by
    have := hmlt i (by omega)
    rw [hm i (by omega), te _ (by omega)])
  refine ⟨⟨?_, t2, ?_, t4, ?_, ?_, ?_, t6⟩, fun k hk => ?_, ?_, ⟨?_, ?_⟩, fun f hf => ?_, fun m hmm => ?_⟩
  · rw [te 1 (by omega)]; exact t1
  · rw [te _ (by omega)]; exact t3
  · rw [be, hm nm (Nat.le_refl _)]; exact r7
  · rw [be]; exact r8
  · rw [hm nm (Nat.le_refl _)]; exact t5
  · obtain ⟨_, _, len, l1, l2, l3, l4, l5⟩ := hM.2.1 k hk
    have := hmlt k hk
    have m3 := mpl_mono tx nf (show k + 1 ≤ nm by omega)
    have m2 : mpl tx nf (k + 1) = mpl tx nf k + 2 + len := by rw [mpl, l2, nI_clamp (by omega)]
    rw [hm k (by omega)]
    exact ⟨len, by rw [te _ (by omega)]; exact l2, l1, ok _ _ _ _ (by omega) l5⟩
  · rw [hm nm (Nat.le_refl _)]
    rcases hst with w | w
    · exact Or.inl w
    · exact Or.inr (ok _ _ _ _ (Nat.le_refl _) w)
  · rw [te 0 (by omega), be, r5]
  · rw [be, r5]
    rcases hpar with w | ⟨p, w, hp⟩
    · exact Or.inl w
    · exact Or.inr ⟨p, w, hp.1, by rw [bo p 2 hp.1]; exact hp.2⟩
  · rw [be, be, hfo, hin (24 + f) 0 (by omega) (by omega) (by rw [if_neg (by omega)]), hin (34 + f) 0 (by omega) (by omega) (by rw [if_neg (by omega)]), (rf f hf).1, (rf f hf).2]
    refine ⟨rfl, ohd_c (fun k hk => ?_)⟩
    have := (fnd_some hk).2.1
    rw [te _ (by omega)]
  · rw [be, be, be, hmo, hin (9 + m) (-1) (by omega) (by omega) (by rw [if_pos (by omega)]), hin (14 + m) 0 (by omega) (by omega) (by rw [if_neg (by omega)]), hin (19 + m) 0 (by omega) (by omega) (by rw [if_neg (by omega)]), (rm m hmm).1, (rm m hmm).2.1, (rm m hmm).2.2]
    refine ⟨rfl, ohd_c (fun k hk => ?_), ohd_c (fun k hk => ?_)⟩
    · have := (fnd_some hk).2.1
      rw [hm k (by omega)]
    · have := (fnd_some hk).2.1
      have := hmlt k (by omega)
      rw [hm k (by omega), te _ (by omega)]
