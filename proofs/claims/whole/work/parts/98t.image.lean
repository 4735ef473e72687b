-- ===== images: what is kept, and what is again =====
theorem RelI_g {B : Im} {g g' : Nat → Int32} (h : RelI B g) (hB : bC B ≤ 40 ∧ bE B ≤ 150 ∧ bO B ≤ 150) (hg : ∀ i, i < 20870 → g' i = g i) : RelI B g' := by
  refine RelI_upd h ?_ ?_ ?_ (fun j hj => ?_) (fun c hc => Or.inl ⟨hc, fun _ _ => rfl, fun i hi => hg _ (by omega)⟩) (fun e he => Or.inl ⟨he, fun _ _ => rfl, fun i hi _ => hg _ (by omega)⟩) (fun e he hs => ?_) (fun o ho => Or.inl ⟨ho, fun _ _ => rfl, fun i hi => hg _ (by omega)⟩)
  · rw [hg 0 (by omega)]; exact h.1.1
  · rw [hg 1 (by omega)]; exact h.1.2.1
  · rw [hg 2 (by omega)]; exact h.1.2.2.1
  · rw [hg _ (by omega)]; exact h.1.2.2.2 j hj
  · rw [hg _ (by omega)]; exact (h.2.2.1 e he).2 hs
def wNw (B : Im) (w : Nat → Int32) : Im := (bC B, bE B, bO B, bce B, bed B, bob B, w)
theorem WF_w {B : Im} {w : Nat → Int32} (h : WF B) (hw : ∀ j, j < 16 → w j = bnw B j) : WF (wNw B w) := WF_same h rfl rfl rfl rfl (Nat.le_refl _) h.1.2.2 (fun o ho => h.2.2.2.1 o ho) (fun j hj => by rw [show bnw (wNw B w) j = w j from rfl, hw j hj]; exact h.2.2.2.2 j hj)
theorem RelI_w {B : Im} {w g : Nat → Int32} (h : RelI B g) (hw : ∀ j, j < 16 → w j = bnw B j) : RelI (wNw B w) g := ⟨⟨h.1.1, h.1.2.1, h.1.2.2.1, fun j hj => by rw [h.1.2.2.2 j hj, ← hw j hj]; rfl⟩, h.2.1, h.2.2.1, h.2.2.2⟩
def cpX (x y : X) (w : Nat → Int32) : X := (fun a => if a = 20 then w else x.1 a, fun k => if 5 ≤ k ∧ k < 8 then y.2.1 k else x.2.1 k, fun k => if 5 ≤ k ∧ k < 8 then y.2.2.1 k else x.2.2.1 k, x.2.2.2)
theorem cpX_im {x y : X} {w : Nat → Int32} : im (cpX x y w) = wNw (im y) w := rfl
/-- a kept image, against an image of plain functions -/
def IR (I : CS) (y : X) (ns : Nat → Nat) : Prop := I.1 20 = y.1 20 ∧ ∀ k, 5 ≤ k → k < 8 → sOk I k (y.2.1 k) ∧ (∀ r c, r < y.2.1 k → c < wk k → tv I k r c = y.2.2.1 k r c) ∧ I.2 (10 + k) = ns k * wk k ∧ 4 ≤ ns k ∧ ns k ≤ mk k
def IT (I : CS) (ns : Nat → Nat) : Prop := ∀ k, 5 ≤ k → k < 8 → (∃ R, sOk I k R) ∧ I.2 (10 + k) = ns k * wk k ∧ 4 ≤ ns k ∧ ns k ≤ mk k
theorem IR_T {I : CS} {y : X} {ns : Nat → Nat} (h : IR I y ns) : IT I ns := fun k h5 h8 => ⟨⟨_, (h.2 k h5 h8).1⟩, (h.2 k h5 h8).2.2⟩
theorem cp_at {I J : CS} {k : Nat} (h5 : 5 ≤ k) (h8 : k < 8) : (cpI I J).1 (50 + k) 0 = I.1 (50 + k) 0 ∧ (cpI I J).1 (60 + k) 0 = I.1 (60 + k) 0 ∧ (cpI I J).1 (40 + k) 0 = J.1 (40 + k) 0 ∧ (∀ b, (cpI I J).1 (30 + k) b = gfn (cu k (wk k) J) (I.2 (10 + k)) (I.1 (30 + k)) (J.1 (30 + k)) b) ∧ (cpI I J).2 (10 + k) = gcap (cu k (wk k) J) (I.2 (10 + k)) (J.2 (10 + k)) := by
  rcases (show k = 5 ∨ k = 6 ∨ k = 7 by omega) with rfl | rfl | rfl
  · exact ⟨rfl, rfl, rfl, fun _ => rfl, rfl⟩
  · exact ⟨rfl, rfl, rfl, fun _ => rfl, rfl⟩
  · exact ⟨rfl, rfl, rfl, fun _ => rfl, rfl⟩
theorem cp_o {I J : CS} {a : Nat} (h0 : a ≠ 20) (h1 : a < 35 ∨ 37 < a) (h2 : a < 45 ∨ 47 < a) : (cpI I J).1 a = I.1 a := by
  funext b
  unfold cpI
  dsimp only
  rw [if_neg h0, if_neg (by omega), if_neg (by omega), if_neg (by omega), if_neg (by omega), if_neg (by omega), if_neg (by omega)]
theorem cp_o2 {I J : CS} {i : Nat} (h1 : i < 15 ∨ 17 < i) (h2 : i ≠ 1) (h3 : i ≠ 2) : (cpI I J).2 i = I.2 i := by
  unfold cpI
  dsimp only
  rw [if_neg (by omega), if_neg (by omega), if_neg (by omega), if_neg h2, if_neg h3]
theorem cu_at {J : CS} {k R : Nat} (h : sOk J k R) : cu k (wk k) J = R * wk k := by
  have q := sOk_iff.mp h
  unfold cu
  rw [q.2.2.1, nI_clamp (by omega)]
theorem cp_ok {I J : CS} {k R0 R : Nat} (h5 : 5 ≤ k) (h8 : k < 8) (hI : sOk I k R0) (hJ : sOk J k R) : sOk (cpI I J) k R ∧ ∀ r c, r < R → c < wk k → tv (cpI I J) k r c = tv J k r c := by
  obtain ⟨a1, a2, a3, a4, a5⟩ := cp_at (I := I) (J := J) h5 h8
  obtain ⟨i1, i2, i3, i4, i5, i6, i7⟩ := sOk_iff.mp hI
  obtain ⟨j1, j2, j3, j4, j5, j6, j7⟩ := sOk_iff.mp hJ
  have hcu := cu_at hJ
  refine ⟨sOk_iff.mpr ⟨by rw [a1]; exact i1, by rw [a2]; exact i2, by rw [a3]; exact j3, j4, ?_, ?_, i7⟩, fun r c hr hc => ?_⟩
  · rw [a5, hcu]
    unfold gcap
    split
    · assumption
    · exact j5
  · rw [a5]
    unfold gcap
    split
    · exact i6
    · exact j6
  · unfold tv
    rw [a4, hcu]
    unfold gfn va_cpy
    have h1 : (r + 1) * wk k ≤ R * wk k := Nat.mul_le_mul_right _ hr
    rw [Nat.add_mul, Nat.one_mul] at h1
    rw [if_pos ⟨Nat.zero_le _, by omega⟩, Nat.zero_add, Nat.sub_zero]
def gst (s : Nat → Nat) (k u c2 : Nat) : Nat → Nat := fun i => if i = 10 + k then gcap u (s (10 + k)) c2 else if i = 1 then s 1 + gk u (s (10 + k)) else if i = 2 then s 2 + gs u (s (10 + k)) c2 else s i
theorem GI_st {s : Nat → Nat} {g1 g2 k u n2 : Nat} (hk : k < 8) (h : GI s g1 g2) (hu : u ≤ n2 * wk k) (hn : n2 ≤ mk k) : GI (gst s k u (n2 * wk k)) g1 g2 := by
  have e1 : gst s k u (n2 * wk k) 1 = s 1 + gk u (s (10 + k)) := by unfold gst; rw [if_neg (by omega), if_pos rfl]
  have e2 : gst s k u (n2 * wk k) 2 = s 2 + gs u (s (10 + k)) (n2 * wk k) := by unfold gst; rw [if_neg (by omega), if_neg (by omega), if_pos rfl]
  have e3 : gst s k u (n2 * wk k) (10 + k) = gcap u (s (10 + k)) (n2 * wk k) := by unfold gst; rw [if_pos rfl]
  have e4 : ∀ j, j ≠ k → gst s k u (n2 * wk k) (10 + j) = s (10 + j) := fun j hj => by unfold gst; rw [if_neg (by omega), if_neg (by omega), if_neg (by omega)]
  by_cases hf : u ≤ s (10 + k)
  · refine GI_congr h ?_ ?_ (fun j hj => ?_)
    · rw [e1]; unfold gk; rw [if_pos hf]; rfl
    · rw [e2]; unfold gs; rw [if_pos hf]; rfl
    · by_cases hjk : j = k
      · subst hjk; rw [e3]; unfold gcap; rw [if_pos hf]
      · exact e4 j hjk
  · refine GI_grow (n' := n2) hk h (by omega) hn ?_ ?_ ?_ (fun j hj hjk => e4 j hjk)
    · rw [e3]; unfold gcap; rw [if_neg hf]
    · rw [e1]; unfold gk; rw [if_neg hf]
    · rw [e2]; unfold gs; rw [if_neg hf]
theorem gst3 (s : Nat → Nat) (u5 u6 u7 c5 c6 c7 : Nat) : gst (gst (gst s 5 u5 c5) 6 u6 c6) 7 u7 c7 1 = s 1 + gk u5 (s 15) + gk u6 (s 16) + gk u7 (s 17) ∧ gst (gst (gst s 5 u5 c5) 6 u6 c6) 7 u7 c7 2 = s 2 + gs u5 (s 15) c5 + gs u6 (s 16) c6 + gs u7 (s 17) c7 ∧ gst (gst (gst s 5 u5 c5) 6 u6 c6) 7 u7 c7 15 = gcap u5 (s 15) c5 ∧ gst (gst (gst s 5 u5 c5) 6 u6 c6) 7 u7 c7 16 = gcap u6 (s 16) c6 ∧ gst (gst (gst s 5 u5 c5) 6 u6 c6) 7 u7 c7 17 = gcap u7 (s 17) c7 ∧ ∀ j, j < 5 → gst (gst (gst s 5 u5 c5) 6 u6 c6) 7 u7 c7 (10 + j) = s (10 + j) := by
  refine ⟨rfl, rfl, rfl, rfl, rfl, fun j hj => ?_⟩
  unfold gst
  rw [if_neg (by omega), if_neg (by omega), if_neg (by omega), if_neg (by omega), if_neg (by omega), if_neg (by omega), if_neg (by omega), if_neg (by omega), if_neg (by omega)]
theorem cp_c (I J : CS) : (cpI I J).2 1 = I.2 1 + (gk (cu 5 125 J) (I.2 15) + gk (cu 6 104 J) (I.2 16) + gk (cu 7 21 J) (I.2 17)) ∧ (cpI I J).2 2 = I.2 2 + (gs (cu 5 125 J) (I.2 15) (J.2 15) + gs (cu 6 104 J) (I.2 16) (J.2 16) + gs (cu 7 21 J) (I.2 17) (J.2 17)) ∧ (cpI I J).2 15 = gcap (cu 5 125 J) (I.2 15) (J.2 15) ∧ (cpI I J).2 16 = gcap (cu 6 104 J) (I.2 16) (J.2 16) ∧ (cpI I J).2 17 = gcap (cu 7 21 J) (I.2 17) (J.2 17) := by
  unfold cpI
  generalize cu 5 125 J = u5
  generalize cu 6 104 J = u6
  generalize cu 7 21 J = u7
  exact ⟨rfl, rfl, rfl, rfl, rfl⟩
theorem GI_cp {S I : CS} {ns : Nat → Nat} {r5 r6 r7 g1 g2 : Nat} (h4 : GI S.2 g1 g2) (p5 : sOk I 5 r5) (p6 : sOk I 6 r6) (p7 : sOk I 7 r7) (q5 : I.2 15 = ns 5 * wk 5) (q6 : I.2 16 = ns 6 * wk 6) (q7 : I.2 17 = ns 7 * wk 7) (m5 : ns 5 ≤ mk 5) (m6 : ns 6 ≤ mk 6) (m7 : ns 7 ≤ mk 7) : GI (cpI S I).2 g1 g2 := by
  have u5 : cu 5 125 I = r5 * wk 5 := cu_at p5
  have u6 : cu 6 104 I = r6 * wk 6 := cu_at p6
  have u7 : cu 7 21 I = r7 * wk 7 := cu_at p7
  have s5 : r5 * wk 5 ≤ I.2 15 := (sOk_iff.mp p5).2.2.2.2.1
  have s6 : r6 * wk 6 ≤ I.2 16 := (sOk_iff.mp p6).2.2.2.2.1
  have s7 : r7 * wk 7 ≤ I.2 17 := (sOk_iff.mp p7).2.2.2.2.1
  obtain ⟨c1, c2, c3, c4, c5⟩ := cp_c S I
  rw [u5, u6, u7] at c1 c2
  rw [u5] at c3
  rw [u6] at c4
  rw [u7] at c5
  rw [q5] at s5 c2 c3
  rw [q6] at s6 c2 c4
  rw [q7] at s7 c2 c5
  have g5 := GI_st (k := 5) (by decide) h4 s5 m5
  have g6 := GI_st (k := 6) (by decide) g5 s6 m6
  have g7 := GI_st (k := 7) (by decide) g6 s7 m7
  obtain ⟨t1, t2, t3, t4, t5, t6⟩ := gst3 S.2 (r5 * wk 5) (r6 * wk 6) (r7 * wk 7) (ns 5 * wk 5) (ns 6 * wk 6) (ns 7 * wk 7)
  refine GI_congr g7 (by rw [c1, t1]; omega) (by rw [c2, t2]; omega) (fun j hj => ?_)
  by_cases hj5 : j < 5
  · rw [t6 j hj5]
    exact cp_o2 (by omega) (by omega) (by omega)
  · rcases (show j = 5 ∨ j = 6 ∨ j = 7 by omega) with rfl | rfl | rfl
    · exact c3.trans t3.symm
    · exact c4.trans t4.symm
    · exact c5.trans t5.symm
theorem CR_back {S I : CS} {x y : X} {ns : Nat → Nat} (hC : CR S x) (hI : IR I y ns) : CR (cpI S I) (cpX x y ((cpI S I).1 20)) := by
  obtain ⟨h1, h2, h3, h4⟩ := hC
  obtain ⟨_, hI⟩ := hI
  refine ⟨fun a ha => ?_, fun k hk => ?_, fun k r c hk hr hc => ?_, ?_⟩
  · show _ = (if a = 20 then (cpI S I).1 20 else x.1 a)
    by_cases ha2 : a = 20
    · rw [if_pos ha2, ha2]
    · rw [if_neg ha2, cp_o ha2 (by omega) (by omega), h1 a ha]
  · show sOk _ k (if 5 ≤ k ∧ k < 8 then y.2.1 k else x.2.1 k)
    by_cases h5 : 5 ≤ k
    · rw [if_pos ⟨h5, hk⟩]
      exact (cp_ok h5 hk (h2 k hk) (hI k h5 hk).1).1
    · rw [if_neg (fun w => h5 w.1)]
      exact sOk_congr (by rw [cp_o (by omega) (by omega) (by omega)]) (by rw [cp_o (by omega) (by omega) (by omega)]) (by rw [cp_o (by omega) (by omega) (by omega)]) (cp_o2 (by omega) (by omega) (by omega)) (h2 k hk)
  · show _ = (if 5 ≤ k ∧ k < 8 then y.2.2.1 k else x.2.2.1 k) r c
    have hr : r < (if 5 ≤ k ∧ k < 8 then y.2.1 k else x.2.1 k) := hr
    by_cases h5 : 5 ≤ k
    · rw [if_pos ⟨h5, hk⟩] at hr ⊢
      rw [(cp_ok h5 hk (h2 k hk) (hI k h5 hk).1).2 r c hr hc]
      exact (hI k h5 hk).2.1 r c hr hc
    · rw [if_neg (fun w => h5 w.1)] at hr ⊢
      unfold tv
      rw [cp_o (by omega) (by omega) (by omega)]
      exact h3 k r c hk hr hc
  · show GI (cpI S I).2 x.2.2.2.1 x.2.2.2.2
    obtain ⟨p5, _, q5, _, r5⟩ := hI 5 (by omega) (by omega)
    obtain ⟨p6, _, q6, _, r6⟩ := hI 6 (by omega) (by omega)
    obtain ⟨p7, _, q7, _, r7⟩ := hI 7 (by omega) (by omega)
    exact GI_cp h4 p5 p6 p7 q5 q6 q7 r5 r6 r7
theorem grow_le {u n m w : Nat} (hu : u ≤ m * w) : gk u (n * w) + n ≤ (if u ≤ n * w then n else m) ∧ gs u (n * w) (m * w) + w * tri n ≤ w * tri (if u ≤ n * w then n else m) := by
  unfold gk gs
  by_cases h : u ≤ n * w
  · rw [if_pos h, if_pos h, if_pos h]; omega
  · rw [if_neg h, if_neg h, if_neg h]
    have hlt : n < m := Nat.lt_of_mul_lt_mul_right (show n * w < m * w by omega)
    refine ⟨by omega, ?_⟩
    have := Nat.mul_le_mul_left w (tri_lt hlt)
    rw [Nat.mul_add, Nat.mul_comm w m] at this
    omega
/-- the class's state is kept in an image -/
theorem IR_keep {S I : CS} {x : X} {ns : Nat → Nat} (hC : CR S x) (hI : IT I ns) : ∃ ns', IR (cpI I S) (cpX x x ((cpI I S).1 20)) ns' ∧ cpC I S + (ns 5 + ns 6 + ns 7) ≤ ns' 5 + ns' 6 + ns' 7 ∧ cpS I S + (125 * tri (ns 5) + 104 * tri (ns 6) + 21 * tri (ns 7)) ≤ 125 * tri (ns' 5) + 104 * tri (ns' 6) + 21 * tri (ns' 7) := by
  obtain ⟨h1, h2, h3, mS, h4, _, _⟩ := hC
  have hm : ∀ k, 5 ≤ k → k < 8 → max 4 (mk k) = mk k := fun k h5 h8 => by
    rcases (show k = 5 ∨ k = 6 ∨ k = 7 by omega) with rfl | rfl | rfl <;> rfl
  have hu : ∀ k, 5 ≤ k → k < 8 → cu k (wk k) S ≤ mS k * wk k := fun k h5 h8 => by
    rw [cu_at (h2 k h8), ← (h4 k h8).1]
    exact (sOk_iff.mp (h2 k h8)).2.2.2.2.1
  refine ⟨fun k => if cu k (wk k) S ≤ ns k * wk k then ns k else mS k, ⟨rfl, fun k h5 h8 => ?_⟩, ?_, ?_⟩
  · obtain ⟨⟨R0, i1⟩, i2, i3, i4⟩ := hI k h5 h8
    obtain ⟨c1, c2⟩ := cp_ok h5 h8 i1 (h2 k h8)
    have er : (cpX x x ((cpI I S).1 20)).2.1 k = x.2.1 k := by show (if 5 ≤ k ∧ k < 8 then x.2.1 k else x.2.1 k) = _; rw [if_pos ⟨h5, h8⟩]
    have et : (cpX x x ((cpI I S).1 20)).2.2.1 k = x.2.2.1 k := by show (if 5 ≤ k ∧ k < 8 then x.2.2.1 k else x.2.2.1 k) = _; rw [if_pos ⟨h5, h8⟩]
    rw [er, et]
    have ecap := (cp_at (I := I) (J := S) h5 h8).2.2.2.2
    refine ⟨c1, fun r c hr hc => by rw [c2 r c hr hc]; exact h3 k r c h8 hr hc, ?_, ?_, ?_⟩
    · rw [ecap, i2, (h4 k h8).1]
      unfold gcap
      dsimp only
      split <;> rfl
    · dsimp only
      split
      · exact i3
      · exact (h4 k h8).2.1
    · dsimp only
      split
      · exact i4
      · rw [← hm k h5 h8]; exact (h4 k h8).2.2
  · have g5 := (grow_le (n := ns 5) (hu 5 (by omega) (by omega))).1
    have g6 := (grow_le (n := ns 6) (hu 6 (by omega) (by omega))).1
    have g7 := (grow_le (n := ns 7) (hu 7 (by omega) (by omega))).1
    have e : cpC I S = gk (cu 5 (wk 5) S) (ns 5 * wk 5) + gk (cu 6 (wk 6) S) (ns 6 * wk 6) + gk (cu 7 (wk 7) S) (ns 7 * wk 7) := by
      rw [← (hI 5 (by omega) (by omega)).2.1, ← (hI 6 (by omega) (by omega)).2.1, ← (hI 7 (by omega) (by omega)).2.1]; rfl
    rw [e]
    dsimp only
    omega
  · have g5 := (grow_le (n := ns 5) (hu 5 (by omega) (by omega))).2
    have g6 := (grow_le (n := ns 6) (hu 6 (by omega) (by omega))).2
    have g7 := (grow_le (n := ns 7) (hu 7 (by omega) (by omega))).2
    have e : cpS I S = gs (cu 5 (wk 5) S) (ns 5 * wk 5) (mS 5 * wk 5) + gs (cu 6 (wk 6) S) (ns 6 * wk 6) (mS 6 * wk 6) + gs (cu 7 (wk 7) S) (ns 7 * wk 7) (mS 7 * wk 7) := by
      rw [← (hI 5 (by omega) (by omega)).2.1, ← (hI 6 (by omega) (by omega)).2.1, ← (hI 7 (by omega) (by omega)).2.1, ← (h4 5 (by omega)).1, ← (h4 6 (by omega)).1, ← (h4 7 (by omega)).1]; rfl
    rw [e]
    have w5 : wk 5 = 125 := rfl
    have w6 : wk 6 = 104 := rfl
    have w7 : wk 7 = 21 := rfl
    dsimp only
    rw [w5] at g5 ⊢
    rw [w6] at g6 ⊢
    rw [w7] at g7 ⊢
    omega
theorem cpOk_of {S I : CS} {a b : Nat → Nat} (hS : ∀ k, 5 ≤ k → k < 8 → sOk S k (a k)) (hI : ∀ k, 5 ≤ k → k < 8 → sOk I k (b k)) : cpOk I S := by
  have h : ∀ k, 5 ≤ k → k < 8 → I.1 (50 + k) 0 = nI (wk k) ∧ S.1 (50 + k) 0 = nI (wk k) ∧ S.1 (40 + k) 0 = nI (S.1 (40 + k) 0).toNatClampNeg ∧ cu k (wk k) S ≤ S.2 (10 + k) ∧ I.2 (10 + k) < 134217728 ∧ S.2 (10 + k) < 134217728 := fun k h5 h8 => by
    obtain ⟨i1, i2, i3, i4, i5, i6, i7⟩ := sOk_iff.mp (hI k h5 h8)
    obtain ⟨j1, j2, j3, j4, j5, j6, j7⟩ := sOk_iff.mp (hS k h5 h8)
    refine ⟨i1, j1, ?_, by rw [cu_at (hS k h5 h8)]; exact j5, by omega, by omega⟩
    rw [j3, nI_clamp (by omega)]
  exact ⟨h 5 (by omega) (by omega), h 6 (by omega) (by omega), h 7 (by omega) (by omega)⟩
