-- ===== frames and the pile, on both sides =====
def txF (B : Im) (cc fr : Nat → Int32) : Nat → Int32 := if fr 0 = -1 then cc else ett B (fr 0).toNatClampNeg
def imF (fr : Nat → Int32) : Bool := decide (¬ fr 0 = -1) && decide (fr 6 = -1)
def FrK (B : Im) (fr : Nat → Int32) (en : Nat) : Prop := (fr 0 = -1 ∧ fr 6 = -1) ∨ ∃ e l, fr 0 = nI e ∧ Cc B e ∧ bed B e 8 = nI l ∧ en ≤ l ∧ l ≤ 60 ∧ ((fr 6 = -1 ∧ (∃ o, o < bO B ∧ fr 3 = nI o) ∧ VOk B (fr 4) (fr 5)) ∨ (fr 6 = nI e ∧ ¬ bed B e 6 = nI 0 ∧ ∃ w, fr 7 = nI w ∧ Cc B w))
def FrOk (B : Im) (cc fr : Nat → Int32) (h : Nat) : Prop := ∃ pl en, (fr 1 = nI pl ∧ fr 2 = nI en ∧ pl ≤ en ∧ en ≤ 60 ∧ h ≤ pl) ∧ okC B (txF B cc fr) (imF fr) en pl h ∧ FrK B fr en
def FrR (cc fr : Nat → Int32) (M : MR) (i adj : Nat) : Prop := M 13 i = fr 0 ∧ M 15 i = fr 2 ∧ M 19 i = fr 6 ∧ (∃ pl, fr 1 = nI pl ∧ adj ≤ pl ∧ pl ≤ 60 ∧ M 14 i = nI (pl - adj)) ∧ (fr 0 = -1 → ∀ q, q < 60 → nI q < fr 2 → M 5 q = cc q) ∧ (¬ fr 0 = -1 → fr 6 = -1 → M 16 i = fr 3 ∧ M 17 i = fr 4 ∧ M 18 i = fr 5)
def MkAt (B : Im) (cc fr : Nat → Int32) (w : Int32) : Prop := ∃ pl, fr 1 = nI pl ∧ 2 ≤ pl ∧ pl ≤ 60 ∧ txF B cc fr (pl - 2) = nI 2 ∧ txF B cc fr (pl - 1) = w
def Bel (B : Im) (cc fr fr1 : Nat → Int32) (M : MR) (i h : Nat) : Prop := FrOk B cc fr (h + 1) ∧ ((fr1 6 = -1 ∧ FrR cc fr M i 0) ∨ (¬ fr1 6 = -1 ∧ FrR cc fr M i 2 ∧ MkAt B cc fr (fr1 7)))
def PlR (x : X) (M : MR) : Prop := M 12 0 = nI (x.2.1 3) ∧ ∀ i, i < x.2.1 3 → M 10 i = x.2.2.1 3 i 0 ∧ M 11 i = x.2.2.1 3 i 1 ∧ VOk (im x) (x.2.2.1 3 i 0) (x.2.2.1 3 i 1)
def WRt (x : X) (M : MR) (t adj cf : Nat) (hb : Nat → Nat) : Prop := (x.2.1 4 = t + 1 ∧ M 20 0 = nI (t + 1) ∧ cf ≤ 1 ∧ t + 1 ≤ 20 + cf ∧ x.1 19 0 = nI cf ∧ M 21 0 = nI (t + 1 - cf) ∧ ∀ i, i < t + 1 → (x.2.2.1 4 i 0 = -1 ↔ i < cf) ∧ (i = 0 → x.2.2.1 4 i 6 = -1)) ∧ (hb 0 = 0 ∧ hb t ≤ x.2.1 3) ∧ FrOk (im x) (x.1 18) (x.2.2.1 4 t) (x.2.1 3 - hb t) ∧ FrR (x.1 18) (x.2.2.1 4 t) M t adj ∧ ∀ i, i < t → hb i ≤ hb (i + 1) ∧ Bel (im x) (x.1 18) (x.2.2.1 4 i) (x.2.2.1 4 (i + 1)) M i (hb (i + 1) - hb i)
section FRM
variable {B B' : Im} {cc fr : Nat → Int32}
theorem txF_m (h : Ims B B') : txF B' cc fr = txF B cc fr := by
  unfold txF
  rw [Ims_ett h]
theorem FrK_m (h : Ims B B') {en : Nat} (q : FrK B fr en) : FrK B' fr en := by
  rcases q with q | ⟨e, l, q1, q2, q3, q4, q4', q5⟩
  · exact Or.inl q
  · refine Or.inr ⟨e, l, q1, Ims_Cc h q2, by rw [h.2.1 e 8 (by decide)]; exact q3, q4, q4', ?_⟩
    rcases q5 with ⟨a1, ⟨o, a2, a3⟩, a4⟩ | ⟨a1, a2, w, a3, a4⟩
    · exact Or.inl ⟨a1, ⟨o, Nat.lt_of_lt_of_le a2 h.2.2.1, a3⟩, Ims_V h a4⟩
    · exact Or.inr ⟨a1, h.2.2.2 e a2, w, a3, Ims_Cc h a4⟩
theorem FrOk_m (h : Ims B B') {k : Nat} (q : FrOk B cc fr k) : FrOk B' cc fr k := by
  obtain ⟨pl, en, q1, q2, q3⟩ := q
  exact ⟨pl, en, q1, by rw [txF_m h]; exact Ims_ok h q2, FrK_m h q3⟩
theorem FrR_c {M M' : MR} {i adj : Nat} (q : FrR cc fr M i adj) (e5 : M' 5 = M 5) (em : ∀ a, 13 ≤ a → a ≤ 19 → M' a i = M a i) : FrR cc fr M' i adj := by
  obtain ⟨a1, a2, a3, a4, a5, a6⟩ := q
  unfold FrR
  rw [em 13 (by omega) (by omega), em 14 (by omega) (by omega), em 15 (by omega) (by omega), em 16 (by omega) (by omega), em 17 (by omega) (by omega), em 18 (by omega) (by omega), em 19 (by omega) (by omega), e5]
  exact ⟨a1, a2, a3, a4, a5, a6⟩
theorem MkAt_m (h : Ims B B') {w : Int32} (q : MkAt B cc fr w) : MkAt B' cc fr w := by
  unfold MkAt
  rw [txF_m h]
  exact q
end FRM
theorem WRt_top {x x' : X} {M M' : MR} {t adj adj' cf : Nat} {hb : Nat → Nat} (h : WRt x M t adj cf hb) (hs : Ims (im x) (im x')) (e4 : x'.2.1 4 = x.2.1 4) (efr : ∀ i, i < t → x'.2.2.1 4 i = x.2.2.1 4 i) (e0 : x'.2.2.1 4 t 0 = x.2.2.1 4 t 0) (e6 : x'.2.2.1 4 t 6 = x.2.2.1 4 t 6) (e7 : x'.2.2.1 4 t 7 = x.2.2.1 4 t 7) (e18 : x'.1 18 = x.1 18) (e19 : x'.1 19 = x.1 19) (em : ∀ a, 13 ≤ a → a ≤ 19 → ∀ i, i < t → M' a i = M a i) (e5 : M' 5 = M 5) (e20 : M' 20 0 = M 20 0) (e21 : M' 21 0 = M 21 0) (hp : hb t ≤ x'.2.1 3) (hk : FrOk (im x') (x.1 18) (x'.2.2.1 4 t) (x'.2.1 3 - hb t)) (hr : FrR (x.1 18) (x'.2.2.1 4 t) M' t adj') : WRt x' M' t adj' cf hb := by
  obtain ⟨⟨a1, a2, a3, a4, a5, a6, a7⟩, ⟨b1, b2⟩, c1, c2, c3⟩ := h
  refine ⟨⟨by rw [e4]; exact a1, by rw [e20]; exact a2, a3, a4, by rw [e19]; exact a5, by rw [e21]; exact a6, fun i hi => ?_⟩, ⟨b1, hp⟩, by rw [e18]; exact hk, by rw [e18]; exact hr, fun i hi => ?_⟩
  · by_cases hit : i = t
    · subst hit; rw [e0, e6]; exact a7 i hi
    · rw [efr i (by omega)]; exact a7 i hi
  · obtain ⟨g1, g2, g3⟩ := c3 i hi
    refine ⟨g1, ?_⟩
    have h6 : x'.2.2.1 4 (i + 1) 6 = x.2.2.1 4 (i + 1) 6 := by
      by_cases hit : i + 1 = t
      · rw [hit]; exact e6
      · rw [efr (i + 1) (by omega)]
    have h7 : x'.2.2.1 4 (i + 1) 7 = x.2.2.1 4 (i + 1) 7 := by
      by_cases hit : i + 1 = t
      · rw [hit]; exact e7
      · rw [efr (i + 1) (by omega)]
    unfold Bel
    rw [e18, efr i hi, h6, h7]
    refine ⟨FrOk_m hs g2, ?_⟩
    rcases g3 with ⟨w1, w2⟩ | ⟨w1, w2, w3⟩
    · exact Or.inl ⟨w1, FrR_c w2 e5 (fun a a1 a2 => em a a1 a2 i hi)⟩
    · exact Or.inr ⟨w1, FrR_c w2 e5 (fun a a1 a2 => em a a1 a2 i hi), MkAt_m hs w3⟩
theorem WRt_hb {x : X} {M : MR} {t adj cf : Nat} {hb : Nat → Nat} (h : WRt x M t adj cf hb) : ∀ i, i ≤ t → hb i ≤ 59 * i
  | 0, _ => by rw [h.2.1.1]; omega
  | i + 1, hi => by
    have ih := WRt_hb h i (by omega)
    obtain ⟨g1, ⟨pl, en, ⟨_, _, q1, q2, q3⟩, _⟩, _⟩ := h.2.2.2.2 i (by omega)
    omega
theorem WRt_pile {x : X} {M : MR} {t adj cf : Nat} {hb : Nat → Nat} (h : WRt x M t adj cf hb) : x.2.1 3 ≤ 1240 := by
  have h1 := WRt_hb h t (Nat.le_refl _)
  obtain ⟨pl, en, ⟨_, _, q1, q2, q3⟩, _⟩ := h.2.2.1
  have := h.2.1.2
  have := h.1.2.2.1
  have := h.1.2.2.2.1
  omega
theorem WRt_FrS {x : X} {M : MR} {t adj cf : Nat} {hb : Nat → Nat} (h : WRt x M t adj cf hb) : FrS x M := by
  have key : ∀ fr cc k i ad, FrOk (im x) cc fr k → FrR cc fr M i ad → M 19 i = fr 6 ∧ (fr 6 = -1 ∨ ∃ e, fr 6 = nI e ∧ Cc (im x) e ∧ ¬ bed (im x) e 6 = nI 0) := by
    intro fr cc k i ad h1 h2
    refine ⟨h2.2.2.1, ?_⟩
    obtain ⟨pl, en, _, _, q⟩ := h1
    rcases q with q | ⟨e, l, q1, q2, q3, q4, q4', q5⟩
    · exact Or.inl q.2
    · rcases q5 with q5 | ⟨a1, a2, _⟩
      · exact Or.inl q5.1
      · exact Or.inr ⟨e, a1, q2, a2⟩
  obtain ⟨⟨a1, a2, a3, a4, a5, a6, a7⟩, ⟨b1, b2⟩, c1, c2, c3⟩ := h
  refine ⟨by omega, by rw [a1]; exact a2, fun i hi => ?_⟩
  by_cases hit : i = t
  · subst hit; exact key _ _ _ _ _ c1 c2
  · obtain ⟨g1, g2, g3⟩ := c3 i (by omega)
    rcases g3 with ⟨w1, w2⟩ | ⟨w1, w2, w3⟩
    · exact key _ _ _ _ _ g2 w2
    · exact key _ _ _ _ _ g2 w2
-- ===== the pile =====
section PILE
variable {S : CS} {x : X} {M : MR} (n : Nat)
theorem x_kind (h : CR S x) {p b : Nat} (hp : x.2.1 3 = p) (hb : b < p) : f3_kindAt n (nI b) S = some (x.2.2.1 3 (p - 1 - b) 0, S) := by
  have hl := CR_lt (show 3 < 8 by decide) h
  unfold f3_kindAt
  rw [xz3 n h, hp, pk_sub (by omega), pk_sub (by omega), xg3 n h (by omega) (by omega)]
theorem x_num (h : CR S x) {p b : Nat} (hp : x.2.1 3 = p) (hb : b < p) : f3_numberAt n (nI b) S = some (x.2.2.1 3 (p - 1 - b) 1, S) := by
  have hl := CR_lt (show 3 < 8 by decide) h
  unfold f3_numberAt
  rw [xz3 n h, hp, pk_sub (by omega), pk_sub (by omega), xg3 n h (by omega) (by omega)]
def tap (x : X) (q : Nat) (kd nm : Int32) : X := tpx (ro x 3 q) 3 q kd nm
theorem x_tap_l {kd nm : Int32} (hn : 1000 ≤ n) : ∀ d k i S (x : X), d < k → d ≤ x.2.1 3 → x.2.1 3 - d < 1260 → i + d < 100 → CR S x → Ru (f3_takeAndPut_l3 n k (nI (i + d)) kd nm (nI i) S) (nI 0) (fun S' => CR S' (tap x (x.2.1 3 - d) kd nm))
  | 0, k, i, S, x, hk, hd, hq, hi, h => by
    obtain ⟨k, rfl⟩ : ∃ q, k = q + 1 := ⟨k - 1, by omega⟩
    rw [f3_takeAndPut_l3, Nat.add_zero, if_pos (Int32.le_refl _), Nat.sub_zero]
    have h' : CR S (ro x 3 (x.2.1 3)) := CR_ext h (fun _ _ => rfl) (fun j hj => by
      show uf x.2.1 3 (x.2.1 3) j = _
      by_cases hj3 : j = 3
      · subst hj3; rw [uf_eq]
      · rw [uf_ne hj3]) (fun _ _ _ _ _ _ => rfl) rfl
    have hr : (ro x 3 (x.2.1 3)).2.1 3 = x.2.1 3 := by show uf x.2.1 3 (x.2.1 3) 3 = _; rw [uf_eq]
    have hr2 : x.2.1 3 < (ad (ro x 3 (x.2.1 3)) 3).2.1 3 := by
      show x.2.1 3 < uf (ro x 3 (x.2.1 3)).2.1 3 ((ro x 3 (x.2.1 3)).2.1 3 + 1) 3
      rw [uf_eq, hr]; omega
    refine Rc_add n (by decide) h' (by rw [hr]; exact hq) (by omega) (fun S1 h1 => ?_)
    rw [hr]
    exact Rc_set n (by decide) h1 hr2 (show 0 < 2 by decide) (fun S2 h2 => Rc_set n (by decide) h2 hr2 (show 1 < 2 by decide) (fun S3 h3 => Ru_some h3))
  | d + 1, k, i, S, x, hk, hd, hq, hi, h => by
    obtain ⟨k, rfl⟩ : ∃ q, k = q + 1 := ⟨k - 1, by omega⟩
    have hl := CR_lt (show 3 < 8 by decide) h
    rw [f3_takeAndPut_l3, if_neg (nI_ge (by omega) (by omega))]
    refine Rc_drop n (R := x.2.1 3 - 1) (by decide) h (by omega) (fun S1 h1 => ?_)
    have hr : (ro x 3 (x.2.1 3 - 1)).2.1 3 = x.2.1 3 - 1 := by show uf x.2.1 3 (x.2.1 3 - 1) 3 = _; rw [uf_eq]
    have ih := x_tap_l (kd := kd) (nm := nm) hn d k (i + 1) S1 (ro x 3 (x.2.1 3 - 1)) (by omega) (by rw [hr]; omega) (by rw [hr]; omega) (by omega) h1
    rw [hr, show i + 1 + d = i + (d + 1) by omega, show x.2.1 3 - 1 - d = x.2.1 3 - (d + 1) by omega] at ih
    rw [nI_add]
    refine Ru_imp ih (fun S' h' => ?_)
    have e : tap (ro x 3 (x.2.1 3 - 1)) (x.2.1 3 - (d + 1)) kd nm = tap x (x.2.1 3 - (d + 1)) kd nm := by
      unfold tap
      congr 1
      unfold ro
      dsimp only
      congr 1
      congr 1
      funext j
      unfold uf
      split <;> rfl
    rw [← e]; exact h'
theorem x_tap (hn : 1000 ≤ n) (h : CR S x) {d q : Nat} {kd nm : Int32} (hd : x.2.1 3 = q + d) (hd4 : d < 100) (hq : q < 1260) : Ru (f3_takeAndPut n (nI d) kd nm S) (nI 0) (fun S' => CR S' (tap x q kd nm)) := by
  have := x_tap_l n (kd := kd) (nm := nm) hn d n 0 S x (by omega) (by omega) (by omega) (by omega) h
  rw [show x.2.1 3 - d = q by omega, Nat.zero_add] at this
  exact this
end PILE
def PutX (x x' : X) (q : Nat) (kd nm : Int32) : Prop := x'.2.1 3 = q + 1 ∧ x'.2.2.1 3 q 0 = kd ∧ x'.2.2.1 3 q 1 = nm ∧ (∀ i, i < q → x'.2.2.1 3 i 0 = x.2.2.1 3 i 0 ∧ x'.2.2.1 3 i 1 = x.2.2.1 3 i 1) ∧ x'.2.1 4 = x.2.1 4 ∧ x'.2.2.1 4 = x.2.2.1 4 ∧ (∀ a, a ≠ 15 → x'.1 a = x.1 a) ∧ x'.2.2.2 = x.2.2.2
def PutR (M M' : MR) (q : Nat) (kd nm : Int32) : Prop := M' 12 0 = nI (q + 1) ∧ M' 10 q = kd ∧ M' 11 q = nm ∧ (∀ i, i < q → M' 10 i = M 10 i ∧ M' 11 i = M 11 i) ∧ (∀ a, a ≠ 0 → a ≠ 10 → a ≠ 11 → a ≠ 12 → a ≠ 25 → a ≠ 26 → a ≠ 27 → M' a = M a) ∧ ∀ i, 20870 ≤ i → M' 0 i = M 0 i
theorem PutX_tap {x : X} {q : Nat} {kd nm : Int32} : PutX x (tap x q kd nm) q kd nm := by
  have hr : (ro x 3 q).2.1 3 = q := by show uf x.2.1 3 q 3 = _; rw [uf_eq]
  have hc : ∀ i c, (tap x q kd nm).2.2.1 3 i c = if i = q then (if c = 0 then kd else if c = 1 then nm else 0) else x.2.2.1 3 i c := by
    intro i c
    have := @tpx_c (ro x 3 q) 3 i c kd nm
    rw [hr] at this
    exact this
  refine ⟨?_, ?_, ?_, fun i hi => ⟨?_, ?_⟩, ?_, ?_, fun _ _ => rfl, rfl⟩
  · unfold tap; rw [tpx_r, hr]
  · rw [hc, if_pos rfl, if_pos rfl]
  · rw [hc, if_pos rfl, if_neg (by decide), if_pos rfl]
  · rw [hc, if_neg (by omega)]
  · rw [hc, if_neg (by omega)]
  · unfold tap; rw [tpx_rn (by decide)]
    show uf x.2.1 3 q 4 = _; rw [uf_ne (by decide)]
  · unfold tap; rw [tpx_cn (by decide)]; rfl
theorem im_tap {x : X} {q : Nat} {kd nm : Int32} : im (tap x q kd nm) = im x := by
  unfold tap tpx
  rw [im_st0 (by decide), im_st0 (by decide), im_ad0 (by decide), im_ro0 (by decide)]
theorem PlR_put {x x' : X} {M M' : MR} {q : Nat} {kd nm : Int32} (h : PlR x M) (hq : q ≤ x.2.1 3) (hX : PutX x x' q kd nm) (hM : PutR M M' q kd nm) (hs : Ims (im x) (im x')) (hv : VOk (im x') kd nm) : PlR x' M' := by
  obtain ⟨a1, a2, a3, a4, _⟩ := hX
  obtain ⟨b1, b2, b3, b4, _⟩ := hM
  refine ⟨by rw [b1, a1], fun i hi => ?_⟩
  rw [a1] at hi
  by_cases hiq : i = q
  · subst hiq
    rw [b2, b3, a2, a3]
    exact ⟨rfl, rfl, hv⟩
  · obtain ⟨g1, g2, g3⟩ := h.2 i (by omega)
    rw [(b4 i (by omega)).1, (b4 i (by omega)).2, (a4 i (by omega)).1, (a4 i (by omega)).2]
    exact ⟨g1, g2, Ims_V hs g3⟩
