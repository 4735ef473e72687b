-- ===== images, changed =====
def sC (B : Im) (r c : Nat) (w : Int32) : Im := (bC B, bE B, bO B, st2 (bce B) r c w, bed B, bob B, bnw B)
def sE (B : Im) (r c : Nat) (w : Int32) : Im := (bC B, bE B, bO B, bce B, st2 (bed B) r c w, bob B, bnw B)
def sO (B : Im) (r c : Nat) (w : Int32) : Im := (bC B, bE B, bO B, bce B, bed B, st2 (bob B) r c w, bnw B)
def sN (B : Im) (j : Nat) (w : Int32) : Im := (bC B, bE B, bO B, bce B, bed B, bob B, uf (bnw B) j w)
def aC (B : Im) : Im := (bC B + 1, bE B, bO B, (fun r c => if r = bC B then 0 else bce B r c), bed B, bob B, bnw B)
def aE (B : Im) : Im := (bC B, bE B + 1, bO B, bce B, (fun r c => if r = bE B then 0 else bed B r c), bob B, bnw B)
def aO (B : Im) : Im := (bC B, bE B, bO B + 1, bce B, bed B, (fun r c => if r = bO B then 0 else bob B r c), bnw B)
section IM
variable {x : X} {r c i j : Nat} {w : Int32}
theorem im_st5 : im (st x 5 r c w) = sC (im x) r c w := rfl
theorem im_st6 : im (st x 6 r c w) = sE (im x) r c w := rfl
theorem im_st7 : im (st x 7 r c w) = sO (im x) r c w := rfl
theorem im_ad5 : im (ad x 5) = aC (im x) := rfl
theorem im_ad6 : im (ad x 6) = aE (im x) := rfl
theorem im_ad7 : im (ad x 7) = aO (im x) := rfl
theorem im_pn : im (pv x 20 j w) = sN (im x) j w := rfl
theorem im_pv {a : Nat} (ha : a ≠ 20) : im (pv x a i w) = im x := by
  have e : mS x.1 a i w 20 = x.1 20 := funext fun b => mS_ne (fun h => ha h.symm)
  unfold im pv
  dsimp only
  rw [e]
theorem im_st0 {k : Nat} (hk : k < 5) : im (st x k r c w) = im x := by
  unfold im st
  dsimp only
  rw [uf_ne (by omega), uf_ne (by omega), uf_ne (by omega)]
theorem im_ro0 {k R : Nat} (hk : k < 5) : im (ro x k R) = im x := by
  unfold im ro
  dsimp only
  rw [uf_ne (by omega), uf_ne (by omega), uf_ne (by omega)]
theorem im_ad0 {k : Nat} (hk : k < 5) : im (ad x k) = im x := by
  unfold im ad
  dsimp only
  rw [uf_ne (by omega), uf_ne (by omega), uf_ne (by omega), uf_ne (by omega), uf_ne (by omega), uf_ne (by omega)]
end IM
theorem st2_eq {f : Nat → Nat → Int32} {r c : Nat} {w : Int32} : st2 f r c w r c = w := if_pos ⟨rfl, rfl⟩
theorem st2_ne {f : Nat → Nat → Int32} {r c r' c' : Nat} {w : Int32} (h : r' ≠ r ∨ c' ≠ c) : st2 f r c w r' c' = f r' c' := if_neg (fun k => by rcases h with h | h; exact h k.1; exact h k.2)
-- ===== the relation, changed =====
theorem RelI_upd {B B' : Im} {g g' : Nat → Int32} (h : RelI B g) (h0 : g' 0 = nI (bC B')) (h1 : g' 1 = nI (bE B')) (h2 : g' 2 = nI (bO B')) (h3 : ∀ j, j < 16 → g' (4 + j) = bnw B' j + nI 1)
    (hc : ∀ c, c < bC B' → (c < bC B ∧ (∀ i, i < 126 → bce B' c i = bce B c i) ∧ ∀ i, i < 180 → g' (20 + 180 * c + i) = g (20 + 180 * c + i)) ∨ relC (bce B' c) (fun i => g' (20 + 180 * c + i)))
    (he : ∀ e, e < bE B' → (e < bE B ∧ (∀ i, i < 104 → bed B' e i = bed B e i) ∧ ∀ i, i < 70 → i ≠ 6 → g' (7220 + 70 * e + i) = g (7220 + 70 * e + i)) ∨ relE (bed B' e) (fun i => g' (7220 + 70 * e + i)))
    (hm : ∀ e, e < bE B' → bed B' e 2 = nI 1 → g' (7220 + 70 * e + 6) = nI (cntO B' e))
    (ho : ∀ o, o < bO B' → (o < bO B ∧ (∀ i, i < 21 → bob B' o i = bob B o i) ∧ ∀ i, i < 21 → g' (17720 + 21 * o + i) = g (17720 + 21 * o + i)) ∨ relO (bob B' o) (fun i => g' (17720 + 21 * o + i))) : RelI B' g' := by
  refine ⟨⟨h0, h1, h2, h3⟩, fun c hcc => ?_, fun e hee => ⟨?_, hm e hee⟩, fun o hoo => ?_⟩
  · rcases hc c hcc with ⟨q1, q2, q3⟩ | q
    · exact relC_c (h.2.1 c q1) q2 q3
    · exact q
  · rcases he e hee with ⟨q1, q2, q3⟩ | q
    · exact relE_c (h.2.2.1 e q1).1 q2 q3
    · exact q
  · rcases ho o hoo with ⟨q1, q2, q3⟩ | q
    · exact relO_c (h.2.2.2 o q1) q2 q3
    · exact q
theorem RelI_state {B : Im} {g : Nat → Int32} (h : RelI B g) (hB : bC B ≤ 40 ∧ bE B ≤ 150 ∧ bO B ≤ 150) {e : Nat} (he : e < bE B) {w : Int32} : RelI (sE B e 6 w) (uf g (7220 + 70 * e + 5) w) := by
  have hE : bE B ≤ 150 := hB.2.1
  refine RelI_upd h ?_ ?_ ?_ (fun j hj => ?_) (fun c hc => Or.inl ⟨hc, fun _ _ => rfl, fun i hi => ?_⟩) (fun e' he' => ?_) (fun e' he' hs => ?_) (fun o ho => Or.inl ⟨ho, fun _ _ => rfl, fun i hi => ?_⟩)
  · rw [uf_ne (by omega)]; exact h.1.1
  · rw [uf_ne (by omega)]; exact h.1.2.1
  · rw [uf_ne (by omega)]; exact h.1.2.2.1
  · rw [uf_ne (by omega)]; exact h.1.2.2.2 j hj
  · have hc : c < bC B := hc
    rw [uf_ne (by omega)]
  · by_cases hee : e' = e
    · subst hee
      right
      obtain ⟨a0, a1, a2, a3, a4, a5, a6⟩ := (h.2.2.1 e' he).1
      have q : ∀ i, i ≠ 5 → uf g (7220 + 70 * e' + 5) w (7220 + 70 * e' + i) = g (7220 + 70 * e' + i) := fun i hi => uf_ne (by omega)
      have q2 : ∀ i, i ≠ 6 → bed (sE B e' 6 w) e' i = bed B e' i := fun i hi => st2_ne (Or.inr hi)
      refine ⟨?_, ?_, ?_, ?_, ?_, ?_, fun hl => ?_⟩
      · show uf g _ w _ = _; rw [q _ (by omega), q2 _ (by omega)]; exact a0
      · show uf g _ w _ = _; rw [q _ (by omega), q2 _ (by omega)]; exact a1
      · show uf g _ w _ = _; rw [q _ (by omega), q2 _ (by omega)]; exact a2
      · show uf g _ w _ = _; rw [q _ (by omega), q2 _ (by omega)]; exact a3
      · show uf g _ w _ = _; rw [q _ (by omega), q2 _ (by omega)]; exact a4
      · show uf g _ w _ = _; rw [uf_eq]; exact st2_eq.symm
      · rw [q2 _ (by omega)] at hl
        refine ⟨?_, fun i hi hl2 => ?_⟩
        · show uf g _ w _ = _; rw [q _ (by omega), q2 _ (by omega)]; exact (a6 hl).1
        · rw [q2 _ (by omega)] at hl2
          show uf g _ w _ = _; rw [q _ (by omega), q2 _ (by omega)]; exact (a6 hl).2 i hi hl2
    · refine Or.inl ⟨he', fun i hi => st2_ne (Or.inl hee), fun i hi h6 => uf_ne (by omega)⟩
  · rw [uf_ne (by omega)]
    have hs : st2 (bed B) e 6 w e' 2 = nI 1 := hs
    rw [st2_ne (Or.inr (by omega))] at hs
    exact (h.2.2.1 e' he').2 hs
  · rw [uf_ne (by have he' : e < bE B := he; omega)]
theorem RelI_field {B : Im} {g : Nat → Int32} (h : RelI B g) (hB : bC B ≤ 40 ∧ bE B ≤ 150 ∧ bO B ≤ 150) {o f : Nat} (ho : o < bO B) (hf : f < 10) {a b : Int32} : RelI (sO (sO B o (1 + f) a) o (11 + f) b) (uf (uf g (17720 + 21 * o + 1 + f) (a + nI 1)) (17720 + 21 * o + 11 + f) b) := by
  have hE : bE B ≤ 150 := hB.2.1
  have hC : bC B ≤ 40 := hB.1
  have q : ∀ i, (i < 17720 + 21 * o + 1 ∨ 17720 + 21 * o + 21 ≤ i) → uf (uf g (17720 + 21 * o + 1 + f) (a + nI 1)) (17720 + 21 * o + 11 + f) b i = g i := fun i hi => by rw [uf_ne (by omega), uf_ne (by omega)]
  have q2 : ∀ o' i, (o' ≠ o ∨ (i ≠ 1 + f ∧ i ≠ 11 + f)) → bob (sO (sO B o (1 + f) a) o (11 + f) b) o' i = bob B o' i := fun o' i hi => by
    show st2 (st2 (bob B) o (1 + f) a) o (11 + f) b o' i = _
    rw [st2_ne (by omega), st2_ne (by omega)]
  refine RelI_upd h ?_ ?_ ?_ (fun j hj => ?_) (fun c hc => Or.inl ⟨hc, fun _ _ => rfl, fun i hi => ?_⟩) (fun e' he' => Or.inl ⟨he', fun _ _ => rfl, fun i hi _ => ?_⟩) (fun e' he' hs => ?_) (fun o' ho' => ?_)
  · rw [q _ (by omega)]; exact h.1.1
  · rw [q _ (by omega)]; exact h.1.2.1
  · rw [q _ (by omega)]; exact h.1.2.2.1
  · rw [q _ (by omega)]; exact h.1.2.2.2 j hj
  · have hc : c < bC B := hc
    rw [q _ (by omega)]
  · have he' : e' < bE B := he'
    rw [q _ (by omega)]
  · have he' : e' < bE B := he'
    rw [q _ (by omega), (h.2.2.1 e' he').2 hs]
    unfold cntO
    exact congrArg nI (cnt_congr _ (fun i _ => by rw [q2 i 0 (by omega)]))
  · by_cases hoo : o' = o
    · subst hoo
      right
      obtain ⟨a0, a1⟩ := h.2.2.2 o' ho
      refine ⟨?_, fun f' hf' => ⟨?_, ?_⟩⟩
      · show uf (uf g _ _) _ _ (17720 + 21 * o' + 0) = _
        rw [q _ (by omega), q2 _ _ (by omega)]; exact a0
      · show uf (uf g _ _) _ _ (17720 + 21 * o' + (1 + f')) = _
        by_cases hff : f' = f
        · subst hff
          rw [uf_ne (by omega), show 17720 + 21 * o' + (1 + f') = 17720 + 21 * o' + 1 + f' by omega, uf_eq]
          show _ = st2 (st2 (bob B) o' (1 + f') a) o' (11 + f') b o' (1 + f') + nI 1
          rw [st2_ne (by omega), st2_eq]
        · rw [uf_ne (by omega), uf_ne (by omega), q2 _ _ (by omega)]; exact (a1 f' hf').1
      · show uf (uf g _ _) _ _ (17720 + 21 * o' + (11 + f')) = _
        by_cases hff : f' = f
        · subst hff
          rw [show 17720 + 21 * o' + (11 + f') = 17720 + 21 * o' + 11 + f' by omega, uf_eq]
          exact st2_eq.symm
        · rw [uf_ne (by omega), uf_ne (by omega), q2 _ _ (by omega)]; exact (a1 f' hf').2
    · exact Or.inl ⟨ho', fun i hi => q2 _ _ (Or.inl hoo), fun i hi => q _ (by omega)⟩
theorem RelI_newest {B : Im} {g : Nat → Int32} (h : RelI B g) (hB : bC B ≤ 40 ∧ bE B ≤ 150 ∧ bO B ≤ 150) {j : Nat} (hj : j < 16) {w : Int32} : RelI (sN B j w) (uf g (4 + j) (w + nI 1)) := by
  refine RelI_upd h ?_ ?_ ?_ (fun j' hj' => ?_) (fun c hc => Or.inl ⟨hc, fun _ _ => rfl, fun i hi => ?_⟩) (fun e' he' => Or.inl ⟨he', fun _ _ => rfl, fun i hi _ => ?_⟩) (fun e' he' hs => ?_) (fun o ho => Or.inl ⟨ho, fun _ _ => rfl, fun i hi => ?_⟩)
  · rw [uf_ne (by omega)]; exact h.1.1
  · rw [uf_ne (by omega)]; exact h.1.2.1
  · rw [uf_ne (by omega)]; exact h.1.2.2.1
  · show _ = uf (bnw B) j w j' + nI 1
    by_cases hjj : j' = j
    · subst hjj; rw [uf_eq, uf_eq]
    · rw [uf_ne (by omega), uf_ne hjj]; exact h.1.2.2.2 j' hj'
  · rw [uf_ne (by omega)]
  · rw [uf_ne (by omega)]
  · rw [uf_ne (by omega), (h.2.2.1 e' he').2 hs]; rfl
  · rw [uf_ne (by omega)]
-- ===== what is right stays right =====
theorem okK_c {V V' C C' : Nat → Prop} {a : Nat} {k : Int32} (hV : ∀ e, V e → V' e) (hC : ∀ e, C e → C' e) (h : okK V C a k) : okK V' C' a k :=
  ⟨fun q => by obtain ⟨e, h1, h2⟩ := h.1 q; exact ⟨e, h1, hV e h2⟩, fun q => by obtain ⟨e, h1, h2⟩ := h.2.1 q; exact ⟨e, h1, hC e h2⟩, h.2.2.1, h.2.2.2⟩
theorem okK_any {V C : Nat → Prop} {a : Nat} {k : Int32} (h : 8 ≤ a ∨ a = 0) : okK V C a k :=
  ⟨fun q => by omega, fun q => by omega, fun q => by omega, fun q => by omega⟩
theorem okc_c {V V' C C' : Nat → Prop} {tx tx' : Nat → Int32} {im : Bool} {en : Nat} (hV : ∀ e, V e → V' e) (hC : ∀ e, C e → C' e) : ∀ n p h, (∀ i, p ≤ i → i < en → tx' i = tx i) → okc V C tx im en n p h → okc V' C' tx' im en n p h
  | 0, _, _, _, q => q
  | n + 1, p, h, ht, q => by
    rcases q with q | ⟨hp, a, h1, h2, h3, h4, h5, h6, h7⟩
    · exact Or.inl q
    · right
      refine ⟨hp, a, h1, by rw [ht p (Nat.le_refl _) hp]; exact h2, h3, h4, h5, ?_, okc_c hV hC n _ _ (fun i hi hi2 => ht i (by omega) hi2) h7⟩
      by_cases ha : a ≤ 7
      · rw [ht (p + 1) (by omega) (by unfold sz at h4; rw [if_pos ha] at h4; omega)]
        exact okK_c hV hC h6
      · exact okK_any (by omega)
section WC
variable {B B' : Im}
theorem CelOk_c {c : Nat} (h : CelOk B c) (e1 : ∀ i, bce B' c i = bce B c i) (e2 : bE B ≤ bE B') : CelOk B' c := by
  obtain ⟨h1, h2, h3, q, h4, h5, h6⟩ := h
  unfold CelOk
  simp only [e1]
  exact ⟨h1, h2, h3, q, h4, h5, fun i hi => by obtain ⟨e, g1, g2⟩ := h6 i hi; exact ⟨e, by omega, g2⟩⟩
theorem ClsOk_c {e nf nm l : Nat} (hE : bE B ≤ 150) (h : ClsOk B e nf nm l) (he : e < bE B) (e1 : ∀ e' i, e' < bE B → i ≠ 6 → bed B' e' i = bed B e' i) (e2 : bE B ≤ bE B') : ClsOk B' e nf nm l := by
  have hV : ∀ e, Vv B e → Vv B' e := fun e q => ⟨by have := q.1; omega, by rw [e1 e 2 q.1 (by decide)]; exact q.2⟩
  have hC : ∀ e, Cc B e → Cc B' e := fun e q => ⟨by have := q.1; omega, by rw [e1 e 2 q.1 (by decide)]; exact q.2⟩
  have ht : ett B' e = ett B e := funext fun i => e1 e _ he (by omega)
  have ok : ∀ im en p h, okC B (ett B e) im en p h → okC B' (ett B e) im en p h := fun im en p h q => by
    obtain ⟨n, q⟩ := q
    exact ⟨n, okc_c hV hC n p h (fun _ _ _ => rfl) q⟩
  obtain ⟨a1, a2, a3, ⟨a4, a5⟩, a6, a7⟩ := h
  have hin : ∀ c d, c ≠ 6 → inh B' e c d = inh B e c d := fun c d hc6 => by
    rcases a5 with a5 | ⟨p, a5, hp, _⟩
    · rw [inh_n a5, inh_n (by rw [e1 e 5 he (by decide)]; exact a5)]
    · unfold inh
      rw [e1 e 5 he (by decide)]
      by_cases hq : bed B e 5 = -1
      · rw [if_pos hq, if_pos hq]
      · rw [if_neg hq, if_neg hq]
        refine e1 _ _ ?_ hc6
        rw [a5, nI_clamp (by omega)]
        omega
  refine ⟨?_, ?_, ?_, ⟨?_, ?_⟩, ?_, ?_⟩
  · rw [ht, e1 e 7 he (by decide), e1 e 8 he (by decide)]; exact a1
  · rw [ht]
    intro k hk
    obtain ⟨len, g1, g2, g3⟩ := a2 k hk
    exact ⟨len, g1, g2, ok _ _ _ _ g3⟩
  · rw [ht]
    rcases a3 with a3 | a3
    · exact Or.inl a3
    · exact Or.inr (ok _ _ _ _ a3)
  · rw [ht, e1 e 5 he (by decide)]; exact a4
  · rw [e1 e 5 he (by decide)]
    rcases a5 with a5 | ⟨p, a5, hp, hpc⟩
    · exact Or.inl a5
    · exact Or.inr ⟨p, a5, hp, by rw [e1 p 2 (by omega) (by decide)]; exact hpc⟩
  · intro f hf
    rw [ht, e1 e _ he (by omega), e1 e _ he (by omega), hin _ _ (by omega), hin _ _ (by omega)]
    exact a6 f hf
  · intro m hm
    rw [ht, e1 e _ he (by omega), e1 e _ he (by omega), e1 e _ he (by omega), hin _ _ (by omega), hin _ _ (by omega), hin _ _ (by omega)]
    exact a7 m hm
theorem VOk_c {k v : Int32} (h : VOk B k v) (e : bO B ≤ bO B') : VOk B' k v := by
  rcases h with h | ⟨h1, o, h2, h3⟩
  · exact Or.inl h
  · exact Or.inr ⟨h1, o, by omega, h3⟩
theorem EdOk_c {e : Nat} (hE : bE B ≤ 150) (h : EdOk B e) (he : e < bE B) (e1 : ∀ e' i, e' < bE B → i ≠ 6 → bed B' e' i = bed B e' i) (e0 : bC B ≤ bC B') (e2 : bE B ≤ bE B') (e3 : bO B ≤ bO B') (hs : bed B e 2 = nI 1 → StOk B' e) : EdOk B' e := by
  obtain ⟨h1, ⟨c, h2, h2'⟩, h3, h4, h5⟩ := h
  unfold EdOk
  rw [e1 e 0 he (by decide), e1 e 1 he (by decide), e1 e 2 he (by decide), e1 e 3 he (by decide), e1 e 4 he (by decide)]
  refine ⟨h1, ⟨c, by omega, h2'⟩, h3, fun q => VOk_c (h4 q) e3, fun q => ⟨?_, hs q⟩⟩
  obtain ⟨nf, nm, l, g⟩ := (h5 q).1
  exact ⟨nf, nm, l, ClsOk_c hE g he e1 e2⟩
theorem StOk_c {e nf nm l : Nat} (hE : bE B ≤ 150) (hE' : bE B' ≤ 150) (hcl : ClsOk B e nf nm l) (h : StOk B e) (he : e < bE B) (e5 : bed B' e 5 = bed B e 5) (e1 : ∀ e', e' < bE B → bed B' e' 6 = bed B e' 6) : StOk B' e := by
  refine ⟨by rw [e1 e he]; exact h.1, fun p hp h5 h6 => ?_⟩
  rw [e5] at h5
  rcases hcl.2.2.2.1.2 with q | ⟨p', q, hp', _⟩
  · rw [q] at h5; exact absurd h5 (m1_n p (by omega))
  · rw [q, nI_eq (by omega) (by omega)] at h5
    subst h5
    rw [e1 p' (by omega)] at h6
    rw [e1 e he]
    exact h.2 p' (by omega) q h6
theorem ObOk_c {o : Nat} (h : ObOk B o) (e1 : ∀ i, bob B' o i = bob B o i) (e2 : ∀ e, e < bE B → bed B' e 2 = bed B e 2) (e3 : bE B ≤ bE B') (e4 : bO B ≤ bO B') : ObOk B' o := by
  obtain ⟨⟨e, ⟨h1, h2⟩, h3⟩, h4⟩ := h
  unfold ObOk
  simp only [e1]
  refine ⟨⟨e, ⟨by omega, by rw [e2 e h1]; exact h2⟩, h3⟩, fun f hf => ?_⟩
  rcases h4 f hf with q | q
  · exact Or.inl q
  · exact Or.inr (VOk_c q e4)
end WC
theorem WF_state {B : Im} (hW : WF B) {e : Nat} (he : e < bE B) {w : Int32} (hw : w = nI 1 ∨ w = nI 2) (hp : ∀ p, p < bE B → bed B e 5 = nI p → ¬ bed B p 6 = nI 0) : WF (sE B e 6 w) := by
  have hw0 : ¬ w = nI 0 := by rcases hw with rfl | rfl <;> decide
  obtain ⟨h1, h2, h3, h4, h5⟩ := hW
  have e1 : ∀ e' i, e' < bE B → i ≠ 6 → bed (sE B e 6 w) e' i = bed B e' i := fun e' i _ hi => st2_ne (Or.inr hi)
  refine ⟨h1, fun c hc => CelOk_c (h2 c hc) (fun _ => rfl) (Nat.le_refl _), fun e' he' => ?_, fun o ho => ObOk_c (h4 o ho) (fun _ => rfl) (fun e' he' => e1 e' 2 he' (by decide)) (Nat.le_refl _) (Nat.le_refl _), fun j hj => ?_⟩
  · refine EdOk_c h1.2.1 (h3 e' he') he' e1 (Nat.le_refl _) (Nat.le_refl _) (Nat.le_refl _) (fun hs => ?_)
    have hst := ((h3 e' he').2.2.2.2 hs).2
    by_cases hee : e' = e
    · subst hee
      refine ⟨?_, fun p hp' h5 h6 => ?_⟩
      · show st2 (bed B) e' 6 w e' 6 = _ ∨ _
        rw [show bed (sE B e' 6 w) e' 6 = w from st2_eq, st2_eq]
        rcases hw with hw | hw
        · exact Or.inr (Or.inl hw)
        · exact Or.inr (Or.inr hw)
      · rw [e1 e' 5 he' (by decide)] at h5
        by_cases hpe : p = e'
        · subst hpe
          rw [show bed (sE B p 6 w) p 6 = w from st2_eq] at h6
          exact absurd h6 hw0
        · rw [show bed (sE B e' 6 w) p 6 = bed B p 6 from st2_ne (Or.inl hpe)] at h6
          exact absurd h6 (hp p hp' h5)
    · rw [StOk, show bed (sE B e 6 w) e' 6 = bed B e' 6 from st2_ne (Or.inl hee)]
      refine ⟨hst.1, fun p hp' h5 h6 => ?_⟩
      rw [e1 e' 5 he' (by decide)] at h5
      by_cases hpe : p = e
      · subst hpe
        rw [show bed (sE B p 6 w) p 6 = w from st2_eq] at h6
        exact absurd h6 hw0
      · rw [show bed (sE B e 6 w) p 6 = bed B p 6 from st2_ne (Or.inl hpe)] at h6
        exact hst.2 p hp' h5 h6
  · rcases h5 j hj with q | ⟨e', q1, q2, q3⟩
    · exact Or.inl q
    · exact Or.inr ⟨e', q1, q2, by rw [e1 e' 0 q1 (by decide)]; exact q3⟩
theorem WF_same {B B' : Im} (hW : WF B) (h1 : bC B' = bC B) (h2 : bE B' = bE B) (h3 : bce B' = bce B) (h4 : bed B' = bed B) (h5 : bO B ≤ bO B') (h6 : bO B' ≤ 150) (ho : ∀ o, o < bO B' → ObOk B' o) (hn : ∀ j, j < 16 → bnw B' j = -1 ∨ ∃ e, e < bE B ∧ bnw B' j = nI e ∧ bed B e 0 = nI j) : WF B' := by
  refine ⟨⟨by rw [h1]; exact hW.1.1, by rw [h2]; exact hW.1.2.1, h6⟩, fun c hc => CelOk_c (hW.2.1 c (by omega)) (fun i => by rw [h3]) (by omega), fun e he => ?_, ho, fun j hj => ?_⟩
  · rw [h2] at he
    refine EdOk_c hW.1.2.1 (hW.2.2.1 e he) he (fun e' i _ _ => by rw [h4]) (by omega) (by omega) h5 (fun hs => ?_)
    have hst := ((hW.2.2.1 e he).2.2.2.2 hs).2
    unfold StOk
    rw [h4, h2]
    exact hst
  · rw [h2, h4]; exact hn j hj
theorem WF_field {B : Im} (hW : WF B) {o f : Nat} (ho : o < bO B) (hf : f < 10) {a b : Int32} (hv : VOk B a b) : WF (sO (sO B o (1 + f) a) o (11 + f) b) := by
  refine WF_same hW rfl rfl rfl rfl (Nat.le_refl _) hW.1.2.2 (fun o' ho' => ?_) hW.2.2.2.2
  have hO := hW.2.2.2.1 o' ho'
  by_cases hoo : o' = o
  · subst hoo
    obtain ⟨⟨e, h1, h2⟩, h3⟩ := hO
    refine ⟨⟨e, h1, ?_⟩, fun f' hf' => ?_⟩
    · show st2 (st2 (bob B) o' (1 + f) a) o' (11 + f) b o' 0 = _
      rw [st2_ne (by omega), st2_ne (by omega)]; exact h2
    · show st2 (st2 (bob B) o' (1 + f) a) o' (11 + f) b o' (1 + f') = _ ∨ VOk _ (st2 (st2 (bob B) o' (1 + f) a) o' (11 + f) b o' (1 + f')) (st2 (st2 (bob B) o' (1 + f) a) o' (11 + f) b o' (11 + f'))
      by_cases hff : f' = f
      · subst hff
        right
        rw [st2_ne (by omega), st2_eq, st2_eq]
        exact hv
      · rw [st2_ne (by omega), st2_ne (by omega), st2_ne (by omega), st2_ne (by omega)]
        exact h3 f' hf'
  · refine ObOk_c hO (fun i => ?_) (fun _ _ => rfl) (Nat.le_refl _) (Nat.le_refl _)
    show st2 (st2 (bob B) o (1 + f) a) o (11 + f) b o' i = _
    rw [st2_ne (Or.inl hoo), st2_ne (Or.inl hoo)]
theorem WF_forget {B : Im} (hW : WF B) {j : Nat} : WF (sN B j (-1)) := by
  refine WF_same hW rfl rfl rfl rfl (Nat.le_refl _) hW.1.2.2 hW.2.2.2.1 (fun j' hj' => ?_)
  show uf (bnw B) j (-1) j' = -1 ∨ ∃ e, _ ∧ uf (bnw B) j (-1) j' = nI e ∧ _
  by_cases h : j' = j
  · subst h; rw [uf_eq]; exact Or.inl rfl
  · rw [uf_ne h]; exact hW.2.2.2.2 j' hj'
