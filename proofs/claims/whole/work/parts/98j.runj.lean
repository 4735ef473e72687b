theorem RunO_t {x x1 : X} {M M1 : MR} {FC : Option (Int32 × CS)} {FR : Option (Int32 × MR)} {c : Nat} (h : RunO c x1 M1 FC FR) (h0 : ∀ r, r ≠ c → bce (im x1) r 125 = bce (im x) r 125) (h1 : ∀ a, a < 15 → x1.1 a = x.1 a) (h2 : bC (im x1) = bC (im x)) (h3 : bE (im x1) = bE (im x)) (h4 : x1.2.2.2 = x.2.2.2) (h5 : ∀ i, 20870 ≤ i → M1 0 i = M 0 i) (h6 : ∀ a, a ≠ 0 → (a < 10 ∨ 28 ≤ a) → M1 a = M a) : RunO c x M FC FR := by
  obtain ⟨r, S', x', M', e1, e2, e3, e4, e5, e6, ef, e7, e8, e9, e10, e11, e12⟩ := h
  exact ⟨r, S', x', M', e1, e2, e3, e4, e5, e6, fun r => by
    rw [ef r]
    by_cases hr : r = c
    · rw [if_pos hr, if_pos hr]
    · rw [if_neg hr, if_neg hr, h0 r hr], fun a ha => (e7 a ha).trans (h1 a ha), e8.trans h2, by omega, e10.trans h4, fun i hi => (e11 i hi).trans (h5 i hi), fun a z1 z2 => (e12 a z1 z2).trans (h6 a z1 z2)⟩
/-- the code of a cell, as the class keeps it for the run -/
def pw (x : X) (q : Nat) : X := (fun a i => if a = 18 ∧ i < q then x.1 13 i else x.1 a i, x.2)
section RUN3
variable (n : Nat)
theorem x_beginL {x : X} {L : Nat} (hL : L ≤ 60) (h6 : x.1 6 0 = nI L) : ∀ d q k S, q + d = L → d < k → CR S (pw x q) → ∃ S', f3_beginCell_l6 n k (nI q) S = f3_beginCell_b37 n S' ∧ CR S' (pw x L)
  | 0, q, 0, _, _, hk, _ => by omega
  | 0, q, k + 1, S, hq, _, h => by
    have e6 : (pw x q).1 6 0 = nI L := h6
    rw [f3_beginCell_l6, xcg h (by decide), e6, if_pos (by rw [show q = L by omega]; exact Int32.le_refl _)]
    exact ⟨S, rfl, by rw [show L = q by omega]; exact h⟩
  | d + 1, q, 0, _, _, hk, _ => by omega
  | d + 1, q, k + 1, S, hq, hk, h => by
    have e6 : (pw x q).1 6 0 = nI L := h6
    have e13 : (pw x q).1 13 q = x.1 13 q := rfl
    rw [f3_beginCell_l6, xcg h (by decide), e6, if_neg (nI_ge (show q < L by omega) (by omega)), if_neg (nI_ge (show q < 60 by omega) (by omega))]
    unfold f1_boundAt
    rw [if_neg (nI_pos (by omega)), if_neg (nI_ge (show q < 60 by omega) (by omega)), xcr h (by decide) (by omega) (by decide), e13, bnd_s, cw_at (by omega) (by decide), nI_add]
    obtain ⟨S', g1, g2⟩ := x_beginL hL h6 d (q + 1) k (mS S.1 18 q (x.1 13 q), S.2) (by omega) (by omega) (CR_ext (CR_pv (a := 18) (i := q) (w := x.1 13 q) (by decide) h) (fun a _ => funext fun i => by
      show (if a = 18 ∧ i < q + 1 then x.1 13 i else x.1 a i) = mS (pw x q).1 18 q (x.1 13 q) a i
      by_cases h1 : a = 18
      · by_cases h2 : i = q
        · subst h1 h2; rw [if_pos (by omega), mS_eq]
        · subst h1
          rw [mS_ne2 h2]
          show _ = if 18 = 18 ∧ i < q then x.1 13 i else x.1 18 i
          by_cases h3 : i < q
          · rw [if_pos (by omega), if_pos (by omega)]
          · rw [if_neg (by omega), if_neg (by omega)]
      · rw [mS_ne h1, if_neg (fun w => h1 w.1)]
        show _ = if a = 18 ∧ i < q then x.1 13 i else x.1 a i
        rw [if_neg (fun w => h1 w.1)]) (fun _ _ => rfl) (fun _ _ _ _ _ _ => rfl) rfl)
    exact ⟨S', g1, g2⟩
theorem pw_0 {x : X} : pw x 0 = x := by
  unfold pw
  have : (fun a i => if a = 18 ∧ i < 0 then x.1 13 i else x.1 a i) = x.1 := funext fun a => funext fun i => by rw [if_neg (by omega)]
  rw [this]
/-- the class begins the run of a cell with code -/
theorem x_begin {S : CS} {x : X} {L : Nat} (hn : 1000 ≤ n) (hC : CR S x) (hL : L ≤ 60) (h6 : x.1 6 0 = nI L) : Ru (f3_beginCell n S) 0 (fun S' => CR S' (opf (pv (pw (clr x) L) 19 0 (nI 1)) 0 (-1) (nI 0) (nI L))) := by
  obtain ⟨S1, c1, c2⟩ := x_clear n hC
  have h6' : (clr x).1 6 0 = nI L := by rw [clr_o (by omega)]; exact h6
  obtain ⟨S2, d1, d2⟩ := x_beginL n hL h6' L 0 n S1 (by omega) (by omega) (by rw [pw_0]; exact c2)
  have c3 := CR_pv (a := 19) (i := 0) (w := nI 1) (by decide) d2
  obtain ⟨S4, o1, o2⟩ := x_openFrame n hn c3 (f := 0) (show (clr x).2.1 4 = 0 from clr_4) (by omega) (r := -1) (a := nI 0) (b := nI L)
  refine ⟨S4, ?_, o2⟩
  unfold f3_beginCell
  rw [c1, bnd_s, d1]
  unfold f3_beginCell_b37
  rw [cp_e, xcg c3 (by decide), show (pv (pw (clr x) L) 19 0 (nI 1)).1 6 0 = nI L from h6', o1, bnd_s]
theorem clr_c {x : X} : (clr x).2.2 = x.2.2 := rfl
theorem Wri_0 {x : X} {M : MR} (h : M0s M) (h1 : x.1 16 0 = nI 0) (h2 : x.1 15 0 = nI 0) (h3 : x.2.1 2 = 0) : Wri x M :=
  ⟨0, 0, by omega, by omega, h1, h.2.2.2.1, h2, h.2.2.2.2.2, by rw [h3]; rfl, fun i hi => by simp at hi⟩
theorem okC_t {B B' : Im} (h1 : bE B' = bE B) (h2 : bed B' = bed B) {tx tx' : Nat → Int32} {b : Bool} {en p h : Nat} (ht : ∀ i, i < en → tx' i = tx i) (q : okC B tx b en p h) : okC B' tx' b en p h := by
  obtain ⟨m, q⟩ := q
  exact ⟨m, okc_c (fun e he => by unfold Vv; rw [h1, h2]; exact he) (fun e he => by unfold Cc; rw [h1, h2]; exact he) m p h (fun i _ hi => ht i hi) q⟩
end RUN3
