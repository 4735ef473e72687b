theorem gf_e {ρ : Type} {M : MR} {j : Nat} {v : Int32} {K : Int32 → Option ρ} (h : M j 0 = v) : gf M j K = K v := by unfold gf; rw [h]
theorem pf_e {ρ : Type} {M : MR} {j : Nat} {v : Int32} {K : MR → Option ρ} : pf M j v K = K (mS M j 0 v) := rfl
-- ===== work: the image only grows in objects, and states only leave 0 =====
def Ims (B B' : Im) : Prop := (bC B' = bC B ∧ bE B' = bE B ∧ bce B' = bce B ∧ bnw B' = bnw B) ∧ (∀ e i, i ≠ 6 → bed B' e i = bed B e i) ∧ bO B ≤ bO B' ∧ ∀ e, ¬ bed B e 6 = nI 0 → ¬ bed B' e 6 = nI 0
theorem Ims_refl (B : Im) : Ims B B := ⟨⟨rfl, rfl, rfl, rfl⟩, fun _ _ _ => rfl, Nat.le_refl _, fun _ h => h⟩
theorem Ims_trans {B B' B'' : Im} (h : Ims B B') (h' : Ims B' B'') : Ims B B'' := ⟨⟨h'.1.1.trans h.1.1, h'.1.2.1.trans h.1.2.1, h'.1.2.2.1.trans h.1.2.2.1, h'.1.2.2.2.trans h.1.2.2.2⟩, fun e i hi => (h'.2.1 e i hi).trans (h.2.1 e i hi), Nat.le_trans h.2.2.1 h'.2.2.1, fun e q => h'.2.2.2 e (h.2.2.2 e q)⟩
theorem Ims_state {B : Im} {e : Nat} {w : Int32} (hw : ¬ w = nI 0) : Ims B (sE B e 6 w) := by
  refine ⟨⟨rfl, rfl, rfl, rfl⟩, fun e' i hi => st2_ne (Or.inr hi), Nat.le_refl _, fun e' q => ?_⟩
  by_cases h : e' = e
  · subst h
    rw [show bed (sE B e' 6 w) e' 6 = w from st2_eq]; exact hw
  · rw [show bed (sE B e 6 w) e' 6 = bed B e' 6 from st2_ne (Or.inl h)]; exact q
section IMS
variable {B B' : Im} (h : Ims B B')
theorem Ims_Cc (h : Ims B B') {e : Nat} (q : Cc B e) : Cc B' e := ⟨by rw [h.1.2.1]; exact q.1, by rw [h.2.1 e 2 (by decide)]; exact q.2⟩
theorem Ims_Vv (h : Ims B B') {e : Nat} (q : Vv B e) : Vv B' e := ⟨by rw [h.1.2.1]; exact q.1, by rw [h.2.1 e 2 (by decide)]; exact q.2⟩
theorem Ims_ett (h : Ims B B') (e : Nat) : ett B' e = ett B e := funext fun i => h.2.1 e _ (by omega)
theorem Ims_ok (h : Ims B B') {tx : Nat → Int32} {b : Bool} {en p k : Nat} (q : okC B tx b en p k) : okC B' tx b en p k := by
  obtain ⟨m, q⟩ := q
  exact ⟨m, okc_c (fun e w => Ims_Vv h w) (fun e w => Ims_Cc h w) m _ _ (fun _ _ _ => rfl) q⟩
theorem Ims_V (h : Ims B B') {k v : Int32} (q : VOk B k v) : VOk B' k v := VOk_c q h.2.2.1
end IMS
-- ===== what outlives the work =====
def Wri (x : X) (M : MR) : Prop := ∃ s w, s ≤ 1000 ∧ w ≤ s ∧ x.1 16 0 = nI s ∧ M 23 0 = nI s ∧ x.1 15 0 = nI w ∧ M 25 0 = nI w ∧ x.2.1 2 = min w 20 ∧ ∀ i, i < min w 20 → M 26 i = x.2.2.1 2 i 0 ∧ M 27 i = x.2.2.1 2 i 1 ∧ (x.2.2.1 2 i 0 = nI 0 ∨ x.2.2.1 2 i 0 = nI 1)
def FXw (x x' : X) : Prop := (∀ a, a ≠ 15 → a ≠ 16 → a ≠ 17 → x'.1 a = x.1 a) ∧ Ims (im x) (im x') ∧ x'.2.2.2 = x.2.2.2
def FMw (M M' : MR) : Prop := (∀ i, 20870 ≤ i → M' 0 i = M 0 i) ∧ ∀ a, a ≠ 0 → (a < 10 ∨ 28 ≤ a) → M' a = M a
theorem FXw_refl (x : X) : FXw x x := ⟨fun _ _ _ _ => rfl, Ims_refl _, rfl⟩
theorem FMw_refl (M : MR) : FMw M M := ⟨fun _ _ => rfl, fun _ _ _ => rfl⟩
theorem FXw_trans {x x' x'' : X} (h : FXw x x') (h' : FXw x' x'') : FXw x x'' := ⟨fun a a1 a2 a3 => (h'.1 a a1 a2 a3).trans (h.1 a a1 a2 a3), Ims_trans h.2.1 h'.2.1, h'.2.2.trans h.2.2⟩
theorem FMw_trans {x x' x'' : MR} (h : FMw x x') (h' : FMw x' x'') : FMw x x'' := ⟨fun i hi => (h'.1 i hi).trans (h.1 i hi), fun a a1 a2 => (h'.2 a a1 a2).trans (h.2 a a1 a2)⟩
theorem FMw_mS {M : MR} {a i : Nat} {v : Int32} (h : 10 ≤ a ∧ a < 28) : FMw M (mS M a i v) := ⟨fun j _ => mS_ne (by omega), fun b b1 b2 => mS_o (by omega)⟩
theorem FMw_0 {M : MR} {i : Nat} {v : Int32} (h : i < 20870) : FMw M (mS M 0 i v) := ⟨fun j hj => mS_ne2 (by omega), fun b b1 b2 => mS_o b1⟩
/-- the frames' starts, on both sides -/
def FrS (x : X) (M : MR) : Prop := x.2.1 4 ≤ 21 ∧ M 20 0 = nI (x.2.1 4) ∧ ∀ i, i < x.2.1 4 → M 19 i = x.2.2.1 4 i 6 ∧ (x.2.2.1 4 i 6 = -1 ∨ ∃ e, x.2.2.1 4 i 6 = nI e ∧ Cc (im x) e ∧ ¬ bed (im x) e 6 = nI 0)
theorem st_ok {B : Im} (hW : WF B) {e : Nat} (he : Cc B e) (h : ¬ bed B e 6 = nI 0) : ∀ p, p < bE B → bed B e 5 = nI p → ¬ bed B p 6 = nI 0 :=
  fun p hp h5 h6 => h ((wf_st hW he.1 he.2).2 p hp h5 h6)
def anyS (x : X) (i r : Nat) : Bool := (fnd (fun q => decide (¬ x.2.2.1 4 q 6 = -1)) i r).isSome
theorem j_break (n : Nat) {wh : Nat} (hwh : wh < 1000) (hw0 : 0 < wh) : ∀ r i k k' (b : Bool) (S : CS) (x : X) (M : MR), i + r = x.2.1 4 → r < k → r < k' → CR S x → WF (im x) → RelI (im x) (M 0) → FrS x M → M 24 0 = nI (if b = true then (if wh = 100 then 100 else 6) else wh) → ∃ S' x' M', f3_breakStarts_l4 n k (imI b) (nI i) S = some (imI (b || anyS x i r), S') ∧ fR_fail_l7 n k' (nI wh) (nI i) M = some (0, M') ∧ CR S' x' ∧ WF (im x') ∧ RelI (im x') (M' 0) ∧ FXw x x' ∧ x'.1 = x.1 ∧ (∀ q, q < 5 → x'.2.1 q = x.2.1 q ∧ x'.2.2.1 q = x.2.2.1 q) ∧ FMw M M' ∧ (∀ a, a ≠ 0 → a ≠ 24 → M' a = M a) ∧ M' 24 0 = nI (if (b || anyS x i r) = true then (if wh = 100 then 100 else 6) else wh)
  | 0, i, k, k', b, S, x, M, hi, hk, hk', hC, hW, hR, hF, h24 => by
    obtain ⟨k, rfl⟩ : ∃ q, k = q + 1 := ⟨k - 1, by omega⟩
    obtain ⟨k', rfl⟩ : ∃ q, k' = q + 1 := ⟨k' - 1, by omega⟩
    obtain ⟨f1, f2, f3⟩ := hF
    have e : anyS x i 0 = false := rfl
    rw [e, Bool.or_false]
    refine ⟨S, x, M, ?_, ?_, hC, hW, hR, FXw_refl x, rfl, fun _ _ => ⟨rfl, rfl⟩, FMw_refl M, fun _ _ _ => rfl, h24⟩
    · rw [f3_breakStarts_l4, xz4 n hC, if_pos (nI_le (by omega) (by omega)), zt_b (by unfold imI; cases b; exact bo_0; exact bo_1)]
    · rw [fR_fail_l7, gf_e f2, if_pos (nI_le (by omega) (by omega))]
  | r + 1, i, k, k', b, S, x, M, hi, hk, hk', hC, hW, hR, hF, h24 => by
    obtain ⟨k, rfl⟩ : ∃ q, k = q + 1 := ⟨k - 1, by omega⟩
    obtain ⟨k', rfl⟩ : ∃ q, k' = q + 1 := ⟨k' - 1, by omega⟩
    obtain ⟨f1, f2, f3⟩ := id hF
    obtain ⟨g1, g2⟩ := f3 i (by omega)
    have hB := hW.1
    rw [f3_breakStarts_l4, xz4 n hC, if_neg (nI_ge (by omega) (by omega)), xg4 n hC (by omega) (by omega), fR_fail_l7]
    rw [show ∀ K : Int32 → Option (Int32 × MR), gf M 20 K = K (nI (x.2.1 4)) from fun K => by unfold gf; rw [f2], if_neg (nI_ge (by omega) (by omega)), rd_at (by omega) (by decide), g1]
    rcases g2 with g2 | ⟨e, g2, g3, g4⟩
    · have ea : anyS x i (r + 1) = anyS x (i + 1) r := by
        unfold anyS
        rw [fnd, if_neg (by simp [g2])]
      obtain ⟨S', x', M', q1, q2, q⟩ := j_break n hwh hw0 r (i + 1) k k' b S x M (by omega) (by omega) (by omega) hC hW hR hF h24
      rw [ea]
      refine ⟨S', x', M', ?_, ?_, q⟩
      · rw [if_pos g2]
        unfold f3_breakStarts_b47
        rw [nI_add, q1]
      · rw [g2, if_pos m1_lt]
        unfold fR_fail_b58
        rw [nI_add, q2]
    · have he := g3.1
      have ea : anyS x i (r + 1) = true := by
        unfold anyS
        rw [fnd, if_pos (by rw [g2]; exact decide_eq_true (fun w => m1_n e (by omega) w.symm))]
        rfl
      have hc' : CR (tset S 6 e 6 (nI 2)) (st x 6 e 6 (nI 2)) := CR_st (by decide) (show 6 < 104 by decide) hC
      have hi' : im (st x 6 e 6 (nI 2)) = sE (im x) e 6 (nI 2) := im_st6
      have hs : Ims (im x) (im (st x 6 e 6 (nI 2))) := by rw [hi']; exact Ims_state (by decide)
      obtain ⟨S', x', M', q1, q2, q3, q4, q5, q6, q7, q8, q9, q10, q11⟩ := j_break n hwh hw0 r (i + 1) k k' true (tset S 6 e 6 (nI 2)) (st x 6 e 6 (nI 2)) (mS (mS M 0 (7220 + 70 * e + 5) (nI 2)) 24 0 (nI (if wh = 100 then 100 else 6))) (by show i + 1 + r = x.2.1 4; omega) (by omega) (by omega) hc' (by rw [hi']; exact WF_state hW he (Or.inr rfl) (st_ok hW g3 g4)) (by rw [hi', mS_o (by omega)]; exact RelI_state hR hW.1 he) (by
        refine ⟨f1, by rw [mS_ne (by omega), mS_ne (by omega)]; exact f2, fun j hj => ?_⟩
        have hj : j < x.2.1 4 := hj
        obtain ⟨w1, w2⟩ := f3 j hj
        refine ⟨by rw [mS_ne (by omega), mS_ne (by omega)]; exact w1, ?_⟩
        rcases w2 with w2 | ⟨e', w2, w3, w4⟩
        · exact Or.inl w2
        · exact Or.inr ⟨e', w2, Ims_Cc hs w3, hs.2.2.2 e' w4⟩) (by rw [mS_eq, if_pos rfl])
      rw [ea, Bool.or_true]
      rw [Bool.true_or] at q1 q11
      refine ⟨S', x', M', ?_, ?_, q3, q4, q5, FXw_trans (show FXw x (st x 6 e 6 (nI 2)) from ⟨fun _ _ _ _ => rfl, hs, rfl⟩) q6, q7, fun q hq => ?_, FMw_trans (FMw_trans (FMw_0 (by omega)) (FMw_mS (by omega))) q9, fun a a1 a2 => ?_, q11⟩
      · rw [g2, if_neg (fun w => m1_n e (by omega) w.symm), b_set n (by decide) (hC.2.1 6 (by decide)) he (show 6 < 104 by decide)]
        unfold f3_breakStarts_b47
        rw [nI_add]
        exact q1
      · rw [g2, if_neg (nI_pos (by omega)), rd_at (by omega) (by decide), g1, g2, r_editAt, bnd_s, nI_add, wr_at (by omega) (by decide)]
        unfold fR_fail_b55 fR_fail_b58
        rw [nI_add]
        by_cases h100 : wh = 100
        · rw [if_pos (by rw [h100])]
          rw [if_pos h100] at q2
          exact q2
        · rw [if_neg (fun w => h100 ((nI_eq (by omega) (by omega)).mp w))]
          rw [if_neg h100] at q2
          exact q2
      · refine ⟨(q8 q hq).1, (q8 q hq).2.trans ?_⟩
        show uf x.2.2.1 6 _ q = _
        rw [uf_ne (by omega)]
      · rw [q10 a a1 a2, mS_o a2, mS_o a1]
