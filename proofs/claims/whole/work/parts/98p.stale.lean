-- ===== which cells are stale, on both sides =====
def zI (b : Bool) : Int32 := if b = true then nI 1 else nI 0
theorem zI_t : zI true = nI 1 := rfl
theorem zI_f : zI false = nI 0 := rfl
theorem zI_1 {g : Bool} : zI g ||| nI 1 = nI 1 := by cases g <;> decide
theorem zI_0 {g : Bool} : zI g ||| nI 0 = zI g := by cases g <;> decide
theorem zI_bo {g : Bool} : bo (zI g) := by cases g; exact bo_0; exact bo_1
theorem mS_self {M : MR} {j i : Nat} {v : Int32} (h : M j i = v) : mS M j i v = M := by
  funext a b
  by_cases ha : a = j
  · subst ha
    by_cases hb : b = i
    · subst hb; rw [mS_eq, h]
    · rw [mS_ne2 hb]
  · rw [mS_ne ha]
theorem l_tp6 : ∀ i, i < 40 → ∀ j, j < 64 → mb (Int64.ofNat (2 ^ i)) j = decide (j = i) := by decide +kernel
theorem l_nt6 : ∀ i, i < 40 → ∀ j, j < 64 → mb (Int64.ofNat (2 ^ i) ^^^ (-1 : Int64)) j = decide (¬ j = i) := by decide +kernel
theorem mb_ge {m : Int64} {j : Nat} (h : 64 ≤ j) : mb m j = false := BitVec.getLsbD_of_ge _ _ h
theorem mb_or2 {m : Int64} {i j : Nat} (hi : i < 40) : mb (m ||| ((1 : Int64) <<< (Int32.toInt64 (nI i) &&& 63))) j = (mb m j || decide (j = i)) := by
  by_cases hj : j < 64
  · rw [l_sh1 i hi, ← l_tp6 i hi j hj]
    unfold mb
    rw [Int64.toBitVec_or, BitVec.getLsbD_or]
  · rw [mb_ge (by omega), mb_ge (by omega), decide_eq_false (by omega)]; rfl
theorem mb_dr2 {m : Int64} {i j : Nat} (hi : i < 40) : mb (m &&& (((1 : Int64) <<< (Int32.toInt64 (nI i) &&& 63)) ^^^ (-1 : Int64))) j = (mb m j && decide (¬ j = i)) := by
  by_cases hj : j < 64
  · rw [l_sh1 i hi, ← l_nt6 i hi j hj]
    unfold mb
    rw [Int64.toBitVec_and, BitVec.getLsbD_and]
  · rw [mb_ge (by omega), mb_ge (by omega)]; rfl
theorem cnt_on {P P' : Nat → Bool} {c : Nat} (h0 : P c = false) (h1 : P' c = true) (h : ∀ i, i ≠ c → P' i = P i) : ∀ N, cnt P' N = cnt P N + (if c < N then 1 else 0)
  | 0 => by rw [if_neg (by omega)]; rfl
  | N + 1 => by
    have ih := cnt_on h0 h1 h N
    show cnt P' N + (if P' N = true then 1 else 0) = cnt P N + (if P N = true then 1 else 0) + _
    by_cases hN : N = c
    · subst hN
      rw [ih, h0, h1, if_neg (Nat.lt_irrefl _), if_pos rfl, if_neg (by decide), if_pos (by omega)]
    · rw [ih, h N hN]
      by_cases hc : c < N
      · rw [if_pos hc, if_pos (show c < N + 1 by omega)]; omega
      · rw [if_neg hc, if_neg (show ¬ c < N + 1 by omega)]; omega
/-- the marks of both sides -/
def Mk (x : X) (m : Int64) (f : Nat → Int32) : Prop := (∀ c, c < 40 → f c = zI (mb m c)) ∧ ∀ c, bC (im x) ≤ c → mb m c = false
theorem Mk_on {x : X} {m : Int64} {M : MR} {c a : Nat} (hc : c < bC (im x)) (h40 : c < 40) (h : Mk x m (M a)) : Mk x (m ||| ((1 : Int64) <<< (Int32.toInt64 (nI c) &&& 63))) (mS M a c (nI 1) a) := by
  refine ⟨fun i hi => ?_, fun i hi => ?_⟩
  · rw [mb_or2 h40]
    by_cases hic : i = c
    · subst hic; rw [mS_eq, decide_eq_true rfl, Bool.or_true]; rfl
    · rw [mS_ne2 hic, decide_eq_false hic, Bool.or_false]; exact h.1 i hi
  · rw [mb_or2 h40, decide_eq_false (by omega), Bool.or_false]; exact h.2 i hi
theorem Mk_off {x : X} {m : Int64} {M : MR} {c a : Nat} (h40 : c < 40) (h : Mk x m (M a)) : Mk x (m &&& (((1 : Int64) <<< (Int32.toInt64 (nI c) &&& 63)) ^^^ (-1 : Int64))) (mS M a c (nI 0) a) := by
  refine ⟨fun i hi => ?_, fun i hi => ?_⟩
  · rw [mb_dr2 h40]
    by_cases hic : i = c
    · subst hic; rw [mS_eq, decide_eq_false (fun w => w rfl), Bool.and_false]; rfl
    · rw [mS_ne2 hic, decide_eq_true hic, Bool.and_true]; exact h.1 i hi
  · rw [mb_dr2 h40, h.2 i hi]; rfl
section STALE
variable (n : Nat) {S : CS} {x : X}
theorem r_ln_exit {k23 : Int32 → MR → Option (Int32 × MR)} {k31 : Int32 → Int32 → MR → Option (Int32 × MR)} {k : Nat} {x1 : Int32} {M : MR} {c i q : Nat} (hk : 0 < k) (hc : c < 40) (h8 : M 0 (20 + 180 * c + 8) = nI q) (hq : q ≤ 16) (hi : i ≤ q) (h1 : M 28 c = nI 1) : fR_tellStale_l43 n k23 k31 k x1 (nI c) (nI i) M = k31 x1 (nI (c + 1)) M := by
  obtain ⟨k, rfl⟩ : ∃ q, k = q + 1 := ⟨k - 1, by omega⟩
  rw [fR_tellStale_l43, r_cellAt, bnd_s, nI_add, rd_at (by omega) (by decide), h8]
  by_cases hiq : i = q
  · subst hiq
    rw [if_pos (Int32.le_refl _)]
    unfold fR_tellStale_b151
    rw [nI_add]
  · rw [if_neg (nI_ge (show i < q by omega) (by omega)), rd_at hc (by decide), h1, if_neg n1_0]
    unfold fR_tellStale_b151
    rw [nI_add]
theorem r_lean {k23 : Int32 → MR → Option (Int32 × MR)} {k31 : Int32 → Int32 → MR → Option (Int32 × MR)} {M : MR} {c q : Nat} {mk : Nat → Bool} (hW : WF (im x)) (hR : RelI (im x) (M 0)) (hF : Fz (im x)) (hc : c < bC (im x)) (h7 : bce (im x) c 7 = nI q) (hq : q ≤ 16) (hm : ∀ c', c' < 40 → M 28 c' = zI (mk c')) (h0 : mk c = false) : ∀ d i k g, i + d = q → d + 1 < k → fR_tellStale_l43 n k23 k31 k (zI g) (nI c) (nI i) M = k31 (zI (g || anyL (im x) mk c i d)) (nI (c + 1)) (if anyL (im x) mk c i d = true then mS M 28 c (nI 1) else M)
  | 0, i, k, g, hi, hk => by
    obtain ⟨k, rfl⟩ : ∃ q, k = q + 1 := ⟨k - 1, by omega⟩
    have hB := hW.1
    rw [fR_tellStale_l43, r_cellAt, bnd_s, nI_add, rd_at (by omega) (by decide), ri_c8 hR hF hc, h7, if_pos (by rw [show i = q by omega]; exact Int32.le_refl _)]
    unfold fR_tellStale_b151
    rw [nI_add, show anyL (im x) mk c i 0 = false from rfl, Bool.or_false, if_neg (by decide)]
  | d + 1, i, k, g, hi, hk => by
    obtain ⟨k, rfl⟩ : ∃ q, k = q + 1 := ⟨k - 1, by omega⟩
    have hB := hW.1
    have h28 : M 28 c = nI 0 := by rw [hm c (by omega), h0]; rfl
    obtain ⟨e, j, c', e1, e2, e3, e4, e5, e6, e7⟩ := lean_e hW hc h7 hq (show i < q by omega)
    have ih := r_lean (k23 := k23) (k31 := k31) hW hR hF hc h7 hq hm h0 d (i + 1) k g (by omega) (by omega)
    have hex : ∀ g, fR_tellStale_l43 n k23 k31 k (zI g ||| nI 1) (nI c) (nI (i + 1)) (mS M 28 c (nI 1)) = k31 (nI 1) (nI (c + 1)) (mS M 28 c (nI 1)) := fun g => by
      rw [zI_1]
      exact r_ln_exit n (q := q) (by omega) (by omega) (by rw [mS_ne (by omega), ri_c8 hR hF hc, h7]) hq (by omega) mS_eq
    rw [fR_tellStale_l43, r_cellAt, bnd_s, nI_add, rd_at (by omega) (by decide), ri_c8 hR hF hc, h7, if_neg (nI_ge (show i < q by omega) (by omega)), rd_at (show c < 40 by omega) (by decide), h28, if_pos n0_0, r_cellAt, bnd_s, nI_add (20 + 180 * c), nI_add, rd_at (by omega) (by decide), ri_cl hR hF hc (show i < 16 by omega) (by rw [h7]; exact nI_lt (by omega) (by omega)), e2, r_editAt, bnd_s, nI_add, Nat.add_zero, rd_at (by omega) (by decide), ri_e0 hR e1, e4, r_newest n M e3, bnd_s, hR.1.2.2.2 j e3, p1_m1]
    rw [show anyL (im x) mk c i (d + 1) = (lst1 (im x) mk c i || anyL (im x) mk c (i + 1) d) from rfl, e7]
    by_cases hnw : bnw (im x) j = nI e
    · rw [if_pos hnw, r_editAt, bnd_s, nI_add, rd_at (by omega) (by decide), ri_e2 hR e1, e6, rd_at (show c' < 40 by omega) (by decide), hm c' (by omega)]
      by_cases hm' : mk c' = true
      · rw [hm', zI_t, if_neg n1_0, Bool.or_true, Bool.true_or, Bool.or_true, if_pos rfl, zI_t]
        unfold fR_tellStale_b130 fR_tellStale_b135
        rw [wz_at bo_1 (show c < 40 by omega) (by decide), rd_at (show c < 40 by omega) (by decide), mS_eq, nI_add, hex]
      · have hm2 : mk c' = false := by simpa using hm'
        rw [hm2, zI_f, if_pos n0_0, decide_eq_true hnw]
        unfold fR_tellStale_b135
        rw [wz_at bo_0 (show c < 40 by omega) (by decide), mS_self h28, rd_at (show c < 40 by omega) (by decide), h28, zI_0, nI_add, ih]
        rfl
    · rw [if_neg hnw, decide_eq_false hnw]
      unfold fR_tellStale_b130 fR_tellStale_b135
      rw [wz_at bo_1 (show c < 40 by omega) (by decide), rd_at (show c < 40 by omega) (by decide), mS_eq, nI_add, hex]
      rw [Bool.not_false, Bool.true_or, Bool.true_or, Bool.or_true, if_pos rfl, zI_t]
theorem j_pass (hn : 1000 ≤ n) (h : CR S x) (hW : WF (im x)) (hF : Fz (im x)) : ∀ d c k k' m M g, c + d = bC (im x) → d < k → d < k' → Mk x m (M 28) → RelI (im x) (M 0) → ∃ m' M' g', (∀ k7 x4, f0_staleCells_l23 n k7 k m (zI g) x4 (nI c) S = k7 m' (zI g') (x4 + nI 1) S) ∧ (∀ k23, fR_tellStale_l31 n k23 k' (zI g) (nI c) M = k23 (zI g') M') ∧ Mk x m' (M' 28) ∧ (∀ a, a ≠ 28 → M' a = M a) ∧ cnt (mb m) 40 ≤ cnt (mb m') 40 ∧ (g' = true → g = true ∨ cnt (mb m) 40 < cnt (mb m') 40)
  | 0, c, k, k', m, M, g, hc, hk, hk', hm, hR => by
    obtain ⟨k, rfl⟩ : ∃ q, k = q + 1 := ⟨k - 1, by omega⟩
    obtain ⟨k', rfl⟩ : ∃ q, k' = q + 1 := ⟨k' - 1, by omega⟩
    refine ⟨m, M, g, fun k7 x4 => ?_, fun k23 => ?_, hm, fun _ _ => rfl, Nat.le_refl _, fun w => Or.inl w⟩
    · rw [f0_staleCells_l23, xz5 n h, if_pos (by rw [show c = bC (im x) by omega]; exact Int32.le_refl _)]
    · rw [fR_tellStale_l31, rd_at (by omega) (by decide), hR.1.1, if_pos (by rw [show c = bC (im x) by omega]; exact Int32.le_refl _)]
  | d + 1, c, k, k', m, M, g, hc, hk, hk', hm, hR => by
    obtain ⟨k, rfl⟩ : ∃ q, k = q + 1 := ⟨k - 1, by omega⟩
    obtain ⟨k', rfl⟩ : ∃ q, k' = q + 1 := ⟨k' - 1, by omega⟩
    have hB := hW.1
    have hcC : c < bC (im x) := by omega
    obtain ⟨_, _, _, q, hq, h7, _⟩ := hW.2.1 c hcC
    have h8 := ri_c8 hR hF hcC
    rw [h7] at h8
    have eC : ∀ k7 x4, f0_staleCells_l23 n k7 (k + 1) m (zI g) x4 (nI c) S = if (if mb m c = true then nI 1 else nI 0) = 0 then (bnd (f0_isStaleBy n m (nI c) S) fun v3 S3 => if v3 = 0 then (f0_staleCells_b63 n k7 (f0_staleCells_l23 n k7 k) m (zI g) x4 (nI c) S3) else (f0_staleCells_b63 n k7 (f0_staleCells_l23 n k7 k) (m ||| ((1 : Int64) <<< (Int32.toInt64 (nI c) &&& 63))) (nI 1) x4 (nI c) S3)) else (f0_staleCells_b63 n k7 (f0_staleCells_l23 n k7 k) m (zI g) x4 (nI c) S) := fun k7 x4 => by
      rw [f0_staleCells_l23, xz5 n h, if_neg (nI_ge hcC (by omega)), x_marked n (show c < 40 by omega), bnd_s]
    have eR : ∀ k23, fR_tellStale_l31 n k23 (k' + 1) (zI g) (nI c) M = fR_tellStale_l43 n k23 (fR_tellStale_l31 n k23 k') n (zI g) (nI c) (nI 0) M := fun k23 => by
      rw [fR_tellStale_l31, rd_at (by omega) (by decide), hR.1.1, if_neg (nI_ge hcC (by omega))]
    by_cases hmc : mb m c = true
    · obtain ⟨m', M', g', i1, i2, i3⟩ := j_pass hn h hW hF d (c + 1) k k' m M g (by omega) (by omega) (by omega) hm hR
      refine ⟨m', M', g', fun k7 x4 => ?_, fun k23 => ?_, i3⟩
      · rw [eC, if_pos hmc, if_neg n1_0]
        unfold f0_staleCells_b63
        rw [nI_add c 1, i1]
      · rw [eR, r_ln_exit n (q := q) (by omega) (by omega) h8 hq (by omega) (by rw [hm.1 c (by omega), hmc]; rfl), i2]
    · have hmc2 : mb m c = false := by simpa using hmc
      have eS : f0_isStaleBy n m (nI c) S = some (if anyL (im x) (mb m) c 0 q = true then nI 1 else nI 0, S) := by
        unfold f0_isStaleBy
        exact x_staleBy n h hW hcC h7 hq q 0 n (by omega) (by omega)
      have eL : ∀ k23, fR_tellStale_l43 n k23 (fR_tellStale_l31 n k23 k') n (zI g) (nI c) (nI 0) M = fR_tellStale_l31 n k23 k' (zI (g || anyL (im x) (mb m) c 0 q)) (nI (c + 1)) (if anyL (im x) (mb m) c 0 q = true then mS M 28 c (nI 1) else M) := fun k23 => r_lean n hW hR hF hcC h7 hq hm.1 hmc2 q 0 n g (by omega) (by omega)
      by_cases ha : anyL (im x) (mb m) c 0 q = true
      · obtain ⟨m', M', g', i1, i2, i3, i4, i5, i6⟩ := j_pass hn h hW hF d (c + 1) k k' (m ||| ((1 : Int64) <<< (Int32.toInt64 (nI c) &&& 63))) (mS M 28 c (nI 1)) true (by omega) (by omega) (by omega) (Mk_on hcC (by omega) hm) (by rw [mS_o (by omega)]; exact hR)
        have hcn := cnt_on (P := mb m) (P' := mb (m ||| ((1 : Int64) <<< (Int32.toInt64 (nI c) &&& 63)))) (c := c) hmc2 (by rw [mb_or2 (by omega), decide_eq_true rfl, Bool.or_true]) (fun i hi => by rw [mb_or2 (by omega), decide_eq_false hi, Bool.or_false]) 40
        rw [if_pos (show c < 40 by omega)] at hcn
        refine ⟨m', M', g', fun k7 x4 => ?_, fun k23 => ?_, i3, fun a ha => by rw [i4 a ha, mS_o ha], by omega, fun _ => Or.inr (by omega)⟩
        · rw [eC, if_neg hmc, if_pos n0_0, eS, bnd_s, if_pos ha, if_neg n1_0]
          unfold f0_staleCells_b63
          rw [nI_add c 1]
          exact i1 k7 x4
        · rw [eR, eL, ha, if_pos rfl, Bool.or_true, i2]
      · have ha2 : anyL (im x) (mb m) c 0 q = false := by simpa using ha
        obtain ⟨m', M', g', i1, i2, i3⟩ := j_pass hn h hW hF d (c + 1) k k' m M g (by omega) (by omega) (by omega) hm hR
        refine ⟨m', M', g', fun k7 x4 => ?_, fun k23 => ?_, i3⟩
        · rw [eC, if_neg hmc, if_pos n0_0, eS, bnd_s, if_neg ha, if_pos n0_0]
          unfold f0_staleCells_b63
          rw [nI_add c 1, i1]
        · rw [eR, eL, ha2, if_neg (by decide), Bool.or_false, i2]
theorem j_rounds (hn : 1000 ≤ n) (h : CR S x) (hW : WF (im x)) (hF : Fz (im x)) : ∀ w r k k' m M, 40 ≤ cnt (mb m) 40 + w → r ≤ cnt (mb m) 40 → w + 1 < k → w + 1 < k' → Mk x m (M 28) → RelI (im x) (M 0) → ∃ m' M', f0_staleCells_l7 n k m (nI 1) (nI r) S = some (m', S) ∧ fR_tellStale_l23 n k' (nI 1) M = some (0, M') ∧ Mk x m' (M' 28) ∧ ∀ a, a ≠ 28 → M' a = M a := by
  intro w
  induction w with
  | zero =>
    intro r k k' m M hw hr hk hk' hm hR
    obtain ⟨k, rfl⟩ : ∃ q, k = q + 2 := ⟨k - 2, by omega⟩
    obtain ⟨k', rfl⟩ : ∃ q, k' = q + 2 := ⟨k' - 2, by omega⟩
    have hB := hW.1
    have h40 := cnt_le (mb m) 40
    obtain ⟨m', M', g', i1, i2, i3, i4, i5, i6⟩ := j_pass n hn h hW hF (bC (im x)) 0 n n m M false (by omega) (by omega) (by omega) hm hR
    have h40' := cnt_le (mb m') 40
    have hg : g' = false := by
      cases g'
      · rfl
      · rcases i6 rfl with w | w
        · cases w
        · omega
    subst hg
    refine ⟨m', M', ?_, ?_, i3, i4⟩
    · rw [f0_staleCells_l7, if_neg (nI_nlt (by omega) (by omega)), if_neg n1_0, ← zI_f, show f0_staleCells_l23 n (f0_staleCells_l7 n (k + 1)) n m (zI false) (nI r) (zI false) S = f0_staleCells_l23 n (f0_staleCells_l7 n (k + 1)) n m (zI false) (nI r) (nI 0) S from rfl, i1, zI_f, f0_staleCells_l7, if_pos n0_0]
      split <;> rfl
    · rw [fR_tellStale_l23, if_neg n1_0, show fR_tellStale_l31 n (fR_tellStale_l23 n (k' + 1)) n (nI 0) (nI 0) M = fR_tellStale_l31 n (fR_tellStale_l23 n (k' + 1)) n (zI false) (nI 0) M from rfl, i2, zI_f, fR_tellStale_l23, if_pos n0_0]
  | succ w ih =>
    intro r k k' m M hw hr hk hk' hm hR
    obtain ⟨k, rfl⟩ : ∃ q, k = q + 2 := ⟨k - 2, by omega⟩
    obtain ⟨k', rfl⟩ : ∃ q, k' = q + 2 := ⟨k' - 2, by omega⟩
    have hB := hW.1
    have h40 := cnt_le (mb m) 40
    obtain ⟨m', M', g', i1, i2, i3, i4, i5, i6⟩ := j_pass n hn h hW hF (bC (im x)) 0 n n m M false (by omega) (by omega) (by omega) hm hR
    have h40' := cnt_le (mb m') 40
    have eC : f0_staleCells_l7 n (k + 2) m (nI 1) (nI r) S = f0_staleCells_l7 n (k + 1) m' (zI g') (nI (r + 1)) S := by
      rw [f0_staleCells_l7, if_neg (nI_nlt (by omega) (by omega)), if_neg n1_0, show f0_staleCells_l23 n (f0_staleCells_l7 n (k + 1)) n m (nI 0) (nI r) (nI 0) S = f0_staleCells_l23 n (f0_staleCells_l7 n (k + 1)) n m (zI false) (nI r) (nI 0) S from rfl, i1, nI_add]
    have eR : fR_tellStale_l23 n (k' + 2) (nI 1) M = fR_tellStale_l23 n (k' + 1) (zI g') M' := by
      rw [fR_tellStale_l23, if_neg n1_0, show fR_tellStale_l31 n (fR_tellStale_l23 n (k' + 1)) n (nI 0) (nI 0) M = fR_tellStale_l31 n (fR_tellStale_l23 n (k' + 1)) n (zI false) (nI 0) M from rfl, i2]
    rw [eC, eR]
    cases g' with
    | false =>
      refine ⟨m', M', ?_, ?_, i3, i4⟩
      · rw [zI_f, f0_staleCells_l7, if_pos n0_0]
        split <;> rfl
      · rw [zI_f, fR_tellStale_l23, if_pos n0_0]
    | true =>
      have hlt : cnt (mb m) 40 < cnt (mb m') 40 := by
        rcases i6 rfl with w | w
        · cases w
        · exact w
      obtain ⟨m2, M2, j1, j2, j3, j4⟩ := ih (r + 1) (k + 1) (k' + 1) m' M' (by omega) (by omega) (by omega) (by omega) i3 (by rw [i4 0 (by omega)]; exact hR)
      exact ⟨m2, M2, j1, j2, j3, fun a ha => (j4 a ha).trans (i4 a ha)⟩
theorem r_reset : ∀ d c k (M : MR), c + d = 40 → d < k → (∀ i, i < c → M 28 i = nI 0) → ∃ M', fR_tellStale_l2 n k (nI c) M = fR_tellStale_l23 n n (nI 1) M' ∧ (∀ a, a ≠ 28 → M' a = M a) ∧ ∀ i, i < 40 → M' 28 i = nI 0
  | 0, c, k, M, hc, hk, h => by
    obtain ⟨k, rfl⟩ : ∃ q, k = q + 1 := ⟨k - 1, by omega⟩
    refine ⟨M, ?_, fun _ _ => rfl, fun i hi => h i (by omega)⟩
    rw [fR_tellStale_l2, if_pos (nI_le (by omega) (by omega))]
  | d + 1, c, k, M, hc, hk, h => by
    obtain ⟨k, rfl⟩ : ∃ q, k = q + 1 := ⟨k - 1, by omega⟩
    obtain ⟨M', e1, e2, e3⟩ := r_reset d (c + 1) k (mS M 28 c (nI 0)) (by omega) (by omega) (fun i hi => by
      by_cases hic : i = c
      · subst hic; exact mS_eq
      · rw [mS_ne2 hic]; exact h i (by omega))
    refine ⟨M', ?_, fun a ha => by rw [e2 a ha, mS_o ha], e3⟩
    rw [fR_tellStale_l2, if_neg (nI_ge (show c < 40 by omega) (by omega)), wz_at bo_0 (show c < 40 by omega) (by decide), nI_add, e1]
theorem j_stale (hn : 1000 ≤ n) {M : MR} (h : CR S x) (hW : WF (im x)) (hF : Fz (im x)) (hR : RelI (im x) (M 0)) : ∃ m M', f0_staleCells n S = some (m, S) ∧ fR_tellStale n M = some (0, M') ∧ Mk x m (M' 28) ∧ ∀ a, a ≠ 28 → M' a = M a := by
  obtain ⟨M1, e1, e2, e3⟩ := r_reset n 40 0 n M (by omega) (by omega) (fun i hi => by omega)
  have hm0 : Mk x 0 (M1 28) := ⟨fun c hc => by rw [e3 c hc, mb_0]; rfl, fun c _ => mb_0⟩
  obtain ⟨m, M', i1, i2, i3, i4⟩ := j_rounds n hn h hW hF 40 0 n n 0 M1 (by omega) (by omega) (by omega) (by omega) hm0 (by rw [e2 0 (by omega)]; exact hR)
  refine ⟨m, M', ?_, ?_, i3, fun a ha => (i4 a ha).trans (e2 a ha)⟩
  · unfold f0_staleCells; exact i1
  · unfold fR_tellStale; rw [e1]; exact i2
theorem Mn_o {M M' : MR} (hM : Mn x M) (h : ∀ a, a < 28 ∨ 30 ≤ a → M' a = M a) : Mn x M' := by
  obtain ⟨hW, hR, ⟨t, ht, t1, t2, t3⟩, ⟨g0, g1, g2, g3⟩, hF⟩ := hM
  refine ⟨hW, by rw [h 0 (by omega)]; exact hR, ⟨t, ht, t1, by rw [h 3 (by omega)]; exact t2, fun i hi => by rw [h 2 (by omega)]; exact t3 i hi⟩, ⟨?_, ?_, ?_, ?_⟩, hF⟩
  · rw [h 30 (by omega)]; exact g0
  · rw [h 31 (by omega)]; exact g1
  · rw [h 32 (by omega)]; exact g2
  · rw [h 33 (by omega)]; exact g3
theorem op_stale (hn : 1000 ≤ n) (a : Int32) : OpS (f4_stale n a) (fR_stale n a) := by
  intro S x M hC hM
  obtain ⟨hW, hR, hT, hCm, hF⟩ := id hM
  have hB := hW.1
  obtain ⟨m, M', e1, e2, e3, e4⟩ := j_stale n hn hC hW hF hR
  have hM' := Mn_o hM (M' := M') (fun a ha => e4 a (by omega))
  have hfin : ∀ r, f4_stale n a S = some (r, S) → fR_stale n a M = some (r, M') → ∃ r S' x' M', f4_stale n a S = some (r, S') ∧ fR_stale n a M = some (r, M') ∧ CR S' x' ∧ Mn x' M' ∧ x'.2.2.2 = x.2.2.2 ∧ M' 1 = M 1 ∧ ∀ i, 20870 ≤ i → M' 0 i = M 0 i := fun r h1 h2 => ⟨r, S, x, M', h1, h2, hC, hM', rfl, e4 1 (by omega), fun i _ => by rw [e4 0 (by omega)]⟩
  have hR0 : M' 0 0 = nI (bC (im x)) := by rw [e4 0 (by omega)]; exact hR.1.1
  rcases i_cases a with ha | ⟨c, hc0, rfl⟩
  · refine hfin (nI 0) ?_ ?_
    · unfold f4_stale; rw [b_has_n n (by decide) ha, if_pos n0_0, zt_0]
    · unfold fR_stale; rw [e2, bnd_s, r_isCell_n n M' ha, bnd_s, if_pos n0_0, zt_0]
  by_cases hc : c < bC (im x)
  · refine hfin (zI (mb m c)) ?_ ?_
    · unfold f4_stale
      rw [xh5 n hC hc0, if_pos hc, if_neg n1_0, e1, bnd_s, x_marked n (show c < 40 by omega), bnd_s]
      cases hmc : mb m c
      · rw [show (if false = true then nI 1 else nI 0) = nI 0 from rfl, if_pos n0_0, zt_0]; rfl
      · rw [show (if true = true then nI 1 else nI 0) = nI 1 from rfl, if_neg n1_0, zt_1]; rfl
    · unfold fR_stale
      rw [e2, bnd_s, r_isCell n M' hc0 (by omega) hR0, if_pos hc, bnd_s, if_neg n1_0, rd_at (show c < 40 by omega) (by decide), e3.1 c (by omega)]
      cases hmc : mb m c
      · rw [zI_f, if_pos n0_0, zt_0]
      · rw [zI_t, if_neg n1_0, zt_1]
  · refine hfin (nI 0) ?_ ?_
    · unfold f4_stale; rw [xh5 n hC hc0, if_neg hc, if_pos n0_0, zt_0]
    · unfold fR_stale; rw [e2, bnd_s, r_isCell n M' hc0 (by omega) hR0, if_neg hc, bnd_s, if_pos n0_0, zt_0]
end STALE
