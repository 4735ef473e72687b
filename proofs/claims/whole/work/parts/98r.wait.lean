-- ===== which of the waiting cells is run next, on both sides =====
/-- lean i of cell c is of a name whose newest edition is of another one that waits -/
def blk1 (B : Im) (wt : Nat → Bool) (c i : Nat) : Bool := !(decide (bnw B (nmn B (bce B c (69 + i)).toNatClampNeg) = -1)) && (!(decide (bed B (bnw B (nmn B (bce B c (69 + i)).toNatClampNeg)).toNatClampNeg 1 = nI c)) && wt (bed B (bnw B (nmn B (bce B c (69 + i)).toNatClampNeg)).toNatClampNeg 1).toNatClampNeg)
def anyW (B : Im) (wt : Nat → Bool) (c : Nat) : Nat → Nat → Bool
  | _, 0 => false
  | i, d + 1 => blk1 B wt c i || anyW B wt c (i + 1) d
def frw (B : Im) (wt : Nat → Bool) (c : Nat) : Bool := !(anyW B wt c 0 (bce B c 7).toNatClampNeg)
def Mw (x : X) (m : Int64) (f : Nat → Int32) : Prop := (∀ c, c < bC (im x) → f c = zI (mb m c)) ∧ ∀ c, bC (im x) ≤ c → mb m c = false
theorem zI_a1 {g : Bool} : zI g &&& nI 1 = zI g := by cases g <;> decide
theorem zI_a0 {g : Bool} : zI g &&& nI 0 = zI false := by cases g <;> decide
theorem lean_w {x : X} (hW : WF (im x)) {c q i : Nat} (hc : c < bC (im x)) (h7 : bce (im x) c 7 = nI q) (hq : q ≤ 16) (hi : i < q) : ∃ e j, e < bE (im x) ∧ bce (im x) c (69 + i) = nI e ∧ j < 16 ∧ bed (im x) e 0 = nI j ∧ ((bnw (im x) j = -1 ∧ ∀ wt, blk1 (im x) wt c i = false) ∨ ∃ e' c', e' < bE (im x) ∧ bnw (im x) j = nI e' ∧ c' < bC (im x) ∧ bed (im x) e' 1 = nI c' ∧ ∀ wt, blk1 (im x) wt c i = (!(decide (c' = c)) && wt c')) := by
  have hB := hW.1
  obtain ⟨e, j, c0, e1, e2, e3, e4, _⟩ := lean_e hW hc h7 hq hi
  refine ⟨e, j, e1, e2, e3, e4, ?_⟩
  have en : nmn (im x) (bce (im x) c (69 + i)).toNatClampNeg = j := by unfold nmn; rw [e2, nI_clamp (by omega), e4, nI_clamp (by omega)]
  rcases hW.2.2.2.2 j e3 with hn | ⟨e', f1, f2, _⟩
  · refine Or.inl ⟨hn, fun wt => ?_⟩
    unfold blk1
    rw [en, hn, decide_eq_true rfl]; rfl
  · obtain ⟨_, ⟨c', g1, g2⟩, _⟩ := hW.2.2.1 e' f1
    refine Or.inr ⟨e', c', f1, f2, g1, g2, fun wt => ?_⟩
    unfold blk1
    rw [en, f2, nI_clamp (by omega), g2, nI_clamp (by omega), decide_eq_false (fun w => m1_n e' (by omega) w.symm)]
    have : decide (nI c' = nI c) = decide (c' = c) := decide_eq_decide.mpr (nI_eq (by omega) (by omega))
    rw [this, Bool.not_false, Bool.true_and]
section WAIT
variable (n : Nat) {S : CS} {x : X}
theorem x_wait {m : Int64} {c q : Nat} (h : CR S x) (hW : WF (im x)) (hc : c < bC (im x)) (h7 : bce (im x) c 7 = nI q) (hq : q ≤ 16) : ∀ d i k, i + d = q → d < k → f0_leansOnWaiting_l3 n k (nI c) m (nI i) S = some (zI (anyW (im x) (mb m) c i d), S)
  | 0, i, k, hi, hk => by
    obtain ⟨k, rfl⟩ : ∃ q, k = q + 1 := ⟨k - 1, by omega⟩
    rw [f0_leansOnWaiting_l3, x_get n h (by decide) hc (by decide), show x.2.2.1 5 c 7 = nI q from h7, if_pos (by rw [show i = q by omega]; exact Int32.le_refl _), zt_0]
    rfl
  | d + 1, i, k, hi, hk => by
    obtain ⟨k, rfl⟩ : ∃ q, k = q + 1 := ⟨k - 1, by omega⟩
    have hB := hW.1
    obtain ⟨e, j, e1, e2, e3, e4, e5⟩ := lean_w hW hc h7 hq (show i < q by omega)
    have ih := x_wait (m := m) h hW hc h7 hq d (i + 1) k (by omega) (by omega)
    rw [f0_leansOnWaiting_l3, x_get n h (by decide) hc (by decide), show x.2.2.1 5 c 7 = nI q from h7, if_neg (nI_ge (show i < q by omega) (by omega))]
    unfold f0_leanOf
    rw [nI_add, x_get n h (by decide) hc (show 69 + i < 125 by omega), bnd_s, show x.2.2.1 5 c (69 + i) = nI e from e2, x_get n h (by decide) e1 (by decide), show x.2.2.1 6 e 0 = nI j from e4, q_newestOf n S e3, bnd_s, h.1 20 (by decide)]
    rw [show anyW (im x) (mb m) c i (d + 1) = (blk1 (im x) (mb m) c i || anyW (im x) (mb m) c (i + 1) d) from rfl]
    have eb : ∀ S, f0_leansOnWaiting_b78 n (f0_leansOnWaiting_l3 n k) (nI c) m (nI i) S = f0_leansOnWaiting_l3 n k (nI c) m (nI (i + 1)) S := fun S => by unfold f0_leansOnWaiting_b78; rw [nI_add]
    rcases e5 with ⟨e5, e6⟩ | ⟨e', c', f1, f2, f3, f4, f5⟩
    · rw [if_pos (show x.1 20 j = -1 from e5), e6, Bool.false_or]
      unfold f0_leansOnWaiting_b59
      rw [if_neg (m1_n c (by omega))]
      unfold f0_isMarked
      rw [if_pos m1_lt, zt_0, bnd_s, if_pos n0_0, eb, ih]
    · rw [show x.1 20 j = nI e' from f2, if_neg (fun w => m1_n e' (by omega) w.symm), x_get n h (by decide) f1 (by decide), show x.2.2.1 6 e' 1 = nI c' from f4, f5]
      unfold f0_leansOnWaiting_b59
      by_cases hcc : c' = c
      · subst hcc
        rw [if_pos rfl, eb, ih, decide_eq_true rfl]; rfl
      · rw [if_neg (fun w => hcc ((nI_eq (by omega) (by omega)).mp w)), x_marked n (show c' < 40 by omega), bnd_s, decide_eq_false hcc]
        cases hm : mb m c'
        · rw [show (if false = true then nI 1 else nI 0) = nI 0 from rfl, if_pos n0_0, eb, ih]; rfl
        · rw [show (if true = true then nI 1 else nI 0) = nI 1 from rfl, if_neg n1_0, zt_1]; rfl
theorem r_free {M : MR} {m : Int64} {c q : Nat} (hW : WF (im x)) (hR : RelI (im x) (M 0)) (hF : Fz (im x)) (hc : c < bC (im x)) (h7 : bce (im x) c 7 = nI q) (hq : q ≤ 16) (hm : Mw x m (M 29)) : ∀ d i k g, i + d = q → d < k → fR_isFree_l4 n k (nI c) (zI g) (nI i) M = some (zI (g && !(anyW (im x) (mb m) c i d)), M)
  | 0, i, k, g, hi, hk => by
    obtain ⟨k, rfl⟩ : ∃ q, k = q + 1 := ⟨k - 1, by omega⟩
    have hB := hW.1
    rw [fR_isFree_l4, r_cellAt, bnd_s, nI_add, rd_at (by omega) (by decide), ri_c8 hR hF hc, h7, if_pos (by rw [show i = q by omega]; exact Int32.le_refl _), zt_b zI_bo, show anyW (im x) (mb m) c i 0 = false from rfl, Bool.not_false, Bool.and_true]
  | d + 1, i, k, g, hi, hk => by
    obtain ⟨k, rfl⟩ : ∃ q, k = q + 1 := ⟨k - 1, by omega⟩
    have hB := hW.1
    obtain ⟨e, j, e1, e2, e3, e4, e5⟩ := lean_w hW hc h7 hq (show i < q by omega)
    have ih := fun g => r_free (m := m) hW hR hF hc h7 hq hm d (i + 1) k g (by omega) (by omega)
    rw [fR_isFree_l4, r_cellAt, bnd_s, nI_add, rd_at (by omega) (by decide), ri_c8 hR hF hc, h7, if_neg (nI_ge (show i < q by omega) (by omega)), r_cellAt, bnd_s, nI_add (20 + 180 * c), nI_add, rd_at (by omega) (by decide), ri_cl hR hF hc (show i < 16 by omega) (by rw [h7]; exact nI_lt (by omega) (by omega)), e2, r_editAt, bnd_s, nI_add, Nat.add_zero, rd_at (by omega) (by decide), ri_e0 hR e1, e4, r_newest n M e3, bnd_s, hR.1.2.2.2 j e3, p1_m1]
    rw [show anyW (im x) (mb m) c i (d + 1) = (blk1 (im x) (mb m) c i || anyW (im x) (mb m) c (i + 1) d) from rfl]
    have e92 : ∀ M, fR_isFree_b92 n (fR_isFree_l4 n k) (nI c) (nI i) (zI g) M = fR_isFree_l4 n k (nI c) (zI g) (nI (i + 1)) M := fun M => by unfold fR_isFree_b92 fR_isFree_b97; rw [zI_a1, nI_add]
    rcases e5 with ⟨e5, e6⟩ | ⟨e', c', f1, f2, f3, f4, f5⟩
    · rw [e5, if_pos m1_lt, e92, ih, e6, Bool.false_or]
    · rw [f2, if_neg (nI_pos (by omega)), r_editAt, bnd_s, nI_add, rd_at (by omega) (by decide), ri_e2 hR f1, f4, f5]
      by_cases hcc : c' = c
      · rw [if_pos (by rw [hcc]), e92, ih, decide_eq_true hcc]; rfl
      · rw [if_neg (fun w => hcc ((nI_eq (by omega) (by omega)).mp w)), r_editAt, bnd_s, nI_add, rd_at (by omega) (by decide), ri_e2 hR f1, f4, rd_at (show c' < 40 by omega) (by decide), hm.1 c' f3, decide_eq_false hcc]
        cases hmc : mb m c'
        · rw [zI_f, if_pos n0_0, e92, ih]; rfl
        · rw [zI_t, if_neg n1_0]
          unfold fR_isFree_b97
          rw [zI_a0, nI_add, ih, Bool.not_false, Bool.true_and, Bool.true_or, Bool.not_true, Bool.and_false, Bool.false_and]
theorem x_leansOn {m : Int64} {c : Nat} (hn : 1000 ≤ n) (h : CR S x) (hW : WF (im x)) (hc : c < bC (im x)) : f0_leansOnWaiting n (nI c) m S = some (zI (!(frw (im x) (mb m) c)), S) := by
  obtain ⟨_, _, _, q, hq, h7, _⟩ := hW.2.1 c hc
  unfold f0_leansOnWaiting frw
  rw [Bool.not_not, h7, nI_clamp (by omega)]
  exact x_wait n h hW hc h7 hq q 0 n (by omega) (by omega)
theorem r_isFree {M : MR} {m : Int64} {c : Nat} (hn : 1000 ≤ n) (hW : WF (im x)) (hR : RelI (im x) (M 0)) (hF : Fz (im x)) (hc : c < bC (im x)) (hm : Mw x m (M 29)) : fR_isFree n (nI c) M = some (zI (frw (im x) (mb m) c), M) := by
  obtain ⟨_, _, _, q, hq, h7, _⟩ := hW.2.1 c hc
  unfold fR_isFree frw
  rw [h7, nI_clamp (by omega)]
  have := r_free n hW hR hF hc h7 hq hm q 0 n true (by omega) (by omega)
  rw [Bool.true_and] at this
  exact this
def orO (a b : Option Nat) : Option Nat := match a with
  | some k => some k
  | none => b
def PN (B : Im) (wt : Nat → Bool) (c : Nat) : Bool := wt c && frw B wt c
theorem x_nextw_l {m : Int64} (hn : 1000 ≤ n) (h : CR S x) (hW : WF (im x)) : ∀ d c k (l0 : Option Nat), c + d = bC (im x) → d < k → (∀ l, l0 = some l → l < 40) → f0_nextToRun_l5 n k m (ni l0) (nI c) S = some (ni (orO (fnd (PN (im x) (mb m)) c d) (orO l0 (fnd (mb m) c d))), S)
  | 0, c, k, l0, hc, hk, hl => by
    obtain ⟨k, rfl⟩ : ∃ q, k = q + 1 := ⟨k - 1, by omega⟩
    rw [f0_nextToRun_l5, xz5 n h, if_pos (by rw [show c = bC (im x) by omega]; exact Int32.le_refl _)]
    show _ = some (ni (orO none (orO l0 none)), S)
    cases l0 <;> rfl
  | d + 1, c, k, l0, hc, hk, hl => by
    obtain ⟨k, rfl⟩ : ∃ q, k = q + 1 := ⟨k - 1, by omega⟩
    have hB := hW.1
    have hcC : c < bC (im x) := by omega
    have ih := fun l0 hl => x_nextw_l (m := m) hn h hW d (c + 1) k l0 (by omega) (by omega) hl
    rw [f0_nextToRun_l5, xz5 n h, if_neg (nI_ge hcC (by omega)), x_marked n (show c < 40 by omega), bnd_s]
    rw [show fnd (PN (im x) (mb m)) c (d + 1) = (if PN (im x) (mb m) c = true then some c else fnd (PN (im x) (mb m)) (c + 1) d) from rfl, show fnd (mb m) c (d + 1) = (if mb m c = true then some c else fnd (mb m) (c + 1) d) from rfl]
    unfold f0_nextToRun_b47
    rw [nI_add]
    cases hmc : mb m c
    · have hp : PN (im x) (mb m) c = false := by unfold PN; rw [hmc]; rfl
      rw [hp, show (if false = true then nI 1 else nI 0) = nI 0 from rfl, if_pos n0_0, if_neg (by decide), if_neg (by decide)]
      exact ih l0 hl
    · rw [show (if true = true then nI 1 else nI 0) = nI 1 from rfl, if_neg n1_0, x_leansOn n hn h hW hcC, bnd_s, if_pos (show true = true from rfl)]
      cases hf : frw (im x) (mb m) c
      · have hp : PN (im x) (mb m) c = false := by unfold PN; rw [hf, Bool.and_false]
        rw [hp, if_neg (show ¬ false = true by decide), Bool.not_false, zI_t, if_neg n1_0]
        cases l0 with
        | none =>
          rw [if_pos (show ni none = -1 from rfl)]
          exact ih (some c) (fun l hl => by cases hl; omega)
        | some l =>
          rw [if_neg (show ¬ ni (some l) = -1 from fun w => m1_n l (by have := hl l rfl; omega) w.symm)]
          exact ih (some l) hl
      · have hp : PN (im x) (mb m) c = true := by unfold PN; rw [hf, hmc]; rfl
        rw [hp, Bool.not_true, zI_f, if_pos n0_0, if_pos (show true = true from rfl)]
        rfl
def nxw (B : Im) (wt : Nat → Bool) : Option Nat := orO (fnd (PN B wt) 0 (bC B)) (fnd wt 0 (bC B))
theorem x_nextw {m : Int64} (hn : 1000 ≤ n) (h : CR S x) (hW : WF (im x)) : f0_nextToRun n m S = some (ni (nxw (im x) (mb m)), S) := by
  have hB := hW.1
  have := x_nextw_l n (m := m) hn h hW (bC (im x)) 0 n none (by omega) (by omega) (fun l w => by cases w)
  unfold f0_nextToRun
  exact this
theorem nI_m {c : Nat} : nI c + (-1 : Int32) = nI c - nI 1 := by
  rw [Int32.sub_eq_add_neg]; rfl
theorem r_nextw_l {M : MR} {m : Int64} {k74 : Int32 → Int32 → Int32 → MR → Option (Int32 × MR)} {x1 x2 x3 : Int32} (hn : 1000 ≤ n) (hW : WF (im x)) (hR : RelI (im x) (M 0)) (hF : Fz (im x)) (hm : Mw x m (M 29)) : ∀ c d k, c + d = bC (im x) → c < k → fR_rerunStale_l95 n k74 k x1 x2 x3 (ni (fnd (PN (im x) (mb m)) c d)) (ni (fnd (mb m) c d)) (nI c - nI 1) M = fR_rerunStale_b165 n k74 x1 x2 x3 (ni (nxw (im x) (mb m))) M
  | 0, d, k, hd, hk => by
    obtain ⟨k, rfl⟩ : ∃ q, k = q + 1 := ⟨k - 1, by omega⟩
    have hB := hW.1
    rw [fR_rerunStale_l95, if_pos (show nI 0 - nI 1 < 0 by decide)]
    unfold nxw
    rw [show bC (im x) = d by omega]
    cases hN : fnd (PN (im x) (mb m)) 0 d with
    | none => rw [if_neg (show ¬ 0 ≤ ni none by decide)]; rfl
    | some a =>
      have := fnd_some hN
      rw [if_pos (show 0 ≤ ni (some a) from nI_pos' (by omega))]; rfl
  | c + 1, d, k, hd, hk => by
    obtain ⟨k, rfl⟩ : ∃ q, k = q + 1 := ⟨k - 1, by omega⟩
    have hB := hW.1
    have hcC : c < bC (im x) := by omega
    have ih := r_nextw_l (k74 := k74) (x1 := x1) (x2 := x2) (x3 := x3) hn hW hR hF hm c (d + 1) k (by omega) (by omega)
    rw [show fnd (PN (im x) (mb m)) c (d + 1) = (if PN (im x) (mb m) c = true then some c else fnd (PN (im x) (mb m)) (c + 1) d) from rfl, show fnd (mb m) c (d + 1) = (if mb m c = true then some c else fnd (mb m) (c + 1) d) from rfl] at ih
    rw [pk_sub (show 1 ≤ c + 1 by omega), Nat.add_sub_cancel, fR_rerunStale_l95, if_neg (nI_pos (by omega)), rd_at (show c < 40 by omega) (by decide), hm.1 c hcC]
    unfold fR_rerunStale_b117
    rw [rd_at (show c < 40 by omega) (by decide), hm.1 c hcC]
    unfold fR_rerunStale_b143 fR_rerunStale_b145
    rw [nI_m]
    cases hmc : mb m c
    · have hp : PN (im x) (mb m) c = false := by unfold PN; rw [hmc]; rfl
      rw [hmc, hp, if_neg (by decide), if_neg (by decide)] at ih
      rw [zI_f, if_pos n0_0, if_pos n0_0, ih]
    · rw [zI_t, if_neg n1_0, rd_at (show c < 40 by omega) (by decide), hm.1 c hcC, hmc, zI_t, if_neg n1_0, r_isFree n hn hW hR hF hcC hm, bnd_s]
      rw [hmc, if_pos (show true = true from rfl)] at ih
      cases hf : frw (im x) (mb m) c
      · have hp : PN (im x) (mb m) c = false := by unfold PN; rw [hf, Bool.and_false]
        rw [hp, if_neg (show ¬ false = true by decide)] at ih
        rw [zI_f, if_pos n0_0]
        exact ih
      · have hp : PN (im x) (mb m) c = true := by unfold PN; rw [hf, hmc]; rfl
        rw [hp, if_pos (show true = true from rfl)] at ih
        rw [zI_t, if_neg n1_0]
        exact ih
theorem nxw_some {m : Int64} {w : Nat} (hC : bC (im x) ≤ 40) (hz : ∀ c, bC (im x) ≤ c → mb m c = false) (hw : cnt (mb m) 40 = w + 1) : ∃ c, nxw (im x) (mb m) = some c ∧ c < bC (im x) ∧ mb m c = true := by
  unfold nxw
  cases hN : fnd (PN (im x) (mb m)) 0 (bC (im x)) with
  | some a =>
    obtain ⟨_, h1, h2⟩ := fnd_some hN
    refine ⟨a, rfl, by omega, ?_⟩
    unfold PN at h2
    exact (Bool.and_eq_true _ _ ▸ h2).1
  | none =>
    cases hL : fnd (mb m) 0 (bC (im x)) with
    | some a =>
      obtain ⟨_, h1, h2⟩ := fnd_some hL
      exact ⟨a, rfl, by omega, h2⟩
    | none =>
      have hh := fnd_none hL
      have : cnt (mb m) 40 = 0 := cnt_zero 40 (fun i _ => by
        by_cases hi : i < bC (im x)
        · exact hh i (by omega) (by omega)
        · rw [hz i (by omega)]; decide)
      omega
end WAIT
