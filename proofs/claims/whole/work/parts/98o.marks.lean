-- ===== marks: bits of a long =====
def mb (m : Int64) (c : Nat) : Bool := m.toBitVec.getLsbD c
theorem l_um : ∀ j, j < 40 → (((Int32.toInt64 (nI j)).toUInt64 &&& Int64.toUInt64 63).toBitVec % 64) = BitVec.ofNat 64 j := by decide +kernel
theorem l_sh1 : ∀ i, i < 40 → ((1 : Int64) <<< (Int32.toInt64 (nI i) &&& 63)) = Int64.ofNat (2 ^ i) := by decide +kernel
theorem l_tp : ∀ i, i < 40 → ∀ j, j < 40 → mb (Int64.ofNat (2 ^ i)) j = decide (j = i) := by decide +kernel
theorem l_nt : ∀ i, i < 40 → ∀ j, j < 40 → mb (Int64.ofNat (2 ^ i) ^^^ (-1 : Int64)) j = decide (¬ j = i) := by decide +kernel
theorem bv_one64 (x : BitVec 64) : (x &&& 1#64 = 1#64) ↔ x.getLsbD 0 = true := by
  constructor
  · intro h
    have := congrArg (fun y => y.getLsbD 0) h
    simpa using this
  · intro h
    apply BitVec.eq_of_getLsbD_eq
    intro i hi
    by_cases h0 : i = 0
    · subst h0; simp [h]
    · simp [BitVec.getLsbD_one, h0]
theorem lg_0 {x y : Int64} : (lg_cmp x y = 0) = (x = y) := by
  refine propext ?_
  unfold lg_cmp
  by_cases h1 : x > y
  · rw [if_pos h1]
    exact ⟨fun w => absurd w (by decide), fun w => by rw [w] at h1; exact absurd h1 (Int64.lt_irrefl)⟩
  · rw [if_neg h1]
    by_cases h2 : x = y
    · rw [if_pos h2]; exact ⟨fun _ => h2, fun _ => rfl⟩
    · rw [if_neg h2]; exact ⟨fun w => absurd w (by decide), fun w => absurd w h2⟩
theorem mb_0 {c : Nat} : mb 0 c = false := by
  show (0#64).getLsbD c = false
  exact BitVec.getLsbD_zero
theorem mb_or {m : Int64} {i j : Nat} (hi : i < 40) (hj : j < 40) : mb (m ||| ((1 : Int64) <<< (Int32.toInt64 (nI i) &&& 63))) j = (mb m j || decide (j = i)) := by
  rw [l_sh1 i hi, ← l_tp i hi j hj]
  unfold mb
  rw [Int64.toBitVec_or, BitVec.getLsbD_or]
theorem mb_dr {m : Int64} {i j : Nat} (hi : i < 40) (hj : j < 40) : mb (m &&& (((1 : Int64) <<< (Int32.toInt64 (nI i) &&& 63)) ^^^ (-1 : Int64))) j = (mb m j && decide (¬ j = i)) := by
  rw [l_sh1 i hi, ← l_nt i hi j hj]
  unfold mb
  rw [Int64.toBitVec_and, BitVec.getLsbD_and]
section MARK
variable (n : Nat) {S : CS} {x : X}
theorem x_marked {m : Int64} {c : Nat} (hc : c < 40) : f0_isMarked n m (nI c) S = some (if mb m c = true then nI 1 else nI 0, S) := by
  have e : ((((Int64.toUInt64 m >>> ((Int32.toInt64 (nI c)).toUInt64 &&& Int64.toUInt64 63)).toInt64) &&& (1 : Int64)) = (1 : Int64)) = (mb m c = true) := by
    refine propext ?_
    rw [← Int64.toBitVec_inj, Int64.toBitVec_and]
    show ((Int64.toUInt64 m >>> ((Int32.toInt64 (nI c)).toUInt64 &&& Int64.toUInt64 63)).toBitVec &&& 1#64 = 1#64) ↔ _
    rw [bv_one64, UInt64.toBitVec_shiftRight, l_um c hc]
    unfold mb
    show ((m.toBitVec >>> (BitVec.ofNat 64 c)).getLsbD 0 = true) ↔ _
    rw [BitVec.ushiftRight_eq', BitVec.getLsbD_ushiftRight]
    have : (BitVec.ofNat 64 c).toNat = c := by rw [BitVec.toNat_ofNat]; omega
    rw [this, Nat.add_zero]
  unfold f0_isMarked
  rw [if_neg (nI_pos (by omega)), if_neg (nI_ge hc (by omega))]
  by_cases h : mb m c = true
  · rw [if_pos (by rw [lg_0, e]; exact h), if_pos h, zt_1]
  · rw [if_neg (by rw [lg_0, e]; exact h), if_neg h, zt_0]
/-- lean i of cell c is stale, with the marks mk -/
def lst1 (B : Im) (mk : Nat → Bool) (c i : Nat) : Bool := !(decide (bnw B (nmn B (bce B c (69 + i)).toNatClampNeg) = bce B c (69 + i))) || mk (bed B (bce B c (69 + i)).toNatClampNeg 1).toNatClampNeg
def anyL (B : Im) (mk : Nat → Bool) (c : Nat) : Nat → Nat → Bool
  | _, 0 => false
  | i, d + 1 => lst1 B mk c i || anyL B mk c (i + 1) d
/-- what is known of a lean -/
theorem lean_e (hW : WF (im x)) {c q i : Nat} (hc : c < bC (im x)) (h7 : bce (im x) c 7 = nI q) (hq : q ≤ 16) (hi : i < q) : ∃ e j c', e < bE (im x) ∧ bce (im x) c (69 + i) = nI e ∧ j < 16 ∧ bed (im x) e 0 = nI j ∧ c' < bC (im x) ∧ bed (im x) e 1 = nI c' ∧ ∀ mk, lst1 (im x) mk c i = (!(decide (bnw (im x) j = nI e)) || mk c') := by
  have hB := hW.1
  obtain ⟨_, _, _, q', h1, h2, h3⟩ := hW.2.1 c hc
  rw [h7, nI_eq (by omega) (by omega)] at h2
  subst h2
  obtain ⟨e, he, he2⟩ := h3 i hi
  obtain ⟨⟨j, hj, hj2⟩, ⟨c', hc', hc2⟩, _⟩ := hW.2.2.1 e he
  refine ⟨e, j, c', he, he2, hj, hj2, hc', hc2, fun mk => ?_⟩
  unfold lst1 nmn
  rw [he2, nI_clamp (by omega), hj2, hc2, nI_clamp (by omega), nI_clamp (by omega)]
theorem x_staleBy {m : Int64} {c q : Nat} (h : CR S x) (hW : WF (im x)) (hc : c < bC (im x)) (h7 : bce (im x) c 7 = nI q) (hq : q ≤ 16) : ∀ d i k, i + d = q → d < k → f0_isStaleBy_l3 n k m (nI c) (nI i) S = some (if anyL (im x) (mb m) c i d = true then nI 1 else nI 0, S)
  | 0, i, k, hi, hk => by
    obtain ⟨k, rfl⟩ : ∃ q, k = q + 1 := ⟨k - 1, by omega⟩
    rw [f0_isStaleBy_l3, x_get n h (by decide) hc (by decide), show x.2.2.1 5 c 7 = nI q from h7, if_pos (by rw [show i = q by omega]; exact Int32.le_refl _), zt_0]
    rfl
  | d + 1, i, k, hi, hk => by
    obtain ⟨k, rfl⟩ : ∃ q, k = q + 1 := ⟨k - 1, by omega⟩
    have hB := hW.1
    obtain ⟨e, j, c', e1, e2, e3, e4, e5, e6, e7⟩ := lean_e hW hc h7 hq (show i < q by omega)
    have ih := x_staleBy (m := m) h hW hc h7 hq d (i + 1) k (by omega) (by omega)
    rw [f0_isStaleBy_l3, x_get n h (by decide) hc (by decide), show x.2.2.1 5 c 7 = nI q from h7, if_neg (nI_ge (show i < q by omega) (by omega))]
    unfold f0_leanOf
    rw [nI_add, x_get n h (by decide) hc (show 69 + i < 125 by omega), bnd_s, show x.2.2.1 5 c (69 + i) = nI e from e2, xk_isNewest n h hW e1 e3 e4, bnd_s]
    rw [show anyL (im x) (mb m) c i (d + 1) = (lst1 (im x) (mb m) c i || anyL (im x) (mb m) c (i + 1) d) from rfl, e7]
    by_cases hnw : bnw (im x) j = nI e
    · rw [if_pos hnw, if_neg n1_0, x_get n h (by decide) e1 (by decide), show x.2.2.1 6 e 1 = nI c' from e6, x_marked n (by omega), bnd_s]
      by_cases hm : mb m c' = true
      · rw [if_pos hm, if_neg n1_0, zt_1, if_pos (by simp [hm])]
      · rw [if_neg hm, if_pos n0_0, nI_add, ih]
        have : (!(decide (bnw (im x) j = nI e)) || mb m c') = false := by simp [hnw, hm]
        rw [this, Bool.false_or]
    · rw [if_neg hnw, if_pos n0_0, zt_1, if_pos (by simp [hnw])]
end MARK
