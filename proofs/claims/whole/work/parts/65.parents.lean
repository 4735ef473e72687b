-- ===== parents =====
def ni (o : Option Nat) : Int32 := match o with
  | none => -1
  | some p => nI p
/-- e is o or below it, by at most k steps to parents -/
def belB (par : Nat → Option Nat) : Nat → Nat → Nat → Bool
  | 0, _, _ => false
  | k + 1, e, o => if e = o then true else match par e with
    | none => false
    | some p => belB par k p o
/-- parents are classes with lesser numbers -/
def parOk (par : Nat → Option Nat) (cls : Nat → Prop) (nE : Nat) : Prop := ∀ e p, e < nE → cls e → par e = some p → p < e ∧ cls p
theorem m1_n (o : Nat) (ho : o < 2147483648) : ¬ (-1 : Int32) = nI o := by
  intro h
  have h1 := congrArg Int32.toInt h
  rw [nI_toInt ho] at h1
  have h2 : (-1 : Int32).toInt = -1 := by decide
  omega
theorem m1_lt : (-1 : Int32) < 0 := by decide
theorem m1_le (o : Nat) (ho : o < 2147483648) : (-1 : Int32) ≤ nI o := by
  rw [Int32.le_iff_toInt_le, nI_toInt ho]
  have h2 : (-1 : Int32).toInt = -1 := by decide
  omega
section BEL
variable {par : Nat → Option Nat} {cls : Nat → Prop} {nE : Nat} (n : Nat)
theorem belB_lt (hp : parOk par cls nE) {o : Nat} : ∀ (k e : Nat), e < o → e < nE → cls e → belB par k e o = false
  | 0, _, _, _, _ => rfl
  | k + 1, e, h, he, hc => by
    rw [belB, if_neg (by omega)]
    cases hpe : par e with
    | none => rfl
    | some p =>
      obtain ⟨h1, h2⟩ := hp e p he hc hpe
      exact belB_lt hp k p (by omega) (by omega) h2
theorem r_below (hE : nE ≤ 150) (hp : parOk par cls nE) {M : MR} (hM : ∀ e, e < nE → cls e → M 0 (7228 + 70 * e) = ni (par e)) {o : Nat} (ho : o < 2147483648) : ∀ (b e k : Nat), e ≤ b → b + 1 < k → e < nE → cls e → fR_isBelow_l2 n k (nI o) (nI e) M = some (if belB par (b + 1) e o = true then nI 1 else nI 0, M) := by
  intro b
  induction b with
  | zero =>
    intro e k hb hk he hc
    obtain ⟨k, rfl⟩ : ∃ k', k = k' + 2 := ⟨k - 2, by omega⟩
    rw [fR_isBelow_l2, if_neg (nI_pos (by omega)), belB]
    by_cases heo : e = o
    · subst heo
      rw [if_pos rfl, if_pos rfl, fR_isBelow_b20, if_pos rfl, zt_1]
      rfl
    · rw [if_neg (fun h => heo ((nI_eq (by omega) ho).mp h)), if_neg heo, r_parentOf n M (by omega), bnd_s, hM e he hc]
      cases hpe : par e with
      | none =>
        rw [show ni none = (-1 : Int32) from rfl, fR_isBelow_l2, if_pos m1_lt, fR_isBelow_b20, if_neg (m1_n o ho), zt_0]
        rfl
      | some p => exact absurd (hp e p he hc hpe).1 (by omega)
  | succ b ih =>
    intro e k hb hk he hc
    obtain ⟨k, rfl⟩ : ∃ k', k = k' + 2 := ⟨k - 2, by omega⟩
    rw [fR_isBelow_l2, if_neg (nI_pos (by omega)), belB]
    by_cases heo : e = o
    · subst heo
      rw [if_pos rfl, if_pos rfl, fR_isBelow_b20, if_pos rfl, zt_1]
      rfl
    · rw [if_neg (fun h => heo ((nI_eq (by omega) ho).mp h)), if_neg heo, r_parentOf n M (by omega), bnd_s, hM e he hc]
      cases hpe : par e with
      | none =>
        rw [show ni none = (-1 : Int32) from rfl, fR_isBelow_l2, if_pos m1_lt, fR_isBelow_b20, if_neg (m1_n o ho), zt_0]
        rfl
      | some p =>
        obtain ⟨h1, h2⟩ := hp e p he hc hpe
        exact ih p (k + 1) (by omega) (by omega) (by omega) h2
theorem q_below (hp : parOk par cls nE) {S : CS} (hS : sOk S 6 nE) (hM : ∀ e, e < nE → cls e → tv S 6 e 5 = ni (par e)) {o : Nat} (ho : o < 2147483648) : ∀ (b e k i : Nat), e ≤ b → b + 1 < k → i + e + 1 ≤ 150 → e < nE → cls e → f0_isBelow_l5 n k (nI o) (nI e) (nI i) S = some (if belB par (b + 1) e o = true then nI 1 else nI 0, S) := by
  intro b
  induction b with
  | zero =>
    intro e k i hb hk hi he hc
    obtain ⟨k, rfl⟩ : ∃ k', k = k' + 2 := ⟨k - 2, by omega⟩
    rw [f0_isBelow_l5, if_neg (nI_ge (by omega) (by omega))]
    by_cases heo : e ≤ o
    · rw [if_pos (nI_le heo ho), f0_isBelow_b34]
      by_cases h2 : e = o
      · subst h2
        rw [if_pos rfl, zt_1, belB, if_pos rfl]
        rfl
      · rw [if_neg (fun h => h2 ((nI_eq (by omega) ho).mp h)), zt_0, belB_lt hp _ e (by omega) he hc]
        rfl
    · rw [if_neg (nI_ge (by omega) (by omega)), b_get n (by decide) hS he (by decide), hM e he hc, belB, if_neg (show ¬ e = o by omega)]
      cases hpe : par e with
      | none =>
        rw [show ni none = (-1 : Int32) from rfl, nI_add, f0_isBelow_l5]
        by_cases h150 : nI 150 ≤ nI (i + 1)
        · rw [if_pos h150, f0_isBelow_b34, if_neg (m1_n o ho), zt_0]
          rfl
        · rw [if_neg h150, if_pos (m1_le o ho), f0_isBelow_b34, if_neg (m1_n o ho), zt_0]
          rfl
      | some p => exact absurd (hp e p he hc hpe).1 (by omega)
  | succ b ih =>
    intro e k i hb hk hi he hc
    obtain ⟨k, rfl⟩ : ∃ k', k = k' + 2 := ⟨k - 2, by omega⟩
    rw [f0_isBelow_l5, if_neg (nI_ge (by omega) (by omega))]
    by_cases heo : e ≤ o
    · rw [if_pos (nI_le heo ho), f0_isBelow_b34]
      by_cases h2 : e = o
      · subst h2
        rw [if_pos rfl, zt_1, belB, if_pos rfl]
        rfl
      · rw [if_neg (fun h => h2 ((nI_eq (by omega) ho).mp h)), zt_0, belB_lt hp _ e (by omega) he hc]
        rfl
    · rw [if_neg (nI_ge (by omega) (by omega)), b_get n (by decide) hS he (by decide), hM e he hc, belB, if_neg (show ¬ e = o by omega)]
      cases hpe : par e with
      | none =>
        rw [show ni none = (-1 : Int32) from rfl, nI_add, f0_isBelow_l5]
        by_cases h150 : nI 150 ≤ nI (i + 1)
        · rw [if_pos h150, f0_isBelow_b34, if_neg (m1_n o ho), zt_0]
          rfl
        · rw [if_neg h150, if_pos (m1_le o ho), f0_isBelow_b34, if_neg (m1_n o ho), zt_0]
          rfl
      | some p =>
        obtain ⟨h1, h2⟩ := hp e p he hc hpe
        rw [nI_add]
        exact ih p (k + 1) (i + 1) (by omega) (by omega) (by omega) (by omega) h2
end BEL
