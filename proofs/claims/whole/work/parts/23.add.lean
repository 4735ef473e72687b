/-- Table.add, as a function: R rows of w ints, at most mo -/
def ad_w (T : CS) : Nat := (T.1 0 0).toNatClampNeg
def ad_m (T : CS) : Nat := (T.1 1 0).toNatClampNeg
def ad_r (T : CS) : Nat := (T.1 3 0).toNatClampNeg
def ad_ok (T : CS) : Prop := 0 < T.1 0 0 ∧ 0 ≤ T.1 3 0 ∧ ad_m T * ad_w T < 268435456 ∧ T.2 0 < 268435456 ∧ ad_r T * ad_w T ≤ T.2 0
def ad_cap (T : CS) : Nat := max ((ad_r T + 1) * ad_w T) (min (2 * T.2 0) (ad_m T * ad_w T))
def ad_row (T : CS) (f : Nat → Int32) : MR := fun a b => if a = 2 then (if ad_r T * ad_w T ≤ b ∧ b < (ad_r T + 1) * ad_w T then 0 else f b) else if a = 3 then (if b = 0 then T.1 3 0 + 1 else T.1 3 b) else T.1 a b
def ad_T (T : CS) : CS := if (ad_r T + 1) * ad_w T ≤ T.2 0 then (ad_row T (T.1 2), T.2) else (ad_row T (fun j => if j < T.2 0 then T.1 2 j else 0), fun i => if i = 0 then ad_cap T else if i = 1 then T.2 1 + 1 else if i = 2 then T.2 2 + ad_cap T else T.2 i)
def f2_add (_ : Nat) (T : CS) : Option (Int32 × CS) :=
  if T.1 1 0 ≤ T.1 3 0 then some (-1, T) else
  if 0 < T.1 0 0 ∧ 0 ≤ T.1 3 0 ∧ ad_m T * ad_w T < 268435456 ∧ T.2 0 < 268435456 ∧ ad_r T * ad_w T ≤ T.2 0 then some (T.1 3 0, ad_T T) else none
theorem mo2_add (n : Nat) (T : CS) : mo T (f2_add n T) := by
  unfold f2_add
  refine m_ite m_some (m_ite ?_ m_none)
  intro r hr
  cases hr
  show le T (ad_T T)
  unfold ad_T
  split
  · exact le_rf
  · exact ⟨Nat.le_succ _, Nat.le_add_right _ _⟩
theorem tc2_add : Cond.code yX2_add cX2_add 3 (some .int) ∈ tt := tt_in (by decide +kernel) (by decide +kernel)
theorem ti2_add : Cond.instanceMethod yX2_add ∈ tt := tt_in (by decide +kernel) (by decide +kernel)
theorem te2_add : Cond.selects RX2 yX2_add yX2_add ∈ tt := tt_in (by decide +kernel) (by decide +kernel)
