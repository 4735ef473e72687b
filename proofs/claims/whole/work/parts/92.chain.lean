-- ===== starts: the chain of a class and its parents =====
def brkB (B : Im) : Nat → Nat → Bool
  | 0, _ => false
  | k + 1, e => if bed B e 6 = nI 2 then true else match par B e with
    | none => false
    | some p => brkB B k p
def nxt (B : Im) : Nat → Nat → Option Nat
  | 0, _ => none
  | k + 1, e => match (match par B e with
      | none => none
      | some p => nxt B k p) with
    | some q => some q
    | none => if bed B e 6 = nI 0 then some e else none
def orE (o : Option Nat) (acc : Int32) : Int32 := match o with
  | some q => nI q
  | none => acc
section CHAIN
variable {S : CS} {x : X} {M : MR} (n : Nat)
theorem nxt_nz {B : Im} (hW : WF B) : ∀ b e, e ≤ b → e < bE B → cls B e → ¬ bed B e 6 = nI 0 → nxt B (b + 1) e = none := by
  intro b
  induction b with
  | zero =>
    intro e he heB hc hz
    rw [nxt]
    cases hp : par B e with
    | none => simp [hz]
    | some p => exact absurd (wf_par hW e p heB hc hp).1 (by omega)
  | succ b ih =>
    intro e he heB hc hz
    rw [nxt]
    cases hp : par B e with
    | none => simp [hz]
    | some p =>
      obtain ⟨h1, h2⟩ := wf_par hW e p heB hc hp
      have h5 : bed B e 5 = nI p := by rw [wf_ni hW heB hc, hp]; rfl
      have hz2 := st_ok hW ⟨heB, hc⟩ hz p (by omega) h5
      simp only [ih p (by omega) (by omega) h2 hz2, hz, if_false]
theorem x_broken (h : CR S x) (hW : WF (im x)) : ∀ b e fu i, e ≤ b → b + 1 < fu → i + e + 1 ≤ 150 → e < bE (im x) → cls (im x) e → f0_hasBrokenStart_l4 n fu (nI e) (nI i) S = some (if brkB (im x) (b + 1) e = true then nI 1 else nI 0, S) := by
  have hB := hW.1
  intro b
  induction b with
  | zero =>
    intro e fu i he hfu hi heB hc
    obtain ⟨fu, rfl⟩ : ∃ q, fu = q + 2 := ⟨fu - 2, by omega⟩
    rw [f0_hasBrokenStart_l4, if_neg (nI_ge (by omega) (by omega)), if_neg (fun w => m1_n e (by omega) w.symm), xg6 n h heB (by omega), brkB]
    by_cases h2 : bed (im x) e 6 = nI 2
    · rw [if_pos h2, if_pos h2, zt_1]; rfl
    · rw [if_neg h2, if_neg h2, xg6 n h heB (by omega), wf_ni hW heB hc]
      cases hp : par (im x) e with
      | none =>
        rw [show ni none = (-1 : Int32) from rfl, f0_hasBrokenStart_l4]
        split
        · rw [zt_0]; rfl
        · rw [if_pos rfl, zt_0]; rfl
      | some p => exact absurd (wf_par hW e p heB hc hp).1 (by omega)
  | succ b ih =>
    intro e fu i he hfu hi heB hc
    obtain ⟨fu, rfl⟩ : ∃ q, fu = q + 2 := ⟨fu - 2, by omega⟩
    rw [f0_hasBrokenStart_l4, if_neg (nI_ge (by omega) (by omega)), if_neg (fun w => m1_n e (by omega) w.symm), xg6 n h heB (by omega), brkB]
    by_cases h2 : bed (im x) e 6 = nI 2
    · rw [if_pos h2, if_pos h2, zt_1]; rfl
    · rw [if_neg h2, if_neg h2, xg6 n h heB (by omega), wf_ni hW heB hc]
      cases hp : par (im x) e with
      | none =>
        rw [show ni none = (-1 : Int32) from rfl, f0_hasBrokenStart_l4]
        split
        · rw [zt_0]; rfl
        · rw [if_pos rfl, zt_0]; rfl
      | some p =>
        obtain ⟨h1, h3⟩ := wf_par hW e p heB hc hp
        rw [show ni (some p) = nI p from rfl, nI_add]
        exact ih p (fu + 1) (i + 1) (by omega) (by omega) (by omega) (by omega) h3
theorem x_next (h : CR S x) (hW : WF (im x)) : ∀ b e fu i acc, e ≤ b → b + 1 < fu → i + e + 1 ≤ 150 → e < bE (im x) → cls (im x) e → f0_nextToStart_l7 n fu acc (nI e) (nI i) S = some (orE (nxt (im x) (b + 1) e) acc, S) := by
  have hB := hW.1
  intro b
  induction b with
  | zero =>
    intro e fu i acc he hfu hi heB hc
    obtain ⟨fu, rfl⟩ : ∃ q, fu = q + 2 := ⟨fu - 2, by omega⟩
    have hp : par (im x) e = none := by
      cases hp : par (im x) e with
      | none => rfl
      | some p => exact absurd (wf_par hW e p heB hc hp).1 (by omega)
    have e2 : ∀ v, f0_nextToStart_l7 n (fu + 1) v (-1) (nI (i + 1)) S = some (v, S) := fun v => by
      rw [f0_nextToStart_l7]
      split
      · rfl
      · rw [if_pos rfl]
    rw [f0_nextToStart_l7, if_neg (nI_ge (by omega) (by omega)), if_neg (fun w => m1_n e (by omega) w.symm), xg6 n h heB (by omega), nxt]
    simp only [hp, f0_nextToStart_b35, xg6 n h heB (show 5 < 104 by omega), wf_ni hW heB hc]
    rw [show ni none = (-1 : Int32) from rfl, nI_add]
    by_cases h0 : bed (im x) e 6 = nI 0
    · rw [if_pos (by rw [h0]; decide), e2, if_pos h0]; rfl
    · rw [if_neg (by rw [← nI_0]; exact h0), e2, if_neg h0]; rfl
  | succ b ih =>
    intro e fu i acc he hfu hi heB hc
    obtain ⟨fu, rfl⟩ : ∃ q, fu = q + 2 := ⟨fu - 2, by omega⟩
    rw [f0_nextToStart_l7, if_neg (nI_ge (by omega) (by omega)), if_neg (fun w => m1_n e (by omega) w.symm), xg6 n h heB (by omega), nxt]
    simp only [f0_nextToStart_b35, xg6 n h heB (show 5 < 104 by omega), wf_ni hW heB hc]
    rw [nI_add]
    cases hp : par (im x) e with
    | none =>
      have e2 : ∀ v, f0_nextToStart_l7 n (fu + 1) v (-1) (nI (i + 1)) S = some (v, S) := fun v => by
        rw [f0_nextToStart_l7]
        split
        · rfl
        · rw [if_pos rfl]
      rw [show ni none = (-1 : Int32) from rfl]
      by_cases h0 : bed (im x) e 6 = nI 0
      · rw [if_pos (by rw [h0]; decide), e2]
        simp only [h0, if_true]; rfl
      · rw [if_neg (by rw [← nI_0]; exact h0), e2]
        simp only [h0, if_false]; rfl
    | some p =>
      obtain ⟨h1, h3⟩ := wf_par hW e p heB hc hp
      have ih' := fun acc => ih p (fu + 1) (i + 1) acc (by omega) (by omega) (by omega) (by omega) h3
      rw [show ni (some p) = nI p from rfl, ih', ih']
      by_cases h0 : bed (im x) e 6 = nI 0
      · rw [if_pos (by rw [h0]; decide)]
        simp only [h0, if_true]
        cases nxt (im x) (b + 1) p <;> rfl
      · rw [if_neg (by rw [← nI_0]; exact h0)]
        simp only [h0, if_false]
        cases nxt (im x) (b + 1) p <;> rfl
/-- the end of the reference's walk -/
def mkT (x1 v : Int32) (M : MR) : Option (Int32 × MR) := fR_make_l7 n 1 x1 v (nI 0) (-1) M
theorem mk_end {fu : Nat} {x1 v x3 : Int32} : fR_make_l7 n (fu + 1) x1 v x3 (-1) M = mkT n x1 v M := by
  unfold mkT
  rw [fR_make_l7, fR_make_l7, if_pos m1_lt, if_pos m1_lt]
def mkR (B : Im) (b e : Nat) (x1 v : Int32) (M : MR) : Option (Int32 × MR) := if brkB B b e = true then bnd (fR_fail n (nI 6) M) (fun _ M' => some (0, M')) else mkT n x1 v M
theorem r_mk_c (hW : WF (im x)) (hR : RelI (im x) (M 0)) {x1 acc : Int32} : ∀ b e fu, e ≤ b → b + 1 < fu → e < bE (im x) → cls (im x) e → ¬ bed (im x) e 6 = nI 0 → fR_make_l7 n fu x1 acc (nI 0) (nI e) M = mkR n (im x) (b + 1) e x1 acc M := by
  have hB := hW.1
  intro b
  induction b with
  | zero =>
    intro e fu he hfu heB hc hz
    obtain ⟨fu, rfl⟩ : ∃ q, fu = q + 2 := ⟨fu - 2, by omega⟩
    unfold mkR
    rw [fR_make_l7, if_neg (nI_pos (by omega)), r_editAt, bnd_s, nI_add, rd_at (by omega) (by decide), ri_e5 hR heB, brkB]
    by_cases h2 : bed (im x) e 6 = nI 2
    · rw [if_pos h2, if_pos h2]; rfl
    · rw [if_neg h2, if_neg h2, if_neg (by rw [← nI_0]; exact hz)]
      unfold fR_make_b50 fR_make_b62
      rw [if_pos (by decide), RE_par n hW (RE_of hR) heB hc, bnd_s, wf_ni hW heB hc]
      cases hp : par (im x) e with
      | none => rw [show ni none = (-1 : Int32) from rfl, mk_end]; rfl
      | some p => exact absurd (wf_par hW e p heB hc hp).1 (by omega)
  | succ b ih =>
    intro e fu he hfu heB hc hz
    obtain ⟨fu, rfl⟩ : ∃ q, fu = q + 2 := ⟨fu - 2, by omega⟩
    unfold mkR
    rw [fR_make_l7, if_neg (nI_pos (by omega)), r_editAt, bnd_s, nI_add, rd_at (by omega) (by decide), ri_e5 hR heB, brkB]
    by_cases h2 : bed (im x) e 6 = nI 2
    · rw [if_pos h2, if_pos h2]; rfl
    · rw [if_neg h2, if_neg h2, if_neg (by rw [← nI_0]; exact hz)]
      unfold fR_make_b50 fR_make_b62
      rw [if_pos (by decide), RE_par n hW (RE_of hR) heB hc, bnd_s, wf_ni hW heB hc]
      cases hp : par (im x) e with
      | none => rw [show ni none = (-1 : Int32) from rfl, mk_end]; rfl
      | some p =>
        obtain ⟨h1, h3⟩ := wf_par hW e p heB hc hp
        have h5 : bed (im x) e 5 = nI p := by rw [wf_ni hW heB hc, hp]; rfl
        rw [show ni (some p) = nI p from rfl, show nI 0 &&& nI 0 = nI 0 by decide, ih p (fu + 1) (by omega) (by omega) (by omega) h3 (st_ok hW ⟨heB, hc⟩ hz p (by omega) h5)]
        rfl
theorem r_mk_o (hW : WF (im x)) (hR : RelI (im x) (M 0)) {x1 : Int32} : ∀ b e fu acc, e ≤ b → b + 1 < fu → e < bE (im x) → cls (im x) e → fR_make_l7 n fu x1 acc (nI 1) (nI e) M = mkR n (im x) (b + 1) e x1 (orE (nxt (im x) (b + 1) e) acc) M := by
  have hB := hW.1
  intro b
  induction b with
  | zero =>
    intro e fu acc he hfu heB hc
    obtain ⟨fu, rfl⟩ : ∃ q, fu = q + 2 := ⟨fu - 2, by omega⟩
    have hp : par (im x) e = none := by
      cases hp : par (im x) e with
      | none => rfl
      | some p => exact absurd (wf_par hW e p heB hc hp).1 (by omega)
    unfold mkR
    rw [fR_make_l7, if_neg (nI_pos (by omega)), r_editAt, bnd_s, nI_add, rd_at (by omega) (by decide), ri_e5 hR heB, brkB, nxt]
    by_cases h2 : bed (im x) e 6 = nI 2
    · rw [if_pos h2, if_pos h2]; rfl
    · rw [if_neg h2, if_neg h2]
      unfold fR_make_b50 fR_make_b62
      by_cases h0 : bed (im x) e 6 = nI 0
      · rw [if_pos (by rw [h0]; decide), if_neg (show ¬ nI 1 &&& nI 1 = 0 by decide), RE_par n hW (RE_of hR) heB hc, bnd_s, wf_ni hW heB hc, hp, show ni none = (-1 : Int32) from rfl, mk_end]
        simp only [h0, if_true]; rfl
      · rw [if_neg (show ¬ bed (im x) e 6 = 0 by rw [← nI_0]; exact h0), if_pos (show nI 1 &&& nI 0 = 0 by decide), RE_par n hW (RE_of hR) heB hc, bnd_s, wf_ni hW heB hc, hp, show ni none = (-1 : Int32) from rfl, mk_end]
        simp only [h0, if_false]; rfl
  | succ b ih =>
    intro e fu acc he hfu heB hc
    obtain ⟨fu, rfl⟩ : ∃ q, fu = q + 2 := ⟨fu - 2, by omega⟩
    by_cases h0 : bed (im x) e 6 = nI 0
    · unfold mkR
      rw [fR_make_l7, if_neg (nI_pos (by omega)), r_editAt, bnd_s, nI_add, rd_at (by omega) (by decide), ri_e5 hR heB, brkB, nxt, h0, if_neg (show ¬ nI 0 = nI 2 by decide), if_pos (show nI 0 = (0 : Int32) by decide), if_neg (show ¬ nI 0 = nI 2 by decide)]
      unfold fR_make_b50 fR_make_b62
      rw [if_neg (show ¬ nI 1 &&& nI 1 = 0 by decide), RE_par n hW (RE_of hR) heB hc, bnd_s, wf_ni hW heB hc, show nI 1 &&& nI 1 = nI 1 by decide]
      cases hp : par (im x) e with
      | none => rw [show ni none = (-1 : Int32) from rfl, mk_end]; simp; rfl
      | some p =>
        obtain ⟨h1, h3⟩ := wf_par hW e p heB hc hp
        rw [show ni (some p) = nI p from rfl, ih p (fu + 1) (nI e) (by omega) (by omega) (by omega) h3]
        unfold mkR
        simp only [if_true]
        cases nxt (im x) (b + 1) p <;> rfl
    · rw [nxt_nz hW (b + 1) e he heB hc h0]
      unfold mkR
      rw [fR_make_l7, if_neg (nI_pos (by omega)), r_editAt, bnd_s, nI_add, rd_at (by omega) (by decide), ri_e5 hR heB, brkB]
      by_cases h2 : bed (im x) e 6 = nI 2
      · rw [if_pos h2, if_pos h2]; rfl
      · rw [if_neg h2, if_neg h2, if_neg (by rw [← nI_0]; exact h0)]
        unfold fR_make_b50 fR_make_b62
        rw [if_pos (by decide), RE_par n hW (RE_of hR) heB hc, bnd_s, wf_ni hW heB hc]
        cases hp : par (im x) e with
        | none => rw [show ni none = (-1 : Int32) from rfl, mk_end]; rfl
        | some p =>
          obtain ⟨h1, h3⟩ := wf_par hW e p heB hc hp
          have h5 : bed (im x) e 5 = nI p := by rw [wf_ni hW heB hc, hp]; rfl
          rw [show ni (some p) = nI p from rfl, show nI 1 &&& nI 0 = nI 0 by decide, r_mk_c n hW hR b p (fu + 1) (by omega) (by omega) (by omega) h3 (st_ok hW ⟨heB, hc⟩ h0 p (by omega) h5)]
          rfl
end CHAIN
