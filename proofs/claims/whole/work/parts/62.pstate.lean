-- ===== the class's eight tables within its state =====
def wk (k : Nat) : Nat := if k = 0 then 2 else if k = 1 then 3 else if k = 2 then 2 else if k = 3 then 2 else if k = 4 then 8 else if k = 5 then 125 else if k = 6 then 104 else 21
def mk (k : Nat) : Nat := if k = 0 then 4 else if k = 1 then 3 else if k = 2 then 20 else if k = 3 then 1260 else if k = 4 then 21 else if k = 5 then 40 else 150
/-- table k is in order, with R rows -/
def sOk (S : CS) (k R : Nat) : Prop := tOk (wk k) (mk k) (tOf k S) R
/-- what stands in a table -/
def tv (S : CS) (k r c : Nat) : Int32 := S.1 (30 + k) (r * wk k + c)
def tset (S : CS) (k r c : Nat) (v : Int32) : CS := (mS S.1 (30 + k) (r * wk k + c) v, S.2)
def trow (S : CS) (k R : Nat) : CS := (mS S.1 (40 + k) 0 (nI R), S.2)
def tadd (S : CS) (k R : Nat) : CS := tIn k S (adT (wk k) (mk k) (tOf k S) R)
theorem tIn_tOf (k : Nat) (hk : k < 8) (S : CS) : tIn k S (tOf k S) = S := by
  unfold tIn tOf
  refine Prod.ext ?_ ?_
  · funext a b
    dsimp only
    by_cases h1 : a = 30 + k
    · rw [if_pos h1, h1]; simp
    · rw [if_neg h1]
      by_cases h2 : a = 40 + k
      · rw [if_pos h2, h2]; simp
      · rw [if_neg h2]
        by_cases h3 : a = 50 + k
        · rw [if_pos h3, h3]; simp
        · rw [if_neg h3]
          by_cases h4 : a = 60 + k
          · rw [if_pos h4, h4]; simp
          · rw [if_neg h4]
  · funext i
    dsimp only
    by_cases h1 : i = 10 + k
    · rw [if_pos h1, h1]; simp
    · rw [if_neg h1]
      by_cases h2 : i = 1
      · subst h2; simp
      · rw [if_neg h2]
        by_cases h3 : i = 2
        · subst h3; simp
        · rw [if_neg h3]
theorem tIn_set (k : Nat) (hk : k < 8) (S : CS) (i : Nat) (v : Int32) : tIn k S (mS (tOf k S).1 2 i v, (tOf k S).2) = (mS S.1 (30 + k) i v, S.2) := by
  refine Prod.ext ?_ ?_
  · funext a b
    show (if a = 30 + k then mS (tOf k S).1 2 i v 2 b else if a = 40 + k then mS (tOf k S).1 2 i v 3 b else if a = 50 + k then mS (tOf k S).1 2 i v 0 b else if a = 60 + k then mS (tOf k S).1 2 i v 1 b else S.1 a b) = mS S.1 (30 + k) i v a b
    by_cases h1 : a = 30 + k
    · subst h1
      simp [mS, tOf]
    · rw [if_neg h1]
      have e : mS S.1 (30 + k) i v a b = S.1 a b := by simp [mS, h1]
      rw [e]
      exact congrFun (congrFun (congrArg Prod.fst (tIn_tOf k hk S)) a) b |> fun h => by
        have h9 : (if a = 30 + k then (tOf k S).1 2 b else if a = 40 + k then (tOf k S).1 3 b else if a = 50 + k then (tOf k S).1 0 b else if a = 60 + k then (tOf k S).1 1 b else S.1 a b) = S.1 a b := h
        rw [if_neg h1] at h9
        exact h9
  · show (tIn k S (tOf k S)).2 = S.2
    rw [tIn_tOf k hk]
theorem tIn_row (k : Nat) (hk : k < 8) (S : CS) (v : Int32) : tIn k S (mS (tOf k S).1 3 0 v, (tOf k S).2) = (mS S.1 (40 + k) 0 v, S.2) := by
  refine Prod.ext ?_ ?_
  · funext a b
    show (if a = 30 + k then mS (tOf k S).1 3 0 v 2 b else if a = 40 + k then mS (tOf k S).1 3 0 v 3 b else if a = 50 + k then mS (tOf k S).1 3 0 v 0 b else if a = 60 + k then mS (tOf k S).1 3 0 v 1 b else S.1 a b) = mS S.1 (40 + k) 0 v a b
    by_cases h1 : a = 40 + k
    · subst h1
      rw [if_neg (by omega), if_pos rfl]
      simp [mS, tOf]
    · have e : mS S.1 (40 + k) 0 v a b = S.1 a b := by simp [mS, h1]
      rw [e]
      have h9 : (if a = 30 + k then (tOf k S).1 2 b else if a = 40 + k then (tOf k S).1 3 b else if a = 50 + k then (tOf k S).1 0 b else if a = 60 + k then (tOf k S).1 1 b else S.1 a b) = S.1 a b := congrFun (congrFun (congrArg Prod.fst (tIn_tOf k hk S)) a) b
      rw [if_neg h1] at h9 ⊢
      exact h9
  · show (tIn k S (tOf k S)).2 = S.2
    rw [tIn_tOf k hk]
theorem sOk_iff {S : CS} {k R : Nat} : sOk S k R ↔ S.1 (50 + k) 0 = nI (wk k) ∧ S.1 (60 + k) 0 = nI (mk k) ∧ S.1 (40 + k) 0 = nI R ∧ R ≤ mk k ∧ R * wk k ≤ S.2 (10 + k) ∧ S.2 (10 + k) < 67108864 ∧ 1 ≤ wk k ∧ wk k < 1000 ∧ mk k * wk k < 67108864 ∧ mk k < 10000 := by
  unfold sOk tOk
  simp [tOf]
theorem sOk_congr {S S' : CS} {k R : Nat} (h1 : S'.1 (50 + k) 0 = S.1 (50 + k) 0) (h2 : S'.1 (60 + k) 0 = S.1 (60 + k) 0) (h3 : S'.1 (40 + k) 0 = S.1 (40 + k) 0) (h4 : S'.2 (10 + k) = S.2 (10 + k)) (h : sOk S k R) : sOk S' k R := by
  rw [sOk_iff] at h ⊢
  rw [h1, h2, h3, h4]
  exact h
theorem mS_ne {M : MR} {j i a b : Nat} {v : Int32} (h : a ≠ j) : mS M j i v a b = M a b := by simp [mS, h]
theorem mS_ne2 {M : MR} {j i b : Nat} {v : Int32} (h : b ≠ i) : mS M j i v j b = M j b := by simp [mS, h]
theorem mS_eq {M : MR} {j i : Nat} {v : Int32} : mS M j i v j i = v := by simp [mS]
/-- a write outside the tables' heads -/
theorem sOk_mS {S : CS} {k R j i : Nat} {v : Int32} (hk : k < 8) (hj : j < 40) (h : sOk S k R) : sOk (mS S.1 j i v, S.2) k R := sOk_congr (mS_ne (by omega)) (mS_ne (by omega)) (mS_ne (by omega)) rfl h
theorem sOk_set {S : CS} {k R j r c : Nat} {v : Int32} (hk : k < 8) (hj : j < 8) (h : sOk S k R) : sOk (tset S j r c v) k R := sOk_mS hk (by omega) h
theorem sOk_row {S : CS} {k R R' : Nat} (h : sOk S k R) (h' : R' ≤ R) : sOk (trow S k R') k R' := by
  rw [sOk_iff] at h ⊢
  obtain ⟨h1, h2, h3, h4, h5, h6⟩ := h
  exact ⟨by rw [← h1]; exact mS_ne (by omega), by rw [← h2]; exact mS_ne (by omega), mS_eq, by omega, Nat.le_trans (Nat.mul_le_mul_right _ h') h5, h6⟩
theorem sOk_row_n {S : CS} {k j R R' : Nat} (hk : k < 8) (hj : j < 8) (hkj : k ≠ j) (h : sOk S k R) : sOk (trow S j R') k R := sOk_congr (mS_ne (by omega)) (mS_ne (by omega)) (mS_ne (by omega)) rfl h
theorem tOf_tIn (k : Nat) (S T : CS) : (tOf k (tIn k S T)).1 0 0 = T.1 0 0 ∧ (tOf k (tIn k S T)).1 1 0 = T.1 1 0 ∧ (tOf k (tIn k S T)).1 3 0 = T.1 3 0 ∧ (tOf k (tIn k S T)).2 0 = T.2 0 ∧ ∀ b, (tOf k (tIn k S T)).1 2 b = T.1 2 b := by
  have e1 : ¬ 50 + k = 30 + k := by omega
  have e2 : ¬ 50 + k = 40 + k := by omega
  have e3 : ¬ 60 + k = 30 + k := by omega
  have e4 : ¬ 60 + k = 40 + k := by omega
  have e5 : ¬ 60 + k = 50 + k := by omega
  have e6 : ¬ 40 + k = 30 + k := by omega
  refine ⟨?_, ?_, ?_, ?_, fun b => ?_⟩ <;> simp [tOf, tIn, e1, e2, e3, e4, e5, e6]
theorem sOk_add {S : CS} {k R : Nat} (h : sOk S k R) (hR : R < mk k) : sOk (tadd S k R) k (R + 1) := by
  have h2 := tOk_add h hR
  obtain ⟨e1, e2, e3, e4, -⟩ := tOf_tIn k S (adT (wk k) (mk k) (tOf k S) R)
  unfold sOk tOk tadd at *
  rw [e1, e2, e3, e4]
  exact h2
theorem tadd_n {S : CS} {k R a b : Nat} (h1 : a ≠ 30 + k) (h2 : a ≠ 40 + k) (h3 : a ≠ 50 + k) (h4 : a ≠ 60 + k) : (tadd S k R).1 a b = S.1 a b := by
  unfold tadd tIn
  simp [h1, h2, h3, h4]
theorem tadd_c {S : CS} {k R i : Nat} (h1 : i ≠ 10 + k) (h2 : i ≠ 1) (h3 : i ≠ 2) : (tadd S k R).2 i = S.2 i := by
  unfold tadd tIn
  simp [h1, h2, h3]
theorem sOk_add_n {S : CS} {k j R R' : Nat} (hk : k < 8) (hj : j < 8) (hkj : k ≠ j) (h : sOk S k R) : sOk (tadd S j R') k R := sOk_congr (tadd_n (by omega) (by omega) (by omega) (by omega)) (tadd_n (by omega) (by omega) (by omega) (by omega)) (tadd_n (by omega) (by omega) (by omega) (by omega)) (tadd_c (by omega) (by omega) (by omega)) h
theorem tv_add {S : CS} {k R r c : Nat} (h : sOk S k R) (hR : R < mk k) (hc : c < wk k) (hr : r ≤ R) : tv (tadd S k R) k r c = if r < R then tv S k r c else 0 := by
  have e := (tOf_tIn k S (adT (wk k) (mk k) (tOf k S) R)).2.2.2.2 (r * wk k + c)
  rw [adT_at h hR hc hr] at e
  exact e
theorem tv_add_n {S : CS} {k j R r c : Nat} (hk : k < 8) (hj : j < 8) (hkj : k ≠ j) : tv (tadd S j R) k r c = tv S k r c := tadd_n (by omega) (by omega) (by omega) (by omega)
theorem at_inj {w r c r' c' : Nat} (hc : c < w) (hc' : c' < w) (h : r * w + c = r' * w + c') : r = r' ∧ c = c' := by
  have h1 : (r * w + c) / w = r := by
    rw [Nat.mul_comm, Nat.mul_add_div (by omega), Nat.div_eq_of_lt hc, Nat.add_zero]
  have h2 : (r' * w + c') / w = r' := by
    rw [Nat.mul_comm, Nat.mul_add_div (by omega), Nat.div_eq_of_lt hc', Nat.add_zero]
  have h3 : r = r' := by rw [← h1, h, h2]
  subst h3
  exact ⟨rfl, by omega⟩
theorem tv_set {S : CS} {k r c r' c' : Nat} {v : Int32} (hc : c < wk k) (hc' : c' < wk k) : tv (tset S k r c v) k r' c' = if r' = r ∧ c' = c then v else tv S k r' c' := by
  unfold tv tset
  by_cases h : r' = r ∧ c' = c
  · obtain ⟨rfl, rfl⟩ := h
    rw [if_pos ⟨rfl, rfl⟩]
    exact mS_eq
  · rw [if_neg h]
    exact mS_ne2 (fun e => h (at_inj hc' hc e))
theorem tv_set_n {S : CS} {k j r c r' c' : Nat} {v : Int32} (hk : k < 8) (hj : j < 8) (hkj : k ≠ j) : tv (tset S j r c v) k r' c' = tv S k r' c' := mS_ne (by omega)
theorem tv_row {S : CS} {k j R r c : Nat} (hk : k < 8) (hj : j < 8) : tv (trow S j R) k r c = tv S k r c := mS_ne (by omega)
theorem tv_mS {S : CS} {k j i r c : Nat} {v : Int32} (hj : j < 30) : tv (mS S.1 j i v, S.2) k r c = tv S k r c := mS_ne (by omega)
section PS
variable {ρ : Type} {S : CS} {k R : Nat} (n : Nat)
theorem bT_s {α : Type} (a : α) (T : CS) (K : α → CS → Option ρ) : bT k S (some (a, T)) K = K a (tIn k S T) := rfl
theorem b_size (hk : k < 8) (h : sOk S k R) (K : Int32 → CS → Option ρ) : bT k S (f2_size n (tOf k S)) K = K (nI R) S := by
  rw [p_size n h, bT_s, tIn_tOf k hk]
theorem b_has (hk : k < 8) (h : sOk S k R) {r : Nat} (hr : r < 2147483648) (K : Int32 → CS → Option ρ) : bT k S (f2_has n (nI r) (tOf k S)) K = K (if r < R then nI 1 else nI 0) S := by
  rw [p_has n h hr, bT_s, tIn_tOf k hk]
theorem b_has_n (hk : k < 8) {x : Int32} (hx : x < 0) (K : Int32 → CS → Option ρ) : bT k S (f2_has n x (tOf k S)) K = K (nI 0) S := by
  rw [p_has_n n hx, bT_s, tIn_tOf k hk]
theorem b_get (hk : k < 8) (h : sOk S k R) {r c : Nat} (hr : r < R) (hc : c < wk k) (K : Int32 → CS → Option ρ) : bT k S (f2_get n (nI r) (nI c) (tOf k S)) K = K (tv S k r c) S := by
  rw [p_get n h hr hc, bT_s, tIn_tOf k hk]
  rfl
theorem b_get_o (hk : k < 8) (h : sOk S k R) {x y : Int32} (hx : x < 0 ∨ nI R ≤ x) (K : Int32 → CS → Option ρ) : bT k S (f2_get n x y (tOf k S)) K = K (nI 0) S := by
  rw [p_get_o n h hx, bT_s, tIn_tOf k hk]
theorem b_set (hk : k < 8) (h : sOk S k R) {r c : Nat} {v : Int32} (hr : r < R) (hc : c < wk k) (K : Int32 → CS → Option ρ) : bT k S (f2_set n (nI r) (nI c) v (tOf k S)) K = K 0 (tset S k r c v) := by
  rw [p_set n h v hr hc, bT_s, tIn_set k hk]
  rfl
theorem b_set_o (hk : k < 8) (h : sOk S k R) {x y v : Int32} (hx : x < 0 ∨ nI R ≤ x) (K : Int32 → CS → Option ρ) : bT k S (f2_set n x y v (tOf k S)) K = K 0 S := by
  rw [p_set_o n h hx, bT_s, tIn_tOf k hk]
theorem b_clear (hk : k < 8) (K : Int32 → CS → Option ρ) : bT k S (f2_clear n (tOf k S)) K = K 0 (trow S k 0) := by
  rw [p_clear, bT_s, tIn_row k hk]
  rfl
theorem b_drop (hk : k < 8) (h : sOk S k (R + 1)) (K : Int32 → CS → Option ρ) : bT k S (f2_dropLast n (tOf k S)) K = K 0 (trow S k R) := by
  rw [p_drop n h, bT_s, tIn_row k hk]
  rfl
theorem b_drop0 (hk : k < 8) (h : sOk S k 0) (K : Int32 → CS → Option ρ) : bT k S (f2_dropLast n (tOf k S)) K = K 0 S := by
  rw [p_drop0 n h, bT_s, tIn_tOf k hk]
theorem b_add (h : sOk S k R) (hR : R < mk k) (hn : wk k < n) (K : Int32 → CS → Option ρ) : bT k S (f2_add n (tOf k S)) K = K (nI R) (tadd S k R) := by
  rw [p_add n h hR hn, bT_s]
  rfl
theorem b_addF (hk : k < 8) (h : sOk S k (mk k)) (K : Int32 → CS → Option ρ) : bT k S (f2_add n (tOf k S)) K = K (-1) S := by
  rw [p_addF n h, bT_s, tIn_tOf k hk]
end PS
