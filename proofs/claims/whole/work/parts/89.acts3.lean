section PACT3
variable {S : CS} {x : X} {M : MR} {q : Nat} (n : Nat)
def put2 (M : MR) (q : Nat) (kd nm : Int32) : MR := top1 (mS M 12 0 (nI (q + 1))) q kd nm
theorem PutR_put2 {kd nm : Int32} : PutR M (put2 M q kd nm) q kd nm := by
  have w := PutR_top1 (M := mS M 12 0 (nI (q + 1))) (q := q) (kd := kd) (nm := nm) mS_eq
  refine ⟨w.1, w.2.1, w.2.2.1, fun i hi => ?_, fun a a0 a1 a2 a3 a4 a5 a6 => ?_, fun i hi => ?_⟩
  · unfold put2; rw [(w.2.2.2.1 i hi).1, (w.2.2.2.1 i hi).2, mS_ne (by omega), mS_ne (by omega)]; exact ⟨rfl, rfl⟩
  · unfold put2; rw [w.2.2.2.2.1 a a0 a1 a2 a3 a4 a5 a6, mS_o a3]
  · unfold put2; rw [w.2.2.2.2.2 i hi, mS_ne (by omega)]
theorem put2_o {kd nm : Int32} {a : Nat} (h1 : a ≠ 10) (h2 : a ≠ 11) (h3 : a ≠ 12) : put2 M q kd nm a = M a := by
  unfold put2; rw [top1_o h1 h2, mS_o h3]
theorem PutR_val {kd nm : Int32} (h : M 10 q = kd) : PutR M (mS (mS M 12 0 (nI (q + 1))) 11 q nm) q kd nm := by
  refine ⟨by rw [mS_ne (by omega), mS_eq], by rw [mS_ne (by omega), mS_ne (by omega)]; exact h, mS_eq, fun i hi => ⟨by rw [mS_ne (by omega), mS_ne (by omega)], by rw [mS_ne2 (by omega), mS_ne (by omega)]⟩, fun a a0 a1 a2 a3 a4 a5 a6 => by rw [mS_o a2, mS_o a3], fun i _ => by rw [mS_ne (by omega), mS_ne (by omega)]⟩
theorem FlM_12 {v : Int32} : FlM M (mS M 12 0 v) := fun a ha => mS_o ha
theorem a_rk (hn : 1000 ≤ n) (hC : CR S x) (hW : WF (im x)) (hR : RelI (im x) (M 0)) (hP : PlR x M) (hWr : WriS x M) (hp : x.2.1 3 = q + 2) (hq : q < 1241) (t k : Int32) {a : Nat} (ha : 8 ≤ a ∧ a ≤ 12) : PA n x M S q (actC n t (nI a) k S) (actR n t (nI a) k M) := by
  have hB := hW.1
  have h12 : M 12 0 = nI (q + 2) := by rw [hP.1, hp]
  obtain ⟨g1, g2, g3⟩ := hP.2 q (by omega)
  obtain ⟨d1, d2, d3⟩ := hP.2 (q + 1) (by omega)
  have hh : a = 8 ∨ a = 9 ∨ a = 10 ∨ a = 11 ∨ a = 12 := by omega
  have eC : actC n t (nI a) k S = f3_reckon n (nI a) S := by
    unfold actC
    rcases hh with rfl | rfl | rfl | rfl | rfl <;>
    · simp (disch := omega) only [y_lt, y_nlt, y_le, y_nle, y_ne, y_eq, y_n0, y_00, y_l0, y_0l, y_le0, y_m1, y_m1', y_ml, y_m0, y_0m, y_mm, y_lem, y_mle, ↓reduceIte, if_true, if_false]
      exact bnd_eta
  have eR : actR n t (nI a) k M = bnd (fR_reckon n (nI a) M) (fun _ M29 => some (0, M29)) := by
    unfold actR
    rw [if_neg (fun w => by rw [← nI_0, nI_eq (by omega) (by omega)] at w; omega), if_neg (fun w => by rw [nI_eq (by omega) (by omega)] at w; omega), if_pos (nI_lt (by omega) (by omega)), if_pos (nI_lt (by omega) (by omega)), if_neg (nI_nlt (by omega) (by omega))]
  rw [eC, eR]
  unfold f3_reckon fR_reckon
  rw [x_kind n hC hp (show 0 < q + 2 by omega), bnd_s, show q + 2 - 1 - 0 = q + 1 by omega, gf_e h12, pk_sub (by omega), q21, pf_e, gf_e mS_eq, rd_at (by omega) (by decide), mS_ne (by omega), d1]
  unfold fR_reckon_b36
  rcases VOk_01 d3 with w0 | w0
  · rw [w0, if_pos n0_0, if_pos n0_0, x_kind n hC hp (show 1 < q + 2 by omega), bnd_s, show q + 2 - 1 - 1 = q by omega, gf_e mS_eq, pk_sub (by omega), Nat.add_sub_cancel, rd_at (by omega) (by decide), mS_ne (by omega), g1]
    rcases VOk_01 g3 with w1 | w1
    · rw [w1, if_pos n0_0, if_pos n0_0, x_num n hC hp (show 0 < q + 2 by omega), bnd_s, show q + 2 - 1 - 0 = q + 1 by omega, x_num n hC hp (show 1 < q + 2 by omega), bnd_s, show q + 2 - 1 - 1 = q by omega, gf_e mS_eq, pk_sub (by omega), Nat.add_sub_cancel, rd_at (by omega) (by decide), mS_ne (by omega), g2, gf_e mS_eq, rd_at (by omega) (by decide), mS_ne (by omega), d2]
      -- the end of all five
      have fin : ∀ v, PA n x M S q (f3_takeAndPut n (nI 2) (nI 0) v S) (some (0, mS (mS M 12 0 (nI (q + 1))) 11 q v)) := fun v =>
        PA_put n hn hC hW (WriS_w hWr) (t := 2) (by omega) hp (by omega) (kd := nI 0) (nm := v) (Or.inl rfl) rfl rfl (PutR_val (by rw [g1, w1])) (by rw [mS_o (by omega), mS_o (by omega)]; exact hR) (by rw [mS_o (by omega), mS_o (by omega)]) (by rw [mS_o (by omega), mS_o (by omega)]) (by rw [mS_o (by omega), mS_o (by omega)])
      unfold fR_reckon_b80
      rcases hh with rfl | rfl | rfl | rfl | rfl
      · rw [if_pos rfl, if_neg (by decide), gf_e mS_eq, if_pos rfl, pk_sub (by omega), Nat.add_sub_cancel, wr_at (by omega) (by decide), bnd_s, bnd_eta]
        exact fin _
      · rw [if_neg (by decide), if_pos rfl, if_neg (by decide), gf_e mS_eq, if_neg (by decide), if_pos rfl, pk_sub (by omega), Nat.add_sub_cancel, wr_at (by omega) (by decide), bnd_s, bnd_eta]
        exact fin _
      · rw [if_neg (by decide), if_neg (by decide), if_pos rfl, if_neg (by decide), gf_e mS_eq, if_neg (by decide), if_neg (by decide), if_pos rfl, pk_sub (by omega), Nat.add_sub_cancel, wr_at (by omega) (by decide), bnd_s, bnd_eta]
        exact fin _
      · rw [if_neg (by decide), if_neg (by decide), if_neg (by decide), if_pos rfl, if_pos rfl]
        by_cases hz : x.2.2.1 3 (q + 1) 1 = 0
        · rw [if_pos hz, if_pos hz, bnd_id]
          exact Or.inr ⟨2, _, by omega, by omega, rfl, rfl, FlM_12⟩
        · rw [if_neg hz, if_neg hz, if_neg hz, gf_e mS_eq, if_neg (by decide), if_neg (by decide), if_neg (by decide), if_pos rfl, if_neg hz, pk_sub (by omega), Nat.add_sub_cancel, wr_at (by omega) (by decide), bnd_s, bnd_eta]
          exact fin _
      · rw [if_neg (show ¬ nI 12 = nI 8 by decide), if_neg (show ¬ nI 12 = nI 9 by decide), if_neg (show ¬ nI 12 = nI 10 by decide), if_neg (show ¬ nI 12 = nI 11 by decide), if_neg (show ¬ nI 12 = nI 11 by decide), gf_e mS_eq, if_neg (show ¬ nI 12 = nI 8 by decide), if_neg (show ¬ nI 12 = nI 9 by decide), if_neg (show ¬ nI 12 = nI 10 by decide), if_neg (show ¬ nI 12 = nI 11 by decide), pk_sub (by omega), Nat.add_sub_cancel]
        unfold f3_reckon_b121
        by_cases hz : x.2.2.1 3 (q + 1) 1 ≤ x.2.2.1 3 q 1
        · rw [if_pos hz, if_pos hz, wr_at (by omega) (by decide), bnd_s, bnd_eta]
          exact fin _
        · rw [if_neg hz, if_neg hz, wr_at (by omega) (by decide), bnd_s, bnd_eta]
          exact fin _
    · rw [w1, if_neg n1_0, if_neg n1_0, bnd_id]
      exact Or.inr ⟨1, _, by omega, by omega, rfl, rfl, FlM_12⟩
  · rw [w0, if_neg n1_0, if_neg n1_0, bnd_id]
    exact Or.inr ⟨1, _, by omega, by omega, rfl, rfl, FlM_12⟩
theorem a_13 (hn : 1000 ≤ n) (hC : CR S x) (hW : WF (im x)) (hR : RelI (im x) (M 0)) (hP : PlR x M) (hWr : WriS x M) (hp : x.2.1 3 = q + 2) (hq : q < 1241) (t k : Int32) : PA n x M S q (actC n t (nI 13) k S) (actR n t (nI 13) k M) := by
  have hB := hW.1
  have h12 : M 12 0 = nI (q + 2) := by rw [hP.1, hp]
  obtain ⟨g1, g2, g3⟩ := hP.2 q (by omega)
  obtain ⟨d1, d2, d3⟩ := hP.2 (q + 1) (by omega)
  have fin : ∀ v, PA n x M S q (f3_takeAndPut n (nI 2) (nI 0) v S) (some (0, put2 M q (nI 0) v)) := fun v =>
    PA_put n hn hC hW (WriS_w hWr) (t := 2) (by omega) hp (by omega) (kd := nI 0) (nm := v) (Or.inl rfl) rfl rfl PutR_put2 (by rw [put2_o (by omega) (by omega) (by omega)]; exact hR) (put2_o (by omega) (by omega) (by omega)) (put2_o (by omega) (by omega) (by omega)) (put2_o (by omega) (by omega) (by omega))
  have r226 : ∀ s, s = nI 0 ∨ s = nI 1 → fR_act_b226 n s (mS M 12 0 (nI (q + 1))) = some (0, put2 M q (nI 0) s) := by
    intro s hs
    unfold fR_act_b226 put2 top1
    rw [gf_e mS_eq, pk_sub (by omega), Nat.add_sub_cancel, wz_at bo_0 (by omega) (by decide), gf_e (show mS (mS M 12 0 (nI (q + 1))) 10 q (nI 0) 12 0 = nI (q + 1) by rw [mS_ne (by omega), mS_eq]), pk_sub (by omega), Nat.add_sub_cancel]
    rcases hs with rfl | rfl
    · rw [if_pos n0_0, wr_at (by omega) (by decide)]
    · rw [if_neg n1_0, wr_at (by omega) (by decide)]
  unfold actC actR f3_isSame fR_act_b225 f3_act_b268
  rw [if_neg (by decide), if_neg (by decide), if_neg (by decide), if_neg (by decide), if_neg (by decide), if_neg (by decide), if_neg (by decide), if_neg (by decide), if_neg (by decide), if_neg (by decide), if_neg (by decide), if_neg (by decide), if_neg (by decide), if_pos rfl]
  rw [if_neg (by decide), if_neg (by decide), if_pos (by decide), if_pos (by decide), if_pos (by decide), if_pos rfl]
  rw [x_kind n hC hp (show 0 < q + 2 by omega), bnd_s, show q + 2 - 1 - 0 = q + 1 by omega, x_kind n hC hp (show 1 < q + 2 by omega), bnd_s, show q + 2 - 1 - 1 = q by omega, gf_e h12, pk_sub (by omega), q21, pf_e, gf_e mS_eq, rd_at (by omega) (by decide), mS_ne (by omega), d1, gf_e mS_eq, pk_sub (by omega), Nat.add_sub_cancel, rd_at (by omega) (by decide), mS_ne (by omega), g1]
  by_cases hk : x.2.2.1 3 (q + 1) 0 = x.2.2.1 3 q 0
  · rw [if_pos hk, if_pos hk, x_num n hC hp (show 0 < q + 2 by omega), bnd_s, show q + 2 - 1 - 0 = q + 1 by omega, x_num n hC hp (show 1 < q + 2 by omega), bnd_s, show q + 2 - 1 - 1 = q by omega, gf_e mS_eq, rd_at (by omega) (by decide), mS_ne (by omega), d2, gf_e mS_eq, pk_sub (by omega), Nat.add_sub_cancel, rd_at (by omega) (by decide), mS_ne (by omega), g2]
    by_cases hv : x.2.2.1 3 (q + 1) 1 = x.2.2.1 3 q 1
    · rw [if_pos hv, if_pos hv, zt_1, bnd_s, if_neg n1_0, r226 _ (Or.inr rfl), bnd_eta]
      exact fin _
    · rw [if_neg hv, if_neg hv, zt_0, bnd_s, if_pos n0_0, r226 _ (Or.inl rfl), bnd_eta]
      exact fin _
  · rw [if_neg hk, if_neg hk, zt_0, bnd_s, if_pos n0_0, r226 _ (Or.inl rfl), bnd_eta]
    exact fin _
theorem a_14 (hn : 1000 ≤ n) (hC : CR S x) (hW : WF (im x)) (hR : RelI (im x) (M 0)) (hP : PlR x M) (hWr : WriS x M) (hp : x.2.1 3 = q + 3) (hq : q < 1241) (t k : Int32) : PA n x M S q (actC n t (nI 14) k S) (actR n t (nI 14) k M) := by
  have hB := hW.1
  have h12 : M 12 0 = nI (q + 3) := by rw [hP.1, hp]
  obtain ⟨g1, g2, g3⟩ := hP.2 q (by omega)
  have fin : ∀ i, i < q + 3 → PA n x M S q (f3_takeAndPut n (nI 3) (x.2.2.1 3 i 0) (x.2.2.1 3 i 1) S) (some (0, put2 M q (x.2.2.1 3 i 0) (x.2.2.1 3 i 1))) := fun i hi =>
    PA_put n hn hC hW (WriS_w hWr) (t := 3) (by omega) hp (by omega) (hP.2 i (by omega)).2.2 rfl rfl PutR_put2 (by rw [put2_o (by omega) (by omega) (by omega)]; exact hR) (put2_o (by omega) (by omega) (by omega)) (put2_o (by omega) (by omega) (by omega)) (put2_o (by omega) (by omega) (by omega))
  have r57 : ∀ i, q < i → i < q + 3 → fR_choose_b57 n (nI i) (mS M 12 0 (nI (q + 1))) = some (0, put2 M q (x.2.2.1 3 i 0) (x.2.2.1 3 i 1)) := by
    intro i hqi hi
    obtain ⟨d1, d2, d3⟩ := hP.2 i (by omega)
    unfold fR_choose_b57 put2 top1
    rw [gf_e mS_eq, pk_sub (by omega), Nat.add_sub_cancel, rd_at (by omega) (by decide), mS_ne (by omega), d1, wz_at (VOk_bo d3) (by omega) (by decide), gf_e (show mS (mS M 12 0 (nI (q + 1))) 10 q (x.2.2.1 3 i 0) 12 0 = nI (q + 1) by rw [mS_ne (by omega), mS_eq]), pk_sub (by omega), Nat.add_sub_cancel, rd_at (by omega) (by decide), mS_ne (by omega), mS_ne (by omega), d2, wr_at (by omega) (by decide)]
  have eC : actC n t (nI 14) k S = f3_choose n S := by
    unfold actC
    simp (disch := omega) only [y_lt, y_nlt, y_le, y_nle, y_ne, y_eq, y_n0, y_00, y_l0, y_0l, y_le0, y_m1, y_m1', y_ml, y_m0, y_0m, y_mm, y_lem, y_mle, ↓reduceIte, if_true, if_false]
    exact bnd_eta
  have eR : actR n t (nI 14) k M = bnd (fR_choose n M) (fun _ M18 => some (0, M18)) := by
    unfold actR
    rw [if_neg (by decide), if_neg (by decide), if_pos (by decide), if_pos (by decide), if_pos (by decide), if_neg (by decide), if_pos rfl]
  rw [eC, eR]
  unfold f3_choose fR_choose f3_choose_b23
  rw [x_kind n hC hp (show 2 < q + 3 by omega), bnd_s, show q + 3 - 1 - 2 = q by omega, gf_e h12, pk_sub (by omega), q32, pf_e, gf_e mS_eq, pk_sub (by omega), Nat.add_sub_cancel, rd_at (by omega) (by decide), mS_ne (by omega), g1]
  rcases VOk_01 g3 with w | w
  · rw [w, if_pos n0_0, if_pos n0_0, x_num n hC hp (show 2 < q + 3 by omega), bnd_s, show q + 3 - 1 - 2 = q by omega, gf_e mS_eq, pk_sub (by omega), Nat.add_sub_cancel, rd_at (by omega) (by decide), mS_ne (by omega), g2]
    by_cases hz : x.2.2.1 3 q 1 = 0
    · rw [if_pos hz, if_pos hz, x_kind n hC hp (show 0 < q + 3 by omega), bnd_s, x_num n hC hp (show 0 < q + 3 by omega), bnd_s, show q + 3 - 1 - 0 = q + 2 by omega, gf_e mS_eq, nI_add, r57 (q + 1 + 1) (by omega) (by omega), bnd_s, bnd_eta]
      exact fin _ (by omega)
    · rw [if_neg hz, if_neg hz, x_kind n hC hp (show 1 < q + 3 by omega), bnd_s, x_num n hC hp (show 1 < q + 3 by omega), bnd_s, show q + 3 - 1 - 1 = q + 1 by omega, gf_e mS_eq, r57 (q + 1) (by omega) (by omega), bnd_s, bnd_eta]
      exact fin _ (by omega)
  · rw [w, if_neg n1_0, if_neg n1_0, bnd_id]
    exact Or.inr ⟨1, _, by omega, by omega, rfl, rfl, FlM_12⟩
theorem a_18 (hn : 1000 ≤ n) (hC : CR S x) (hW : WF (im x)) (hR : RelI (im x) (M 0)) (hP : PlR x M) (hWr : WriS x M) (hp : x.2.1 3 = q + 2) (hq : q < 1241) (t k : Int32) : PA n x M S q (actC n t (nI 18) k S) (actR n t (nI 18) k M) := by
  have hB := hW.1
  have h12 : M 12 0 = nI (q + 2) := by rw [hP.1, hp]
  obtain ⟨d1, d2, d3⟩ := hP.2 (q + 1) (by omega)
  have eC : actC n t (nI 18) k S = f3_takeAndPut n (nI 2) (x.2.2.1 3 (q + 1) 0) (x.2.2.1 3 (q + 1) 1) S := by
    unfold actC
    rw [x_kind n hC hp (show 0 < q + 2 by omega), show q + 2 - 1 - 0 = q + 1 by omega]
    simp (disch := omega) only [y_lt, y_nlt, y_le, y_nle, y_ne, y_eq, y_n0, y_00, y_l0, y_0l, y_le0, y_m1, y_m1', y_ml, y_m0, y_0m, y_mm, y_lem, y_mle, ↓reduceIte, if_true, if_false, bnd_s]
    rw [x_num n hC hp (show 0 < q + 2 by omega), bnd_s, show q + 2 - 1 - 0 = q + 1 by omega]
    exact bnd_eta
  have eR : actR n t (nI 18) k M = some (0, put2 M q (x.2.2.1 3 (q + 1) 0) (x.2.2.1 3 (q + 1) 1)) := by
    unfold actR put2 top1
    rw [if_neg (by decide), if_neg (by decide), if_pos (by decide), if_pos (by decide), if_pos (by decide), if_neg (by decide), if_neg (by decide), if_neg (by decide), if_neg (by decide), if_neg (by decide), gf_e h12, pk_sub (by omega), q21, pf_e, gf_e mS_eq, gf_e mS_eq, rd_at (by omega) (by decide), mS_ne (by omega), d1, pk_sub (by omega), Nat.add_sub_cancel, wz_at (VOk_bo d3) (by omega) (by decide)]
    have e : mS (mS M 12 0 (nI (q + 1))) 10 q (x.2.2.1 3 (q + 1) 0) 12 0 = nI (q + 1) := by rw [mS_ne (by omega), mS_eq]
    rw [gf_e e, gf_e e, rd_at (by omega) (by decide), mS_ne (by omega), mS_ne (by omega), d2, pk_sub (by omega), Nat.add_sub_cancel, wr_at (by omega) (by decide)]
  rw [eC, eR]
  exact PA_put n hn hC hW (WriS_w hWr) (t := 2) (by omega) hp (by omega) d3 rfl rfl PutR_put2 (by rw [put2_o (by omega) (by omega) (by omega)]; exact hR) (put2_o (by omega) (by omega) (by omega)) (put2_o (by omega) (by omega) (by omega)) (put2_o (by omega) (by omega) (by omega))
theorem a_16 (hn : 1000 ≤ n) (hC : CR S x) (hW : WF (im x)) (hR : RelI (im x) (M 0)) (hP : PlR x M) (hWr : WriS x M) (hp : x.2.1 3 = q) (hq : q < 1241) {t o : Nat} {k : Int32} (ht : t < x.2.1 4) (ht2 : t < 22) (ho : o < bO (im x)) (hs : x.2.2.1 4 t 3 = nI o) (hm : M 16 t = nI o) : PA n x M S q (actC n (nI t) (nI 16) k S) (actR n (nI t) (nI 16) k M) := by
  refine PA_push n hn hC hW hR hP hWr hp hq (kd := nI 1) (nm := nI o) (Or.inr ⟨rfl, o, ho, rfl⟩) ?_ ?_
  · unfold actC
    simp (disch := omega) only [y_lt, y_nlt, y_le, y_nle, y_ne, y_eq, y_n0, y_00, y_l0, y_0l, y_le0, y_m1, y_m1', y_ml, y_m0, y_0m, y_mm, y_lem, y_mle, ↓reduceIte, if_true, if_false]
    rw [xg4 n hC ht (by omega), hs]
  · unfold actR
    rw [if_neg (by decide), if_neg (by decide), if_pos (by decide), if_pos (by decide), if_pos (by decide), if_neg (by decide), if_neg (by decide), if_neg (by decide), if_pos rfl, rd_at ht2 (by decide), hm]
theorem a_17 (hn : 1000 ≤ n) (hC : CR S x) (hW : WF (im x)) (hR : RelI (im x) (M 0)) (hP : PlR x M) (hWr : WriS x M) (hp : x.2.1 3 = q) (hq : q < 1241) {t : Nat} {k : Int32} (ht : t < x.2.1 4) (ht2 : t < 22) (hv : VOk (im x) (x.2.2.1 4 t 4) (x.2.2.1 4 t 5)) (hm : M 17 t = x.2.2.1 4 t 4) (hm2 : M 18 t = x.2.2.1 4 t 5) : PA n x M S q (actC n (nI t) (nI 17) k S) (actR n (nI t) (nI 17) k M) := by
  refine PA_push n hn hC hW hR hP hWr hp hq hv ?_ ?_
  · unfold actC
    simp (disch := omega) only [y_lt, y_nlt, y_le, y_nle, y_ne, y_eq, y_n0, y_00, y_l0, y_0l, y_le0, y_m1, y_m1', y_ml, y_m0, y_0m, y_mm, y_lem, y_mle, ↓reduceIte, if_true, if_false]
    rw [xg4 n hC ht (by omega), xg4 n hC ht (by omega)]
  · unfold actR
    rw [if_neg (by decide), if_neg (by decide), if_pos (by decide), if_pos (by decide), if_pos (by decide), if_neg (by decide), if_neg (by decide), if_neg (by decide), if_neg (by decide), if_pos rfl, rd_at ht2 (by decide), rd_at ht2 (by decide), hm, hm2]
end PACT3
