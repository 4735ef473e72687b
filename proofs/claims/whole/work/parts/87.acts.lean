-- ===== acts that only touch the pile (and fields, and what is written) =====
theorem q21 {q : Nat} : q + 2 - 1 = q + 1 := rfl
theorem q22 {q : Nat} : q + 2 - 2 = q := rfl
theorem q31 {q : Nat} : q + 3 - 1 = q + 2 := rfl
theorem q32 {q : Nat} : q + 3 - 2 = q + 1 := rfl
theorem q33 {q : Nat} : q + 3 - 3 = q := rfl
def WriS (x : X) (M : MR) : Prop := ∃ s w, s ≤ 1000 ∧ w < s ∧ x.1 16 0 = nI s ∧ M 23 0 = nI s ∧ x.1 15 0 = nI w ∧ M 25 0 = nI w ∧ x.2.1 2 = min w 20 ∧ ∀ i, i < min w 20 → M 26 i = x.2.2.1 2 i 0 ∧ M 27 i = x.2.2.1 2 i 1 ∧ (x.2.2.1 2 i 0 = nI 0 ∨ x.2.2.1 2 i 0 = nI 1)
theorem WriS_w {x : X} {M : MR} (h : WriS x M) : Wri x M := by
  obtain ⟨s, w, h1, h2, h3⟩ := h
  exact ⟨s, w, h1, by omega, h3⟩
theorem Wri_c {x x' : X} {M M' : MR} (h : Wri x M) (e1 : x'.1 16 = x.1 16) (e2 : x'.1 15 = x.1 15) (e3 : x'.2.1 2 = x.2.1 2) (e4 : x'.2.2.1 2 = x.2.2.1 2) (m1 : M' 23 = M 23) (m2 : M' 25 = M 25) (m3 : M' 26 = M 26) (m4 : M' 27 = M 27) : Wri x' M' := by
  unfold Wri
  rw [e1, e2, e3, e4, m1, m2, m3, m4]
  exact h
def FlM (M1 M2 : MR) : Prop := ∀ a, a ≠ 12 → M2 a = M1 a
def PAo (x1 : X) (M1 : MR) (q : Nat) (FC : Option (Int32 × CS)) (FR : Option (Int32 × MR)) : Prop := ∃ kd nm S' x' M', FC = some (nI 0, S') ∧ FR = some (0, M') ∧ CR S' x' ∧ PutX x1 x' q kd nm ∧ PutR M1 M' q kd nm ∧ VOk (im x') kd nm ∧ WF (im x') ∧ RelI (im x') (M' 0) ∧ Wri x' M' ∧ Ims (im x1) (im x')
def PA (n : Nat) (x1 : X) (M1 : MR) (S1 : CS) (q : Nat) (FC : Option (Int32 × CS)) (FR : Option (Int32 × MR)) : Prop :=
  PAo x1 M1 q FC FR ∨ (∃ f M2, 1 ≤ f ∧ f ≤ 8 ∧ FC = some (nI f, S1) ∧ FR = bnd (fR_fail n (nI f) M2) (fun _ M' => some (0, M')) ∧ FlM M1 M2)
section PACT
variable {S : CS} {x : X} {M : MR} {q : Nat} (n : Nat)
theorem bnd_id {F : Option (Int32 × MR)} : bnd (bnd F fun _ M => some ((0 : Int32), M)) (fun _ M' => some ((0 : Int32), M')) = bnd F fun _ M => some (0, M) := by
  cases F <;> rfl
theorem VOk_bo {B : Im} {k v : Int32} (h : VOk B k v) : bo k := by
  rcases h with h | ⟨h, _⟩
  · rw [h]; exact bo_0
  · rw [h]; exact bo_1
theorem VOk_01 {B : Im} {k v : Int32} (h : VOk B k v) : k = nI 0 ∨ k = nI 1 := by
  rcases h with h | ⟨h, _⟩
  · exact Or.inl h
  · exact Or.inr h
/-- a pile act that puts one value: both sides of it at once -/
theorem PAo_put (hn : 1000 ≤ n) (hC : CR S x) (hW : WF (im x)) (hWr : Wri x M) {t : Nat} (ht : t < 100) (hp : x.2.1 3 = q + t) (hq : q < 1260) {kd nm : Int32} (hv : VOk (im x) kd nm) {FC : Option (Int32 × CS)} {FR : Option (Int32 × MR)} (hFC : FC = f3_takeAndPut n (nI t) kd nm S) {M' : MR} (hFR : FR = some (0, M')) (hM : PutR M M' q kd nm) (hR : RelI (im x) (M' 0)) (m2 : M' 25 = M 25) (m3 : M' 26 = M 26) (m4 : M' 27 = M 27) : PAo x M q FC FR := by
  obtain ⟨S', e1, e2⟩ := x_tap n hn hC (kd := kd) (nm := nm) hp ht hq
  have hi : im (tap x q kd nm) = im x := im_tap
  have hP : PutX x (tap x q kd nm) q kd nm := PutX_tap
  have e23 : (tap x q kd nm).2.1 2 = x.2.1 2 := by unfold tap; rw [tpx_rn (by decide)]; show uf x.2.1 3 q 2 = _; rw [uf_ne (by decide)]
  have e24 : (tap x q kd nm).2.2.1 2 = x.2.2.1 2 := by unfold tap; rw [tpx_cn (by decide)]; rfl
  exact ⟨kd, nm, S', tap x q kd nm, M', hFC.trans e1, hFR, e2, hP, hM, by rw [hi]; exact hv, by rw [hi]; exact hW, by rw [hi]; exact hR, Wri_c hWr (hP.2.2.2.2.2.2.1 16 (by omega)) (by show x.1 15 = _; rfl) e23 e24 (hM.2.2.2.2.1 23 (by omega) (by omega) (by omega) (by omega) (by omega) (by omega) (by omega)) m2 m3 m4, by rw [hi]; exact Ims_refl _⟩
theorem PA_put (hn : 1000 ≤ n) (hC : CR S x) (hW : WF (im x)) (hWr : Wri x M) {t : Nat} (ht : t < 100) (hp : x.2.1 3 = q + t) (hq : q < 1260) {kd nm : Int32} (hv : VOk (im x) kd nm) {FC : Option (Int32 × CS)} {FR : Option (Int32 × MR)} (hFC : FC = f3_takeAndPut n (nI t) kd nm S) {M' : MR} (hFR : FR = some (0, M')) (hM : PutR M M' q kd nm) (hR : RelI (im x) (M' 0)) (m2 : M' 25 = M 25) (m3 : M' 26 = M 26) (m4 : M' 27 = M 27) : PA n x M S q FC FR := Or.inl (PAo_put n hn hC hW hWr ht hp hq hv hFC hFR hM hR m2 m3 m4)
def psh (M : MR) (p : Nat) (kd nm : Int32) : MR := mS (mS (mS M 10 p kd) 11 p nm) 12 0 (nI (p + 1))
theorem r_push {p : Nat} {kd nm : Int32} (h12 : M 12 0 = nI p) (hp : p < 2000) (hk : bo kd) : fR_push n kd nm M = some (0, psh M p kd nm) := by
  unfold fR_push psh
  simp (disch := first | omega | assumption) only [gf, pf, rd_at, wr_at, wz_at, nI_add, pk_sub, Nat.add_sub_cancel, bnd_s, zt_0, zt_1, mS_ne, mS_eq, mS_ne2, Nat.add_zero, q21, q22, q31, q32, q33, r_objAt, r_editAt, h12]
theorem PutR_psh {p : Nat} {kd nm : Int32} : PutR M (psh M p kd nm) p kd nm := by
  unfold psh
  refine ⟨mS_eq, ?_, ?_, fun i hi => ⟨?_, ?_⟩, fun a a0 a1 a2 a3 a4 a5 a6 => ?_, fun i _ => ?_⟩
  · rw [mS_ne (by omega), mS_ne (by omega), mS_eq]
  · rw [mS_ne (by omega), mS_eq]
  · rw [mS_ne (by omega), mS_ne (by omega), mS_ne2 (by omega)]
  · rw [mS_ne (by omega), mS_ne2 (by omega), mS_ne (by omega)]
  · rw [mS_o a3, mS_o a2, mS_o a1]
  · rw [mS_ne (by omega), mS_ne (by omega), mS_ne (by omega)]
variable (hn : 1000 ≤ n) (hC : CR S x) (hW : WF (im x)) (hR : RelI (im x) (M 0)) (hP : PlR x M) (hWr : WriS x M)
theorem PA_push (hn : 1000 ≤ n) (hC : CR S x) (hW : WF (im x)) (hR : RelI (im x) (M 0)) (hP : PlR x M) (hWr : WriS x M) (hp : x.2.1 3 = q) (hq : q < 1241) {kd nm : Int32} (hv : VOk (im x) kd nm) {FC : Option (Int32 × CS)} {FR : Option (Int32 × MR)} (hFC : FC = bnd (f3_takeAndPut n (nI 0) kd nm S) (fun v S => some (v, S))) (hFR : FR = bnd (fR_push n kd nm M) (fun _ M => some (0, M))) : PA n x M S q FC FR := by
  have e : bnd (f3_takeAndPut n (nI 0) kd nm S) (fun v S => some (v, S)) = f3_takeAndPut n (nI 0) kd nm S := by
    cases f3_takeAndPut n (nI 0) kd nm S <;> rfl
  have h12 : M 12 0 = nI q := by rw [hP.1, hp]
  refine PA_put n hn hC hW (WriS_w hWr) (t := 0) (by omega) hp (by omega) hv (hFC.trans e) (M' := psh M q kd nm) ?_ PutR_psh ?_ ?_ ?_ ?_
  · rw [hFR, r_push n h12 (by omega) (VOk_bo hv), bnd_s]
  · unfold psh; rw [mS_o (by omega), mS_o (by omega), mS_o (by omega)]; exact hR
  · unfold psh; rw [mS_o (by omega), mS_o (by omega), mS_o (by omega)]
  · unfold psh; rw [mS_o (by omega), mS_o (by omega), mS_o (by omega)]
  · unfold psh; rw [mS_o (by omega), mS_o (by omega), mS_o (by omega)]
theorem bnd_eta {F : Option (Int32 × CS)} : bnd F (fun v S => some (v, S)) = F := by
  cases F <;> rfl
theorem a_0 (hn : 1000 ≤ n) (hC : CR S x) (hW : WF (im x)) (hR : RelI (im x) (M 0)) (hP : PlR x M) (hWr : WriS x M) (hp : x.2.1 3 = q) (hq : q < 1241) (t : Int32) (k : Int32) : PA n x M S q (actC n t (nI 0) k S) (actR n t (nI 0) k M) :=
  PA_push n hn hC hW hR hP hWr hp hq (kd := nI 0) (nm := k) (Or.inl rfl) rfl rfl
theorem a_1 (hn : 1000 ≤ n) (hC : CR S x) (hW : WF (im x)) (hR : RelI (im x) (M 0)) (hP : PlR x M) (hWr : WriS x M) (hp : x.2.1 3 = q) (hq : q < 1241) (t : Int32) {e : Nat} (he : Vv (im x) e) : PA n x M S q (actC n t (nI 1) (nI e) S) (actR n t (nI 1) (nI e) M) := by
  have hB := hW.1
  have hv := (hW.2.2.1 e he.1).2.2.2.1 he.2
  refine PA_push n hn hC hW hR hP hWr hp hq hv ?_ ?_
  · unfold actC
    rw [if_neg (by decide), if_pos rfl, xg6 n hC he.1 (by omega), xg6 n hC he.1 (by omega)]
  · unfold actR fR_act_b99
    rw [if_neg n1_0, if_pos rfl, r_editAt, bnd_s, nI_add, rd_at (by have := he.1; omega) (by decide), ri_e3 hR he.1]
    rcases VOk_01 hv with h0 | h1
    · rw [h0, if_neg (by decide), r_editAt, bnd_s, nI_add, rd_at (by have := he.1; omega) (by decide), ri_e4 hR he.1]
    · rw [h1, if_pos rfl, r_editAt, bnd_s, nI_add, rd_at (by have := he.1; omega) (by decide), ri_e4 hR he.1]
/-- the value on top is an object of that class, or below it -/
def lst (x : X) (q e : Nat) : Bool := decide (x.2.2.1 3 q 0 = nI 1) && bel (im x) (bob (im x) (x.2.2.1 3 q 1).toNatClampNeg 0).toNatClampNeg e
theorem x_isLast (hn : 1000 ≤ n) (hC : CR S x) (hW : WF (im x)) (hP : PlR x M) (hp : x.2.1 3 = q + 1) {e : Nat} (he : e < 2147483648) : f3_isLastOf n (nI e) S = some (if lst x q e = true then nI 1 else nI 0, S) := by
  have hB := hW.1
  unfold f3_isLastOf lst
  rw [x_kind n hC hp (show 0 < q + 1 by omega), bnd_s, show q + 1 - 1 - 0 = q by omega]
  rcases (hP.2 q (by omega)).2.2 with h0 | ⟨h1, o, ho, h2⟩
  · rw [h0, if_neg (by decide), zt_0, show decide (nI 0 = nI 1) = false from by decide, Bool.false_and]
    rfl
  · obtain ⟨⟨c, hc, hc2⟩, _⟩ := hW.2.2.2.1 o ho
    rw [h1, if_pos rfl, x_num n hC hp (show 0 < q + 1 by omega), bnd_s, show q + 1 - 1 - 0 = q by omega, h2, xg7 n hC ho (by omega), hc2, xk_below n hn hC hW hc.1 hc.2 he, bnd_s, nI_clamp (by omega), hc2, nI_clamp (by have := hc.1; omega)]
    by_cases hb : bel (im x) c e = true
    · rw [if_pos hb, if_neg n1_0, zt_1]; simp [hb]
    · rw [if_neg hb, if_pos n0_0, zt_0]; simp [hb]
theorem r_ask (hn : 1000 ≤ n) (hW : WF (im x)) (hR : RelI (im x) (M 0)) (hP : PlR x M) (hp : x.2.1 3 = q + 1) (hq : q < 1241) {e : Nat} (he : e < 2147483648) {x1 : Int32} : fR_ask n x1 (nI e) M = fR_ask_b46 n x1 (if lst x q e = true then nI 1 else nI 0) M := by
  have hB := hW.1
  have h12 : M 12 0 = nI (q + 1) := by rw [hP.1, hp]
  obtain ⟨g1, g2, g3⟩ := hP.2 q (by omega)
  unfold fR_ask lst fR_ask_b45
  rw [gf_e h12, pk_sub (by omega), Nat.add_sub_cancel, rd_at (by omega) (by decide), g1]
  rcases g3 with h0 | ⟨h1, o, ho, h2⟩
  · rw [h0, if_pos n0_0]
    simp
    rfl
  · obtain ⟨⟨c, hc, hc2⟩, _⟩ := hW.2.2.2.1 o ho
    rw [h1, if_neg n1_0, gf_e h12, pk_sub (by omega), Nat.add_sub_cancel, rd_at (by omega) (by decide), g2, h2, r_objAt, bnd_s, rd_at (by omega) (by decide), ri_o0 hR ho, hc2, r_below' n hn hR hW hc.1 hc.2 he, bnd_s, nI_clamp (by omega), hc2, nI_clamp (by have := hc.1; omega)]
    by_cases hb : bel (im x) c e = true
    · rw [if_pos hb, if_neg n1_0]; simp [hb]
    · rw [if_neg hb, if_pos n0_0]; simp [hb]
def top1 (M : MR) (q : Nat) (kd nm : Int32) : MR := mS (mS M 10 q kd) 11 q nm
theorem PutR_top1 {kd nm : Int32} (h12 : M 12 0 = nI (q + 1)) : PutR M (top1 M q kd nm) q kd nm := by
  unfold top1
  refine ⟨?_, ?_, ?_, fun i hi => ⟨?_, ?_⟩, fun a a0 a1 a2 a3 a4 a5 a6 => ?_, fun i _ => ?_⟩
  · rw [mS_ne (by omega), mS_ne (by omega)]; exact h12
  · rw [mS_ne (by omega), mS_eq]
  · rw [mS_eq]
  · rw [mS_ne (by omega), mS_ne2 (by omega)]
  · rw [mS_ne2 (by omega), mS_ne (by omega)]
  · rw [mS_o a2, mS_o a1]
  · rw [mS_ne (by omega), mS_ne (by omega)]
theorem top1_o {kd nm : Int32} {a : Nat} (h1 : a ≠ 10) (h2 : a ≠ 11) : top1 M q kd nm a = M a := by
  unfold top1; rw [mS_o h2, mS_o h1]
theorem a_3 (hn : 1000 ≤ n) (hC : CR S x) (hW : WF (im x)) (hR : RelI (im x) (M 0)) (hP : PlR x M) (hWr : WriS x M) (hp : x.2.1 3 = q + 1) (hq : q < 1241) (t : Int32) {e : Nat} (he : Cc (im x) e) : PA n x M S q (actC n t (nI 3) (nI e) S) (actR n t (nI 3) (nI e) M) := by
  have hB := hW.1
  have h12 : M 12 0 = nI (q + 1) := by rw [hP.1, hp]
  have he' : e < 2147483648 := by have := he.1; omega
  refine PA_put n hn hC hW (WriS_w hWr) (t := 1) (by omega) hp (by omega) (kd := nI 0) (nm := if lst x q e = true then nI 1 else nI 0) (Or.inl rfl) ?_ (M' := top1 M q (nI 0) (if lst x q e = true then nI 1 else nI 0)) ?_ (PutR_top1 h12) (by rw [top1_o (by omega) (by omega)]; exact hR) (top1_o (by omega) (by omega)) (top1_o (by omega) (by omega)) (top1_o (by omega) (by omega))
  · unfold actC f3_act_b213
    rw [if_neg (by decide), if_neg (by decide), if_neg (by decide), if_pos rfl, x_isLast n hn hC hW hP hp he', bnd_s]
    by_cases hb : lst x q e = true
    · rw [if_pos hb, if_neg n1_0, bnd_eta]
    · rw [if_neg hb, if_pos n0_0, bnd_eta]
  · unfold actR
    rw [if_neg (by decide), if_neg (by decide), if_neg (by decide), r_ask n hn hW hR hP hp hq he']
    unfold fR_ask_b46 fR_ask_b64 top1
    rw [if_neg (by decide), if_pos rfl, gf_e h12, pk_sub (by omega), Nat.add_sub_cancel, wz_at bo_0 (by omega) (by decide), gf_e (show mS M 10 q (nI 0) 12 0 = nI (q + 1) by rw [mS_ne (by omega)]; exact h12), pk_sub (by omega), Nat.add_sub_cancel]
    by_cases hb : lst x q e = true
    · rw [if_pos hb, if_neg n1_0, wr_at (by omega) (by decide), bnd_s]
    · rw [if_neg hb, if_pos n0_0, wr_at (by omega) (by decide), bnd_s]
/-- an act that leaves the top of the pile as it is -/
theorem PA_stay (hC : CR S x) (hW : WF (im x)) (hR : RelI (im x) (M 0)) (hP : PlR x M) (hWr : WriS x M) (hp : x.2.1 3 = q + 1) {FC : Option (Int32 × CS)} {FR : Option (Int32 × MR)} (hFC : FC = some (nI 0, S)) (hFR : FR = some (0, M)) : PA n x M S q FC FR := by
  obtain ⟨g1, g2, g3⟩ := hP.2 q (by omega)
  refine Or.inl ⟨x.2.2.1 3 q 0, x.2.2.1 3 q 1, S, x, M, hFC, hFR, hC, ⟨hp, rfl, rfl, fun _ _ => ⟨rfl, rfl⟩, rfl, rfl, fun _ _ => rfl, rfl⟩, ⟨by rw [hP.1, hp], g1, g2, fun _ _ => ⟨rfl, rfl⟩, fun _ _ _ _ _ _ _ _ => rfl, fun _ _ => rfl⟩, g3, hW, hR, WriS_w hWr, Ims_refl _⟩
theorem a_4 (hn : 1000 ≤ n) (hC : CR S x) (hW : WF (im x)) (hR : RelI (im x) (M 0)) (hP : PlR x M) (hWr : WriS x M) (hp : x.2.1 3 = q + 1) (hq : q < 1241) (t : Int32) {e : Nat} (he : Cc (im x) e) : PA n x M S q (actC n t (nI 4) (nI e) S) (actR n t (nI 4) (nI e) M) := by
  have hB := hW.1
  have he' : e < 2147483648 := by have := he.1; omega
  have e1 : actC n t (nI 4) (nI e) S = if lst x q e = true then some (nI 0, S) else some (nI 5, S) := by
    unfold actC
    rw [if_neg (by decide), if_neg (by decide), if_neg (by decide), if_neg (by decide), if_pos rfl, x_isLast n hn hC hW hP hp he', bnd_s]
    by_cases hb : lst x q e = true
    · rw [if_pos hb, if_neg n1_0, if_pos hb]
    · rw [if_neg hb, if_pos n0_0, if_neg hb]
  have e2 : actR n t (nI 4) (nI e) M = if lst x q e = true then some (0, M) else bnd (fR_fail n (nI 5) M) (fun _ M' => some (0, M')) := by
    unfold actR
    rw [if_neg (by decide), if_neg (by decide), if_neg (by decide), r_ask n hn hW hR hP hp hq he']
    unfold fR_ask_b46 fR_ask_b64
    rw [if_pos rfl]
    by_cases hb : lst x q e = true
    · rw [if_pos hb, if_neg n1_0, if_neg (by decide), bnd_s, if_pos hb]
    · rw [if_neg hb, if_pos n0_0, bnd_id, if_neg hb]
  by_cases hb : lst x q e = true
  · rw [if_pos hb] at e1 e2
    exact PA_stay n hC hW hR hP hWr hp e1 e2
  · rw [if_neg hb] at e1 e2
    exact Or.inr ⟨5, M, by omega, by omega, e1, e2, fun _ _ => rfl⟩
end PACT
