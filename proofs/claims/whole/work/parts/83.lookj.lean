def LkOk (x : X) (M : MR) (s L : Nat) (txt : Nat → Int32) : Prop := Rd x M L ∧ (∀ i, i < L → x.1 12 i = txt i) ∧ (s = 0 → okC (im x) (x.1 13) false L 0 0) ∧ (s = 1 → ClsTx (im x) x (x.1 13) L)
def LkOut (x : X) (M : MR) (s L : Nat) (txt : Nat → Int32) (FC : Option (Int32 × CS)) (FR : Option (Int32 × MR)) : Prop :=
  ∃ r S' x' M', FC = some (r, S') ∧ FR = some (r, M') ∧ CR S' x' ∧ FX3 x x' ∧ FM3 M M' ∧ ((r = -1 ∧ LkOk x' M' s L txt) ∨ ∃ f, f ≤ 60 ∧ r = nI f)
section LJ
variable (n : Nat)
theorem j_find (hn : 2000 ≤ n) {S : CS} {x xo y : X} {M0 M : MR} {L s : Nat} {txt : Nat → Int32} (hL : L ≤ 60) (hs : s < 2) (hW : WF (im x)) (hR : RelI (im x) (M0 0)) (o1 : FX3 x xo) (o2 : NwR xo) (o4 : xo.1 7 0 = nI 0) (o5 : xo.1 8 0 = -1) (o6 : xo.2.1 0 = 0) (o7 : xo.2.1 1 = 0) (hC : CR S y) (hA : AddI xo y L txt) (m3 : FM3 M0 M) (m6 : M 6 0 = nI L) (m7 : M 7 0 = -1) (m4 : ∀ i, i < L → M 4 i = txt i) (m5 : ∀ i, i < L → M 5 i = txt i) (m9 : ∀ e, e < 150 → M 9 e = nI 0) : LkOut x M0 s L txt (f1_findFault n (nI s) S) (LkT n (nI s) M) := by
  obtain ⟨a1, a2, a3, a4⟩ := hA
  have fx : FX3 x y := FX3_trans o1 ⟨fun a ha => a1 a (by omega) (by omega) (by omega), fun k _ => by rw [a2]; exact ⟨rfl, rfl⟩, by rw [a2]⟩
  have hi := FX3_im fx
  have hio := FX3_im o1
  have hRd : Rd y M L := by
    refine ⟨⟨hL, a3, m6⟩, fun i hi => ?_, fun i hi => ?_, fun j hj => ?_, fun e he => ?_⟩
    · rw [m4 i hi, (a4 i hi).1]
    · rw [m5 i hi, (a4 i hi).2]
    · rw [hi, ← hio, a1 10 (by omega) (by omega) (by omega), a1 11 (by omega) (by omega) (by omega)]
      exact o2 j hj
    · rw [m9 e he, a1 7 (by omega) (by omega) (by omega), o4, if_neg]
      unfold lnd
      rw [ub_0]
      simp
  have hb : ∀ i, i < L → y.1 13 i = y.1 12 i := fun i hi => by rw [(a4 i hi).1, (a4 i hi).2]
  have hRy : RelI (im y) (M 0) := by rw [hi, m3 0 (by omega)]; exact hR
  have hWy : WF (im y) := by rw [hi]; exact hW
  have hs' : s = 0 ∨ s = 1 := by omega
  rcases hs' with rfl | rfl
  · unfold f1_findFault LkT
    rw [if_neg (by decide), if_pos n0_0, xcg hC (by decide), a3]
    rw [show ∀ K : Int32 → Option (Int32 × MR), gf M 6 K = K (nI L) from fun K => by unfold gf; rw [m6]]
    unfold f1_codeFault fR_code
    obtain ⟨r, S3, x3, M3, e1, e2, e3, e4, e5, e6, e7, e8⟩ := j_code n (L := L) (en := L) (b := false) (Nat.le_refl _) L 0 0 0 n n S y M (by omega) (by omega) (by omega) (by omega) (by omega) hC hWy hRy hRd m7 (fun i _ i2 => hb i i2)
    rw [show imI false = nI 0 from rfl] at e1 e2
    rw [e1, bnd_s, e2, bnd_s]
    refine ⟨r, S3, x3, M3, rfl, ?_, e3, FX3_trans fx (FX3_of (FX2_of e4)), FM3_trans m3 (FM3_of (FM2_of e5)), ?_⟩
    · unfold gf; rw [e7]
    · rcases e8 with ⟨g0, g1, g2⟩ | g
      · refine Or.inl ⟨g0, g1, fun i hi => ?_, fun _ => ?_, fun q => by omega⟩
        · rw [e4.1 12 (by omega) (by omega), (a4 i hi).1]
        · rw [FX_im e4]; exact g2
      · exact Or.inr g
  · unfold LkT
    rw [if_neg n1_0]
    obtain ⟨r, S3, x3, M3, e1, e2, e3, e4, e5, e6, e7⟩ := j_class n hn hC hWy hRy hRd m7 hb (by rw [a2]; exact o6) (by rw [a2]; exact o7) (by rw [a1 8 (by omega) (by omega) (by omega)]; exact o5)
    rw [e1, e2, bnd_s]
    refine ⟨r, S3, x3, M3, rfl, ?_, e3, FX3_trans fx (FX3_of e4), FM3_trans m3 (FM3_of e5), ?_⟩
    · unfold gf; rw [e6]
    · rcases e7 with ⟨g0, g1, g2⟩ | g
      · refine Or.inl ⟨g0, g1, fun i hi => ?_, fun q => by omega, fun _ => ?_⟩
        · rw [e4.1 12 (by omega) (by omega) (by omega) (by omega) (by omega), (a4 i hi).1]
        · rw [FX2_im e4]; exact g2
      · exact Or.inr g
theorem j_tape (hn : 2000 ≤ n) {S : CS} {x : X} {M : MR} {t s : Nat} (hs : s < 2) (hC : CR S x) (hW : WF (im x)) (hR : RelI (im x) (M 0)) (ht : t ≤ 60) (h1 : x.1 1 0 = nI t) (h3 : M 3 0 = nI t) (h2 : ∀ i, i < t → M 2 i = x.1 0 i) : LkOut x M s t (x.1 0) (f4_faultOfTape n (nI s) S) (fR_lookAtTape n (nI s) M) := by
  obtain ⟨S1, e1, xo, c1, o1, o2, o3, o4, o5, o6, o7⟩ := x_open n (by omega) hC hW
  obtain ⟨S2, y, e2, c2, A2⟩ := x_tapeL n (s := nI s) ht (x := xo) (by rw [o1.1 1 (by omega)]; exact h1) t 0 n S1 xo (by omega) (by omega) c1 ⟨fun _ _ _ _ => rfl, rfl, o3, fun i hi => by omega⟩
  obtain ⟨M1, r1, r2, r3⟩ := r_lkTape n (M0 := mS M 6 0 (nI t)) (s := nI s) ht t 0 n (mS M 6 0 (nI t)) (by omega) (by omega) (by rw [mS_ne (by omega)]; exact h3) (fun _ _ => rfl) (fun q hq => by omega)
  obtain ⟨M2, k1, k2, k3, k4, k5, k6⟩ := r_looked n (by omega) (M := M1) (L := t) (s := nI s) ht (by rw [r2 6 (by omega)]; exact mS_eq)
  have hA : AddI xo y t (x.1 0) := by rw [o1.1 0 (by omega)] at A2; exact A2
  have t4 : ∀ i, i < t → M1 4 i = x.1 0 i := fun i hi => by rw [r3 i hi, mS_ne (by omega)]; exact h2 i hi
  have hj := j_find n hn (M0 := M) (s := s) ht hs hW hR o1 o2 o4 o5 o6 o7 c2 hA (M := M2) (fun a ha => by rw [k4 a (by omega) (by omega) (by omega), r2 a (by omega), mS_o (by omega)]) k2 k3 (fun i hi => by rw [k4 4 (by omega) (by omega) (by omega)]; exact t4 i hi) (fun i hi => by rw [k5 i hi]; exact t4 i hi) k6
  obtain ⟨r, S', x', M', f1, f2, f3⟩ := hj
  refine ⟨r, S', x', M', ?_, ?_, f3⟩
  · unfold f4_faultOfTape f4_faultOfTape_b46 at *
    rw [e1, bnd_s, e2, f1, bnd_s]
  · unfold fR_lookAtTape
    rw [show ∀ K : Int32 → Option (Int32 × MR), gf M 3 K = K (nI t) from fun K => by unfold gf; rw [h3], show ∀ K : MR → Option (Int32 × MR), pf M 6 (nI t) K = K (mS M 6 0 (nI t)) from fun _ => rfl, r1, k1, f2, bnd_s]
theorem j_cell (hn : 2000 ≤ n) {S : CS} {x : X} {M : MR} {c L s : Nat} (hc : c < bC (im x)) (hC : CR S x) (hW : WF (im x)) (hR : RelI (im x) (M 0)) (hL : L ≤ 60) (h8 : bce (im x) c 8 = nI L) (hs : s < 2) (h6 : bce (im x) c 6 = nI s) : LkOut x M s L (fun i => bce (im x) c (9 + i)) (f4_faultOfCell n (nI c) S) (fR_lookAtCell n (nI c) M) := by
  have hB := hW.1
  obtain ⟨S1, e1, xo, c1, o1, o2, o3, o4, o5, o6, o7⟩ := x_open n (by omega) hC hW
  have hio := FX3_im o1
  obtain ⟨S2, y, e2, c2, A2⟩ := x_cellL n (L := L) hL (x := xo) (c := c) (by rw [hio]; exact hc) (by rw [hio]; omega) L 0 n S1 xo (by omega) (by omega) c1 ⟨fun _ _ _ _ => rfl, rfl, o3, fun i hi => by omega⟩
  obtain ⟨M1, r1, r2, r3⟩ := r_lkCell n (B := im x) (M0 := mS M 6 0 (nI L)) (c := c) hL (by omega) L 0 n (mS M 6 0 (nI L)) (by omega) (by omega) mS_eq (fun _ _ => rfl) (fun q hq => by omega)
  rw [show mS M 6 0 (nI L) 0 (20 + 180 * c + 1) = nI s by rw [mS_ne (by omega), ri_c1 hR hc]; exact h6] at r1
  obtain ⟨M2, k1, k2, k3, k4, k5, k6⟩ := r_looked n (by omega) (M := M1) (L := L) (s := nI s) hL (by rw [r2 6 (by omega)]; exact mS_eq)
  rw [hio] at A2
  have t4 : ∀ i, i < L → M1 4 i = bce (im x) c (9 + i) := fun i hi => by
    rw [r3 i hi, mS_ne (by omega), ri_ct hR hc (show i < 60 by omega) (by rw [h8]; exact nI_lt hi (by omega))]
  have hj := j_find n hn (M0 := M) (s := s) hL hs hW hR o1 o2 o4 o5 o6 o7 c2 A2 (M := M2) (fun a ha => by rw [k4 a (by omega) (by omega) (by omega), r2 a (by omega), mS_o (by omega)]) k2 k3 (fun i hi => by rw [k4 4 (by omega) (by omega) (by omega)]; exact t4 i hi) (fun i hi => by rw [k5 i hi]; exact t4 i hi) k6
  have hiy : im y = im x := by rw [← hio]; unfold im; rw [A2.2.1, A2.1 20 (by omega) (by omega) (by omega)]
  obtain ⟨r, S', x', M', f1, f2, f3⟩ := hj
  refine ⟨r, S', x', M', ?_, ?_, f3⟩
  · unfold f4_faultOfCell f4_faultOfCell_b66 at *
    rw [e1, bnd_s, xg5 n c1 (by rw [hio]; exact hc) (by omega), hio, h8, e2, xg5 n c2 (by rw [hiy]; exact hc) (by omega), hiy, h6, f1, bnd_s]
  · unfold fR_lookAtCell
    rw [r_cellAt, bnd_s, nI_add, rd_at (by omega) (by decide), ri_c2 hR hc, h8, show ∀ K : MR → Option (Int32 × MR), pf M 6 (nI L) K = K (mS M 6 0 (nI L)) from fun _ => rfl, r1, k1, f2, bnd_s]
end LJ
