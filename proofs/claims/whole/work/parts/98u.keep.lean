-- ===== keep and back =====
section RK
variable (n : Nat)
theorem r_keep_l {M0 : MR} {z : Nat} (hz : z < 2) : ∀ d q k (M : MR), q + d = 20870 → d < k → (∀ a, a ≠ 0 → M a = M0 a) → (∀ j, (j < 20870 * (z + 1) ∨ 20870 * (z + 1) + 20870 ≤ j) → M 0 j = M0 0 j) → (∀ j, j < q → M 0 (20870 * (z + 1) + j) = M0 0 j) → ∃ M', fR_keep_l13 n k (nI z) (nI q) M = some (nI 1, M') ∧ (∀ a, 2 ≤ a → M' a = M0 a) ∧ M' 1 z = nI 1 ∧ (∀ i, i ≠ z → M' 1 i = M0 1 i) ∧ (∀ j, (j < 20870 * (z + 1) ∨ 20870 * (z + 1) + 20870 ≤ j) → M' 0 j = M0 0 j) ∧ ∀ j, j < 20870 → M' 0 (20870 * (z + 1) + j) = M0 0 j
  | 0, q, k, M, hq, hk, h1, h2, h3 => by
    obtain ⟨k, rfl⟩ : ∃ q, k = q + 1 := ⟨k - 1, by omega⟩
    refine ⟨mS M 1 z (nI 1), ?_, fun a ha => by rw [mS_o (by omega), h1 a (by omega)], mS_eq, fun i hi => by rw [mS_ne2 hi, h1 1 (by omega)], fun j hj => by rw [mS_ne (by omega), h2 j hj], fun j hj => by rw [mS_ne (by omega), h3 j (by omega)]⟩
    rw [fR_keep_l13, if_pos (nI_le (by omega) (by omega)), wz_at bo_1 hz (by decide), zt_1]
  | d + 1, q, k, M, hq, hk, h1, h2, h3 => by
    obtain ⟨k, rfl⟩ : ∃ q, k = q + 1 := ⟨k - 1, by omega⟩
    rw [fR_keep_l13, if_neg (nI_ge (show q < 20870 by omega) (by omega)), rd_at (show q < 62610 by omega) (by decide), nI_add z, pk_mul, nI_add (20870 * (z + 1)), wr_at (show 20870 * (z + 1) + q < 62610 by omega) (by decide), nI_add q]
    refine r_keep_l hz d (q + 1) k _ (by omega) (by omega) (fun a ha => by rw [mS_o ha, h1 a ha]) (fun j hj => by rw [mS_ne2 (by omega), h2 j hj]) (fun j hj => ?_)
    by_cases hjq : j = q
    · subst hjq; rw [mS_eq, h2 j (by omega)]
    · rw [mS_ne2 (by omega), h3 j (by omega)]
theorem r_keep (hn : 30000 ≤ n) {M : MR} {z : Nat} (hz : z < 2) : ∃ M', fR_keep n (nI z) M = some (1, M') ∧ (∀ a, 2 ≤ a → M' a = M a) ∧ M' 1 z = nI 1 ∧ (∀ i, i ≠ z → M' 1 i = M 1 i) ∧ (∀ j, (j < 20870 * (z + 1) ∨ 20870 * (z + 1) + 20870 ≤ j) → M' 0 j = M 0 j) ∧ ∀ j, j < 20870 → M' 0 (20870 * (z + 1) + j) = M 0 j := by
  obtain ⟨M', e1, e2⟩ := r_keep_l n (M0 := M) hz 20870 0 n M (by omega) (by omega) (fun _ _ => rfl) (fun _ _ => rfl) (fun j hj => by omega)
  refine ⟨M', ?_, e2⟩
  unfold fR_keep
  rw [if_neg (nI_pos (by omega)), if_pos (nI_le (by omega) (by omega)), e1]
  rfl
theorem r_back_l {M0 : MR} {z : Nat} (hz : z < 2) : ∀ d q k (M : MR), q + d = 20870 → d < k → (∀ a, a ≠ 0 → M a = M0 a) → (∀ j, q ≤ j → M 0 j = M0 0 j) → (∀ j, j < q → M 0 j = M0 0 (20870 * (z + 1) + j)) → ∃ M', fR_back_l22 n k (nI z) (nI q) M = some (nI 1, M') ∧ (∀ a, a ≠ 0 → M' a = M0 a) ∧ (∀ j, 20870 ≤ j → M' 0 j = M0 0 j) ∧ ∀ j, j < 20870 → M' 0 j = M0 0 (20870 * (z + 1) + j)
  | 0, q, k, M, hq, hk, h1, h2, h3 => by
    obtain ⟨k, rfl⟩ : ∃ q, k = q + 1 := ⟨k - 1, by omega⟩
    refine ⟨M, ?_, h1, fun j hj => h2 j (by omega), fun j hj => h3 j (by omega)⟩
    rw [fR_back_l22, if_pos (nI_le (by omega) (by omega)), zt_1]
  | d + 1, q, k, M, hq, hk, h1, h2, h3 => by
    obtain ⟨k, rfl⟩ : ∃ q, k = q + 1 := ⟨k - 1, by omega⟩
    rw [fR_back_l22, if_neg (nI_ge (show q < 20870 by omega) (by omega)), nI_add z, pk_mul, nI_add (20870 * (z + 1)), rd_at (show 20870 * (z + 1) + q < 62610 by omega) (by decide), wr_at (show q < 62610 by omega) (by decide), nI_add q]
    refine r_back_l hz d (q + 1) k _ (by omega) (by omega) (fun a ha => by rw [mS_o ha, h1 a ha]) (fun j hj => by rw [mS_ne2 (by omega), h2 j (by omega)]) (fun j hj => ?_)
    by_cases hjq : j = q
    · subst hjq; rw [mS_eq, h2 _ (by omega)]
    · rw [mS_ne2 (by omega), h3 j (by omega)]
theorem r_back (hn : 30000 ≤ n) {M : MR} {z : Nat} (hz : z < 2) (h1 : M 1 z = nI 1) : ∃ M', fR_back n (nI z) M = some (1, M') ∧ (∀ a, a ≠ 0 → M' a = M a) ∧ (∀ j, 20870 ≤ j → M' 0 j = M 0 j) ∧ ∀ j, j < 20870 → M' 0 j = M 0 (20870 * (z + 1) + j) := by
  obtain ⟨M', e1, e2⟩ := r_back_l n (M0 := M) hz 20870 0 n M (by omega) (by omega) (fun _ _ => rfl) (fun _ _ => rfl) (fun j hj => by omega)
  refine ⟨M', ?_, e2⟩
  unfold fR_back
  rw [if_neg (nI_pos (by omega)), if_neg (nI_nlt (by omega) (by omega)), rd_at hz (by decide), h1, if_neg n1_0, e1]
  rfl
theorem r_back_0 {M : MR} {z : Nat} (hz : z < 2) (h1 : M 1 z = nI 0) : fR_back n (nI z) M = some (0, M) := by
  unfold fR_back
  rw [if_neg (nI_pos (by omega)), if_neg (nI_nlt (by omega) (by omega)), rd_at hz (by decide), h1, if_pos n0_0, zt_0]
  rfl
theorem r_kb_o {M : MR} {x : Int32} (h : x < 0 ∨ ¬ x < nI 2) : fR_keep n x M = some (0, M) ∧ fR_back n x M = some (0, M) := by
  rcases i_cases x with hx | ⟨m, hm, rfl⟩
  · refine ⟨?_, ?_⟩
    · unfold fR_keep; rw [if_pos hx, zt_0]; rfl
    · unfold fR_back; rw [if_pos hx, zt_0]; rfl
  · have h2 : 2 ≤ m := by
      rcases h with h | h
      · exact absurd h (nI_pos hm)
      · exact Nat.le_of_not_lt (fun w => h (nI_lt w (by omega)))
    refine ⟨?_, ?_⟩
    · unfold fR_keep; rw [if_neg (nI_pos hm), if_neg (nI_ge (by omega) hm), zt_0]; rfl
    · unfold fR_back; rw [if_neg (nI_pos hm), if_pos (nI_lt (by omega) hm), zt_0]; rfl
end RK
def Pl (o : Option CS) (f : Int32) (g : Nat → Int32) (ns : Nat → Nat) : Prop := match o with
  | none => f = nI 0
  | some I => f = nI 1 ∧ ∃ y, IR I y ns ∧ WF (im y) ∧ RelI (im y) g ∧ Fz (im y)
def al1 (o : Option CS) (ns : Nat → Nat) : Nat := match o with
  | none => 0
  | some _ => 8 + (ns 5 + ns 6 + ns 7)
def al2 (o : Option CS) (ns : Nat → Nat) : Nat := match o with
  | none => 0
  | some _ => 1032 + (125 * tri (ns 5) + 104 * tri (ns 6) + 21 * tri (ns 7))
def KP (k : Nat → Option CS) (f1 f0 : Nat → Int32) (g : Nat × Nat) : Prop := ∃ ns : Nat → Nat → Nat, (∀ z, z < 2 → Pl (k z) (f1 z) (fun i => f0 (20870 * z + i)) (ns z)) ∧ g.1 ≤ al1 (k 0) (ns 0) + al1 (k 1) (ns 1) ∧ g.2 ≤ al2 (k 0) (ns 0) + al2 (k 1) (ns 1)
theorem Pl_g {o : Option CS} {f f' : Int32} {g g' : Nat → Int32} {ns : Nat → Nat} (h : Pl o f g ns) (hf : f' = f) (hg : ∀ i, i < 20870 → g' i = g i) : Pl o f' g' ns := by
  subst hf
  cases o with
  | none => exact h
  | some I =>
    obtain ⟨h1, y, h2, h3, h4, h5⟩ := h
    exact ⟨h1, y, h2, h3, RelI_g h4 h3.1 hg, h5⟩
theorem KP_up {k : Nat → Option CS} {f1 f0 f1' f0' : Nat → Int32} {g : Nat × Nat} {z mc ms : Nat} {ns : Nat → Nat → Nat} {ns' : Nat → Nat} {I' : CS} (hz : z < 2) (h1 : ∀ z, z < 2 → Pl (k z) (f1 z) (fun i => f0 (20870 * z + i)) (ns z)) (h2 : g.1 ≤ al1 (k 0) (ns 0) + al1 (k 1) (ns 1)) (h3 : g.2 ≤ al2 (k 0) (ns 0) + al2 (k 1) (ns 1)) (hp : Pl (some I') (f1' z) (fun i => f0' (20870 * z + i)) ns') (hf1 : ∀ z', z' ≠ z → f1' z' = f1 z') (hf0 : ∀ z', z' < 2 → z' ≠ z → ∀ i, i < 20870 → f0' (20870 * z' + i) = f0 (20870 * z' + i)) (ha : mc + al1 (k z) (ns z) ≤ al1 (some I') ns') (hb : ms + al2 (k z) (ns z) ≤ al2 (some I') ns') : KP (va_up k z (some I')) f1' f0' (g.1 + mc, g.2 + ms) := by
  refine ⟨fun z' => if z' = z then ns' else ns z', fun z' hz' => ?_, ?_, ?_⟩
  · by_cases h : z' = z
    · subst h
      rw [va_up_self]
      dsimp only
      rw [if_pos rfl]
      exact hp
    · rw [va_up_ne _ _ h]
      dsimp only
      rw [if_neg h]
      exact Pl_g (h1 z' hz') (hf1 z' h) (hf0 z' hz' h)
  · rcases (show z = 0 ∨ z = 1 by omega) with rfl | rfl
    · rw [va_up_self, va_up_ne _ _ (by omega)]
      dsimp only
      rw [if_pos rfl, if_neg (by omega)]
      omega
    · rw [va_up_self, va_up_ne _ _ (by omega)]
      dsimp only
      rw [if_neg (by omega), if_pos rfl]
      omega
  · rcases (show z = 0 ∨ z = 1 by omega) with rfl | rfl
    · rw [va_up_self, va_up_ne _ _ (by omega)]
      dsimp only
      rw [if_pos rfl, if_neg (by omega)]
      omega
    · rw [va_up_self, va_up_ne _ _ (by omega)]
      dsimp only
      rw [if_neg (by omega), if_pos rfl]
      omega
def Inv (S : CS) (k : Nat → Option CS) (M : MR) : Prop := InvK KP S k M
theorem Mn_g {x : X} {M M' : MR} (hM : Mn x M) (h0 : ∀ i, i < 20870 → M' 0 i = M 0 i) (ha : ∀ a, 2 ≤ a → M' a = M a) : Mn x M' := by
  obtain ⟨hW, hR, ⟨t, ht, t1, t2, t3⟩, ⟨g0, g1, g2, g3⟩, hF⟩ := hM
  refine ⟨hW, RelI_g hR hW.1 h0, ⟨t, ht, t1, by rw [ha 3 (by omega)]; exact t2, fun i hi => by rw [ha 2 (by omega)]; exact t3 i hi⟩, ⟨?_, ?_, ?_, ?_⟩, hF⟩
  · rw [ha 30 (by omega)]; exact g0
  · rw [ha 31 (by omega)]; exact g1
  · rw [ha 32 (by omega)]; exact g2
  · rw [ha 33 (by omega)]; exact g3
theorem cp_w {I J : CS} {j : Nat} (hj : j < 16) : (cpI I J).1 20 j = J.1 20 j := by
  show va_cpy (J.1 20) (I.1 20) 0 0 16 j = _
  unfold va_cpy
  rw [if_pos ⟨Nat.zero_le _, by omega⟩, Nat.zero_add, Nat.sub_zero]
theorem CR_adG {S : CS} {x : X} {mc ms : Nat} (h : CR S x) : CR (adG S mc ms) (x.1, x.2.1, x.2.2.1, x.2.2.2.1 + mc, x.2.2.2.2 + ms) := by
  obtain ⟨h1, h2, h3, ns, h4, h5, h6⟩ := h
  have e : ∀ j, (adG S mc ms).2 (10 + j) = S.2 (10 + j) := fun j => by
    show (if 10 + j = 1 then S.2 1 + mc else if 10 + j = 2 then S.2 2 + ms else S.2 (10 + j)) = _
    rw [if_neg (by omega), if_neg (by omega)]
  refine ⟨h1, fun k hk => sOk_congr (S := S) rfl rfl rfl (e k) (h2 k hk), h3, ns, fun k hk => by rw [e k]; exact h4 k hk, ?_, ?_⟩
  · show S.2 1 + mc ≤ x.2.2.2.1 + mc + sum8 ns
    omega
  · show S.2 2 + ms ≤ x.2.2.2.2 + ms + sum8 (fun k => wk k * tri (ns k))
    omega
/-- the state is kept in place z; a room of mc cells and ms slots is taken -/
theorem j_keep {S I : CS} {k : Nat → Option CS} {M : MR} {z mc ms : Nat} {x : X} {ns : Nat → Nat → Nat} {n0 : Nat → Nat} (hz : z < 2) (hC : CR S x) (hM : Mn x M) (h1 : ∀ z, z < 2 → Pl (k z) (M 1 z) (fun i => M 0 (20870 + (20870 * z + i))) (ns z)) (h2 : x.2.2.2.1 ≤ al1 (k 0) (ns 0) + al1 (k 1) (ns 1)) (h3 : x.2.2.2.2 ≤ al2 (k 0) (ns 0) + al2 (k 1) (ns 1)) (hI : IT I n0) (hm1 : mc + al1 (k z) (ns z) ≤ cpC I S + 8 + (n0 5 + n0 6 + n0 7)) (hm2 : ms + al2 (k z) (ns z) ≤ cpS I S + 1032 + (125 * tri (n0 5) + 104 * tri (n0 6) + 21 * tri (n0 7))) : ∃ M', fR_keep FU (nI z) M = some (1, M') ∧ Inv (adG S mc ms) (va_up k z (some (cpI I S))) M' := by
  obtain ⟨M', e1, e2, e3, e4, e5, e6⟩ := r_keep FU (by decide) (M := M) hz
  obtain ⟨ns', i1, i2, i3⟩ := IR_keep hC hI
  refine ⟨M', e1, _, CR_adG hC, Mn_g hM (fun i hi => e5 i (by omega)) e2, ?_⟩
  refine KP_up (f1 := M 1) (f0 := fun i => M 0 (20870 + i)) (ns := ns) (ns' := ns') (g := x.2.2.2) hz h1 h2 h3 ?_ e4 (fun z' hz' hne i hi => ?_) ?_ ?_
  · obtain ⟨hW, hR, _, _, hF⟩ := hM
    have hw : ∀ j, j < 16 → (cpI I S).1 20 j = bnw (im x) j := fun j hj => by rw [cp_w hj, hC.1 20 (by decide)]; rfl
    refine ⟨e3, _, i1, ?_, ?_, ?_⟩
    · rw [cpX_im]; exact WF_w hW hw
    · rw [cpX_im]
      refine RelI_w (RelI_g hR hW.1 (fun i hi => ?_)) hw
      show M' 0 (20870 + (20870 * z + i)) = M 0 i
      rw [show 20870 + (20870 * z + i) = 20870 * (z + 1) + i by omega, e6 i hi]
    · rw [cpX_im]; exact hF
  · show M' 0 (20870 + (20870 * z' + i)) = M 0 (20870 + (20870 * z' + i))
    exact e5 _ (by omega)
  · show mc + al1 (k z) (ns z) ≤ 8 + (ns' 5 + ns' 6 + ns' 7)
    omega
  · show ms + al2 (k z) (ns z) ≤ 1032 + (125 * tri (ns' 5) + 104 * tri (ns' 6) + 21 * tri (ns' 7))
    omega
theorem I00_ok : ∀ k, 5 ≤ k → k < 8 → sOk I00 k 0 := fun k h5 h8 => by
  rcases (show k = 5 ∨ k = 6 ∨ k = 7 by omega) with rfl | rfl | rfl <;> exact sOk_iff.mpr ⟨rfl, rfl, rfl, Nat.zero_le _, by rw [Nat.zero_mul]; exact Nat.zero_le _, by decide, by decide, by decide, by decide, by decide⟩
theorem I00_T : IT I00 (fun _ => 4) := fun k h5 h8 => by
  refine ⟨⟨0, I00_ok k h5 h8⟩, ?_, Nat.le_refl _, ?_⟩
  · rcases (show k = 5 ∨ k = 6 ∨ k = 7 by omega) with rfl | rfl | rfl <;> rfl
  · rcases (show k = 5 ∨ k = 6 ∨ k = 7 by omega) with rfl | rfl | rfl <;> decide
theorem sim_keep : SimKeep Inv := by
  refine ⟨fun S k M x _ hx => r_kb_o FU hx, fun S k M z hI hz hk => ?_, fun S k M z I hI hz hk => ?_⟩
  · obtain ⟨x, hC, hM, ns, h1, h2, h3⟩ := hI
    have hp : M 1 z = nI 0 := by have := h1 z hz; rw [hk] at this; exact this
    refine ⟨r_back_0 FU hz hp, cpOk_of (a := x.2.1) (b := fun _ => 0) (fun k _ h8 => hC.2.1 k h8) I00_ok, ?_⟩
    refine j_keep hz hC hM h1 h2 h3 (ns := ns) I00_T ?_ ?_
    · rw [hk]
      show 8 + cpC I00 S + 0 ≤ cpC I00 S + 8 + (4 + 4 + 4)
      omega
    · rw [hk]
      show 1032 + cpS I00 S + 0 ≤ cpS I00 S + 1032 + _
      omega
  · obtain ⟨x, hC, hM, ns, h1, h2, h3⟩ := hI
    have hp := h1 z hz
    rw [hk] at hp
    obtain ⟨p1, y, p2, p3, p4, p5⟩ := hp
    refine ⟨cpOk_of (a := x.2.1) (b := y.2.1) (fun k _ h8 => hC.2.1 k h8) (fun k h5 h8 => (p2.2 k h5 h8).1), cpOk_of (a := y.2.1) (b := x.2.1) (fun k h5 h8 => (p2.2 k h5 h8).1) (fun k _ h8 => hC.2.1 k h8), ?_, ?_⟩
    · refine j_keep hz hC hM h1 h2 h3 (ns := ns) (IR_T p2) ?_ ?_
      · rw [hk]
        show cpC I S + (8 + (ns z 5 + ns z 6 + ns z 7)) ≤ _
        omega
      · rw [hk]
        show cpS I S + (1032 + (125 * tri (ns z 5) + 104 * tri (ns z 6) + 21 * tri (ns z 7))) ≤ _
        omega
    · obtain ⟨M', e1, e2, e3, e4⟩ := r_back FU (by decide) (M := M) hz p1
      have hw : ∀ j, j < 16 → (cpI S I).1 20 j = bnw (im y) j := fun j hj => by rw [cp_w hj, p2.1]; rfl
      obtain ⟨hW, hR, ⟨t, ht, t1, t2, t3⟩, ⟨g0, g1, g2, g3⟩, hF⟩ := hM
      refine ⟨M', e1, _, CR_back hC p2, ⟨?_, ?_, ⟨t, ht, t1, by rw [e2 3 (by omega)]; exact t2, fun i hi => by rw [e2 2 (by omega)]; exact t3 i hi⟩, ⟨?_, ?_, ?_, ?_⟩, ?_⟩, ?_⟩
      · rw [cpX_im]; exact WF_w p3 hw
      · rw [cpX_im]
        refine RelI_w (RelI_g p4 p3.1 (fun i hi => ?_)) hw
        show M' 0 i = M 0 (20870 + (20870 * z + i))
        rw [e4 i hi, show 20870 + (20870 * z + i) = 20870 * (z + 1) + i by omega]
      · rw [e2 30 (by omega)]; exact g0
      · rw [e2 31 (by omega)]; exact g1
      · rw [e2 32 (by omega)]; exact g2
      · rw [e2 33 (by omega)]; exact g3
      · rw [cpX_im]; exact p5
      · rw [e2 1 (by omega), show (fun i => M' 0 (20870 + i)) = (fun i => M 0 (20870 + i)) from funext fun i => e3 _ (by omega)]
        exact ⟨ns, h1, h2, h3⟩
