-- ===== all that are stale are run again =====
theorem Mw_off {x x' : X} {m : Int64} {M : MR} {c a : Nat} (hC : bC (im x') = bC (im x)) (h40 : c < 40) (h : Mw x m (M a)) : Mw x' (m &&& (((1 : Int64) <<< (Int32.toInt64 (nI c) &&& 63)) ^^^ (-1 : Int64))) (mS M a c (nI 0) a) := by
  refine ⟨fun i hi => ?_, fun i hi => ?_⟩
  · rw [mb_dr2 h40]
    by_cases hic : i = c
    · subst hic; rw [mS_eq, decide_eq_false (fun w => w rfl), Bool.and_false]; rfl
    · rw [mS_ne2 hic, decide_eq_true hic, Bool.and_true]; exact h.1 i (by omega)
  · rw [mb_dr2 h40, h.2 i (by omega)]; rfl
section RERUN
variable (n : Nat)
theorem j_reruns (hn : 600000 ≤ n) {G : Nat × Nat} {F1 : Nat → Int32} {F0 : Nat → Int32} : ∀ w i r k k' m (S : CS) (x : X) (M : MR), i + w ≤ 40 → r ≤ i → w < k → w < k' → CR S x → Mn x M → x.2.2.2 = G → M 1 = F1 → (∀ i, 20870 ≤ i → M 0 i = F0 i) → Mw x m (M 29) → cnt (mb m) 40 = w → bE (im x) + w ≤ 150 → ∃ r' S' x' M', f4_rerunStale_l40 n k m (nI (i + w)) (nI r) (nI i) S = some (r', S') ∧ fR_rerunStale_l74 n k' (nI (i + w)) (nI r) (nI i) M = some (r', M') ∧ CR S' x' ∧ Mn x' M' ∧ x'.2.2.2 = G ∧ M' 1 = F1 ∧ ∀ i, 20870 ≤ i → M' 0 i = F0 i
  | 0, i, r, k, k', m, S, x, M, h1, h2, h3, h4, hC, hM, hG, hF1, hF0, hw, hcnt, hE => by
    obtain ⟨k, rfl⟩ : ∃ q, k = q + 1 := ⟨k - 1, by omega⟩
    obtain ⟨k', rfl⟩ : ∃ q, k' = q + 1 := ⟨k' - 1, by omega⟩
    refine ⟨nI r, S, x, M, ?_, ?_, hC, hM, hG, hF1, hF0⟩
    · rw [f4_rerunStale_l40, Nat.add_zero, if_pos (Int32.le_refl _)]
    · rw [fR_rerunStale_l74, Nat.add_zero, if_pos (Int32.le_refl _)]
  | w + 1, i, r, k, k', m, S, x, M, h1, h2, h3, h4, hC, hM, hG, hF1, hF0, hw, hcnt, hE => by
    obtain ⟨k, rfl⟩ : ∃ q, k = q + 1 := ⟨k - 1, by omega⟩
    obtain ⟨k', rfl⟩ : ∃ q, k' = q + 1 := ⟨k' - 1, by omega⟩
    obtain ⟨hW, hR, hT, hCm, hF⟩ := id hM
    have hB := hW.1
    obtain ⟨c, c1, c2, c3⟩ := nxw_some (x := x) hB.1 hw.2 hcnt
    obtain ⟨m2, hm2⟩ : ∃ m2, m2 = (m &&& (((1 : Int64) <<< (Int32.toInt64 (nI c) &&& 63)) ^^^ (-1 : Int64))) := ⟨_, rfl⟩
    have hcn : cnt (mb m2) 40 = w := by
      have := cnt_dec (P := mb m) (P' := mb m2) (s := c) c3 (by rw [hm2, mb_dr2 (by omega), decide_eq_false (fun w => w rfl), Bool.and_false]) (fun i hi => by rw [hm2, mb_dr2 (by omega), decide_eq_true hi, Bool.and_true]) 40 (by omega)
      omega
    have hM1 : Mn x (mS M 29 c (nI 0)) := Mn_o hM (fun a ha => mS_o (by omega))
    obtain ⟨_, h6, ⟨L, hL, h8⟩, _⟩ := hW.2.1 c c2
    obtain ⟨s, hs2, h6⟩ : ∃ s, s < 2 ∧ bce (im x) c 6 = nI s := by rcases h6 with h6 | h6; exact ⟨0, by omega, h6⟩; exact ⟨1, by omega, h6⟩
    obtain ⟨v, S1, x1, M1, k1, k2, k3, k4, k5, k6⟩ := j_cell n (by omega) c2 hC hW hM1.2.1 hL h8 hs2 h6
    have hi := FX3_im k4
    obtain ⟨m1, m2', m3, m4⟩ := Lk_Mn hM1 k4 k5
    have hw1 : Mw x1 m2 (M1 29) := by
      rw [k5 29 (by omega), hm2]
      exact Mw_off (x := x) (x' := x1) (by rw [hi]) (by omega) hw
    have eC : f4_rerunStale_l40 n (k + 1) m (nI (i + (w + 1))) (nI r) (nI i) S = if v = -1 then (bnd (f4_runCell n (nI c) S1) fun v3 S3 => f4_rerunStale_l40 n k m2 (nI (i + 1 + w)) (nI (r + 1)) (nI (i + 1)) S3) else f4_rerunStale_l40 n k m2 (nI (i + 1 + w)) (nI r) (nI (i + 1)) S1 := by
      rw [f4_rerunStale_l40, if_neg (nI_ge (by omega) (by omega)), x_nextw n (by omega) hC hW, bnd_s, c1, show ni (some c) = nI c from rfl, k1, bnd_s, ← hm2]
      unfold f4_rerunStale_b87
      rw [nI_add r, nI_add i, show i + (w + 1) = i + 1 + w by omega]
    have eR : fR_rerunStale_l74 n (k' + 1) (nI (i + (w + 1))) (nI r) (nI i) M = if 0 ≤ v then fR_rerunStale_l74 n k' (nI (i + 1 + w)) (nI r) (nI (i + 1)) M1 else (bnd (fR_run n (nI c) M1) fun v3 M3 => fR_rerunStale_l74 n k' (nI (i + 1 + w)) (nI (r + 1)) (nI (i + 1)) M3) := by
      have hz := r_nextw_l n (k74 := fR_rerunStale_l74 n k') (x1 := nI (i + (w + 1))) (x2 := nI r) (x3 := nI i) (by omega) hW hR hF hw (bC (im x)) 0 n (by omega) (by omega)
      rw [fR_rerunStale_l74, if_neg (nI_ge (by omega) (by omega)), rd_at (by omega) (by decide), hR.1.1]
      refine Eq.trans hz ?_
      rw [c1, show ni (some c) = nI c from rfl]
      unfold fR_rerunStale_b165
      rw [wz_at bo_0 (show c < 40 by omega) (by decide), k2, bnd_s]
      unfold fR_rerunStale_b195
      rw [nI_add r, nI_add i, show i + (w + 1) = i + 1 + w by omega]
    rcases k6 with ⟨rfl, k6⟩ | ⟨f, f1, rfl⟩
    · have hrun := j_run n hn k3 m1.1 m1.2.1 (c := c) (by rw [hi]; exact c2) (by rw [hi]; omega) (show s = 0 ∨ s = 1 by omega) (by rw [hi]; exact h6) k6
      obtain ⟨r2, S2, x2, M2, e1, e2, e3, e4, e5, e6, e7, e8, e9, e10⟩ := Run_fin hrun m1.2.2.1 m1.2.2.2.1 (fun q hq _ => m1.2.2.2.2 q hq)
      rw [hi] at e8 e9
      obtain ⟨r', S', x', M', j1, j2, j3⟩ := j_reruns hn (G := G) (F1 := F1) (F0 := F0) w (i + 1) (r + 1) k k' m2 S2 x2 M2 (by omega) (by omega) (by omega) (by omega) e3 e4 (by rw [e5, m2', hG]) (by rw [e6, m3, mS_o (by omega), hF1]) (fun i hi => by rw [e7 i hi, m4 i hi, mS_ne (by omega), hF0 i hi]) (by
        rw [e10 29 (by omega)]
        exact ⟨fun c hc => hw1.1 c (by rw [hi]; omega), fun c hc => hw1.2 c (by rw [hi]; omega)⟩) hcn (by omega)
      refine ⟨r', S', x', M', ?_, ?_, j3⟩
      · rw [eC, if_pos rfl, e1, bnd_s, j1]
      · rw [eR, if_neg (show ¬ (0 : Int32) ≤ -1 by decide), e2, bnd_s, j2]
    · obtain ⟨r', S', x', M', j1, j2, j3⟩ := j_reruns hn (G := G) (F1 := F1) (F0 := F0) w (i + 1) r k k' m2 S1 x1 M1 (by omega) (by omega) (by omega) (by omega) k3 m1 (by rw [m2', hG]) (by rw [m3, mS_o (by omega), hF1]) (fun i hi => by rw [m4 i hi, mS_ne (by omega), hF0 i hi]) hw1 hcn (by rw [hi]; omega)
      refine ⟨r', S', x', M', ?_, ?_, j3⟩
      · rw [eC, if_neg (m100 f1), j1]
      · rw [eR, if_pos (nI_pos' (by omega)), j2]
/-- the reference notes who waits -/
theorem r_waits {C : Nat} {mk : Nat → Bool} (hC : C ≤ 40) : ∀ d c k (M : MR), c + d = C → d < k → M 0 0 = nI C → (∀ i, i < 40 → M 28 i = zI (mk i)) → (∀ i, i < c → M 29 i = zI (mk i)) → ∃ M', fR_rerunStale_l8 n k (nI (cnt mk c)) (nI c) M = (rd M' 0 62610 (nI 1) fun v2 => if (v2 + nI (cnt mk C)) ≤ (nI 150) then (fR_rerunStale_l74 n n (nI (cnt mk C)) (nI 0) (nI 0) M') else (some ((-2 : Int32), M'))) ∧ (∀ a, a ≠ 29 → M' a = M a) ∧ ∀ i, i < C → M' 29 i = zI (mk i)
  | 0, c, k, M, hc, hk, h0, h28, h29 => by
    obtain ⟨k, rfl⟩ : ∃ q, k = q + 1 := ⟨k - 1, by omega⟩
    obtain rfl : c = C := by omega
    refine ⟨M, ?_, fun _ _ => rfl, h29⟩
    rw [fR_rerunStale_l8, rd_at (by omega) (by decide), h0, if_pos (Int32.le_refl _)]
  | d + 1, c, k, M, hc, hk, h0, h28, h29 => by
    obtain ⟨k, rfl⟩ : ∃ q, k = q + 1 := ⟨k - 1, by omega⟩
    obtain ⟨M', e1, e2, e3⟩ := r_waits hC d (c + 1) k (mS M 29 c (zI (mk c))) (by omega) (by omega) (by rw [mS_ne (by omega)]; exact h0) (fun i hi => by rw [mS_ne (by omega)]; exact h28 i hi) (fun i hi => by
      by_cases hic : i = c
      · subst hic; exact mS_eq
      · rw [mS_ne2 hic]; exact h29 i (by omega))
    refine ⟨M', ?_, fun a ha => by rw [e2 a ha, mS_o ha], e3⟩
    rw [fR_rerunStale_l8, rd_at (by omega) (by decide), h0, if_neg (nI_ge (by omega) (by omega)), rd_at (show c < 40 by omega) (by decide), h28 c (by omega), wz_at zI_bo (show c < 40 by omega) (by decide), rd_at (show c < 40 by omega) (by decide), mS_ne (by omega), h28 c (by omega), ← e1]
    unfold fR_rerunStale_b45
    rw [nI_add c]
    cases hm : mk c
    · rw [zI_f, if_pos n0_0, nI_add, Nat.add_zero, cnt_f (by rw [hm]; decide)]
    · rw [zI_t, if_neg n1_0, nI_add, cnt_t hm]
theorem op_rerunStale (hn : 600000 ≤ n) : OpS (f4_rerunStale n) (fR_rerunStale n) := by
  intro S x M hC hM
  obtain ⟨hW, hR, hT, hCm, hF⟩ := id hM
  have hB := hW.1
  obtain ⟨m, M1, e1, e2, e3, e4⟩ := j_stale n (by omega) hC hW hF hR
  obtain ⟨M2, f1, f2, f3⟩ := r_waits n (C := bC (im x)) (mk := mb m) hB.1 (bC (im x)) 0 n M1 (by omega) (by omega) (by rw [e4 0 (by omega)]; exact hR.1.1) e3.1 (fun i hi => by omega)
  have h12 : ∀ a, a < 28 ∨ 30 ≤ a → M2 a = M a := fun a ha => (f2 a (by omega)).trans (e4 a (by omega))
  have hM2 : Mn x M2 := Mn_o hM h12
  have hcC : cnt (mb m) (bC (im x)) = cnt (mb m) 40 := by
    have h := cnt_add (mb m) (bC (im x)) (40 - bC (im x))
    rw [show bC (im x) + (40 - bC (im x)) = 40 by omega, cnt_zero (P := fun j => mb m (bC (im x) + j)) _ (fun i _ => by show ¬ mb m (bC (im x) + i) = true; rw [e3.2 _ (by omega)]; decide)] at h
    omega
  have h40 := cnt_le (mb m) 40
  have eC : f4_rerunStale n S = if nI (bE (im x)) + nI (cnt (mb m) 40) ≤ nI 150 then (f4_rerunStale_l40 n n m (nI (cnt (mb m) 40)) (nI 0) (nI 0) S) else (some ((-2 : Int32), S)) := by
    unfold f4_rerunStale
    rw [e1, bnd_s, x_bitCount n (fun c hc => e3.2 c (by omega)), bnd_s, xz6 n hC]
  have eR : fR_rerunStale n M = if nI (bE (im x)) + nI (cnt (mb m) 40) ≤ nI 150 then (fR_rerunStale_l74 n n (nI (cnt (mb m) 40)) (nI 0) (nI 0) M2) else (some ((-2 : Int32), M2)) := by
    unfold fR_rerunStale
    rw [e2, bnd_s, show fR_rerunStale_l8 n n (nI 0) (nI 0) M1 = _ from f1, rd_at (by omega) (by decide), hM2.2.1.1.2.1, hcC]
  rw [eC, eR, nI_add]
  by_cases hle : bE (im x) + cnt (mb m) 40 ≤ 150
  · rw [if_pos (nI_le hle (by omega)), if_pos (nI_le hle (by omega))]
    have := j_reruns n hn (G := x.2.2.2) (F1 := M 1) (F0 := M 0) (cnt (mb m) 40) 0 0 n n m S x M2 (by omega) (by omega) (by omega) (by omega) hC hM2 rfl (h12 1 (by omega)) (fun i _ => by rw [h12 0 (by omega)]) ⟨f3, e3.2⟩ rfl hle
    rw [Nat.zero_add] at this
    exact this
  · rw [if_neg (nI_ge (by omega) (by omega)), if_neg (nI_ge (by omega) (by omega))]
    exact ⟨-2, S, x, M2, rfl, rfl, hC, hM2, rfl, h12 1 (by omega), fun i _ => by rw [h12 0 (by omega)]⟩
end RERUN
