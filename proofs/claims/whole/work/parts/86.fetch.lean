-- ===== an act is fetched =====
def actC (n : Nat) (x1 v3 v4 : Int32) (S6 : CS) : Option (Int32 × CS) :=
    if v3 = (nI 0) then
      (bnd (f3_takeAndPut n (nI 0) (nI 0) v4 S6) fun v8 S8 =>
      some (v8, S8))
    else if v3 = (nI 1) then
      (bT 6 S6 (f2_get n v4 (nI 3) (tOf 6 S6)) fun v10 S10 =>
      bT 6 S10 (f2_get n v4 (nI 4) (tOf 6 S10)) fun v11 S11 =>
      bnd (f3_takeAndPut n (nI 0) v10 v11 S11) fun v12 S12 =>
      some (v12, S12))
    else if v3 = (nI 2) then
      (bnd (f3_make n v4 S6) fun v14 S14 =>
      some (v14, S14))
    else if v3 = (nI 3) then
      (bnd (f3_isLastOf n v4 S6) fun v16 S16 =>
      if v16 = 0 then (f3_act_b213 n (nI 1) (nI 0) (nI 0) S16) else (f3_act_b213 n (nI 1) (nI 0) (nI 1) S16))
    else if v3 = (nI 4) then
      (bnd (f3_isLastOf n v4 S6) fun v18 S18 =>
      if v18 = 0 then (some ((nI 5), S18)) else (some ((nI 0), S18)))
    else if v3 = (nI 5) then
      (bnd (f3_readField n v4 S6) fun v20 S20 =>
      some (v20, S20))
    else if v3 = (nI 6) then
      (bnd (f3_writeField n v4 S6) fun v22 S22 =>
      some (v22, S22))
    else if v3 = (nI 7) then
      (bnd (f3_callMethod n v4 S6) fun v24 S24 =>
      some (v24, S24))
    else if v3 = (nI 8) then
      (bnd (f3_reckon n v3 S6) fun v26 S26 =>
      some (v26, S26))
    else if v3 = (nI 9) then
      (bnd (f3_reckon n v3 S6) fun v28 S28 =>
      some (v28, S28))
    else if v3 = (nI 10) then
      (bnd (f3_reckon n v3 S6) fun v30 S30 =>
      some (v30, S30))
    else if v3 = (nI 11) then
      (bnd (f3_reckon n v3 S6) fun v32 S32 =>
      some (v32, S32))
    else if v3 = (nI 12) then
      (bnd (f3_reckon n v3 S6) fun v34 S34 =>
      some (v34, S34))
    else if v3 = (nI 13) then
      (bnd (f3_isSame n S6) fun v36 S36 =>
      if v36 = 0 then (f3_act_b268 n (nI 2) (nI 0) (nI 0) S36) else (f3_act_b268 n (nI 2) (nI 0) (nI 1) S36))
    else if v3 = (nI 14) then
      (bnd (f3_choose n S6) fun v38 S38 =>
      some (v38, S38))
    else if v3 = (nI 15) then
      (bnd (f3_write n S6) fun v40 S40 =>
      some (v40, S40))
    else if v3 = (nI 16) then
      (bT 4 S6 (f2_get n x1 (nI 3) (tOf 4 S6)) fun v42 S42 =>
      bnd (f3_takeAndPut n (nI 0) (nI 1) v42 S42) fun v43 S43 =>
      some (v43, S43))
    else if v3 = (nI 17) then
      (bT 4 S6 (f2_get n x1 (nI 4) (tOf 4 S6)) fun v45 S45 =>
      bT 4 S45 (f2_get n x1 (nI 5) (tOf 4 S45)) fun v46 S46 =>
      bnd (f3_takeAndPut n (nI 0) v45 v46 S46) fun v47 S47 =>
      some (v47, S47))
    else if v3 = (nI 18) then
      (bnd (f3_kindAt n (nI 0) S6) fun v49 S49 =>
      bnd (f3_numberAt n (nI 0) S49) fun v50 S50 =>
      bnd (f3_takeAndPut n (nI 2) v49 v50 S50) fun v51 S51 =>
      some (v51, S51))
    else (bnd (f3_reckon n v3 S6) fun v52 S52 =>
    some (v52, S52))
def actR (n : Nat) (x1 x2 x3 : Int32) (M1 : MR) : Option (Int32 × MR) :=
    if x2 = 0 then
      (bnd (fR_push n (nI 0) x3 M1) fun _ M34 =>
      some (0, M34))
    else
      (if x2 = (nI 1) then
        (bnd (fR_editAt n x3 M1) fun v32 M32 =>
        rd M32 0 62610 (v32 + (nI 3)) fun v33 =>
        if v33 = (nI 1) then (fR_act_b99 n x3 (nI 1) M32) else (fR_act_b99 n x3 (nI 0) M32))
      else
        (if (nI 4) < x2 then
          (if (nI 7) < x2 then
            (if (nI 12) < x2 then
              (if x2 = (nI 13) then
                (gf M1 12 fun v19 =>
                pf M1 12 (v19 - (nI 1)) fun M20 =>
                gf M20 12 fun v21 =>
                rd M20 10 2000 v21 fun v22 =>
                gf M20 12 fun v23 =>
                rd M20 10 2000 (v23 - (nI 1)) fun v24 =>
                if v22 = v24 then
                  (gf M20 12 fun v25 =>
                  rd M20 11 2000 v25 fun v26 =>
                  gf M20 12 fun v27 =>
                  rd M20 11 2000 (v27 - (nI 1)) fun v28 =>
                  if v26 = v28 then (fR_act_b226 n (nI 1) M20) else (fR_act_b225 n M20))
                else
                  (fR_act_b225 n M20))
              else
                (if x2 = (nI 14) then
                  (bnd (fR_choose n M1) fun _ M18 =>
                  some (0, M18))
                else
                  (if x2 = (nI 15) then
                    (bnd (fR_write n M1) fun _ M17 =>
                    some (0, M17))
                  else
                    (if x2 = (nI 16) then
                      (rd M1 16 22 x1 fun v15 =>
                      bnd (fR_push n (nI 1) v15 M1) fun _ M16 =>
                      some (0, M16))
                    else
                      (if x2 = (nI 17) then
                        (rd M1 17 22 x1 fun v12 =>
                        rd M1 18 22 x1 fun v13 =>
                        bnd (fR_push n v12 v13 M1) fun _ M14 =>
                        some (0, M14))
                      else
                        (gf M1 12 fun v2 =>
                        pf M1 12 (v2 - (nI 1)) fun M3 =>
                        gf M3 12 fun v4 =>
                        gf M3 12 fun v5 =>
                        rd M3 10 2000 v5 fun v6 =>
                        wz M3 10 2000 (v4 - (nI 1)) v6 fun M7 =>
                        gf M7 12 fun v8 =>
                        gf M7 12 fun v9 =>
                        rd M7 11 2000 v9 fun v10 =>
                        wr M7 11 2000 (v8 - (nI 1)) v10 fun M11 =>
                        some (0, M11)))))))
            else
              (bnd (fR_reckon n x2 M1) fun _ M29 =>
              some (0, M29)))
          else
            (bnd (fR_ofObject n x2 x3 M1) fun _ M30 =>
            some (0, M30)))
        else
          (bnd (fR_ask n x2 x3 M1) fun _ M31 =>
          some (0, M31))))
theorem okC_step {B : Im} {tx : Nat → Int32} {b : Bool} {en p h : Nat} (q : okC B tx b en p h) (hp : p < en) : ∃ a, a ≤ 18 ∧ tx p = nI a ∧ tks a ≤ h ∧ p + sz a ≤ en ∧ (a = 16 ∨ a = 17 → b = true) ∧ okK (Vv B) (Cc B) a (tx (p + 1)) ∧ okC B tx b en (p + sz a) (h + 1 - tks a) := by
  obtain ⟨m, q⟩ := q
  cases m with
  | zero => exact absurd q.1 (by omega)
  | succ m =>
    rcases q with q | ⟨_, a, h1, h2, h3, h4, h5, h6, h7⟩
    · exact absurd q.1 (by omega)
    · exact ⟨a, h1, h2, h3, h4, h5, h6, m, h7⟩
theorem okC_end {B : Im} {tx : Nat → Int32} {b : Bool} {en h : Nat} (q : okC B tx b en en h) : h = 1 := by
  obtain ⟨m, q⟩ := q
  cases m with
  | zero => exact q.2
  | succ m =>
    rcases q with q | ⟨h0, _⟩
    · exact q.2
    · omega
section FETCH
variable {S : CS} {x : X} {M : MR} (n : Nat)
theorem p_get_c {w mo R : Nat} {T : CS} (h : tOk w mo T R) {r c : Nat} (hr : r < R) (hc : w ≤ c) (hc2 : c < 10000) : f2_get n (nI r) (nI c) T = some (nI 0, T) := by
  have hR : R < 10000 := by have := h.2.2.2.1; have := h.2.2.2.2.2.2.2.2.2; omega
  unfold f2_get cg
  dsimp only
  rw [if_neg (nI_pos (by omega)), h.2.2.1, if_neg (nI_ge hr (by omega)), if_neg (nI_pos (by omega)), h.1, if_neg (nI_nlt hc (by omega))]
theorem x_codeAt (h : CR S x) (hE : bE (im x) ≤ 150) {fr : Nat → Int32} {en q : Nat} (hk : FrK (im x) fr en) : q < 60 → f3_codeAt n (fr 0) (nI q) S = some (txF (im x) (x.1 18) fr q, S) := by
  intro hq
  unfold f3_codeAt txF
  rcases hk with ⟨h0, _⟩ | ⟨e, l, h0, hc, _⟩
  · rw [h0, if_pos rfl, if_pos rfl, if_neg (nI_pos (by omega)), if_neg (nI_ge hq (by omega)), xcr h (by decide) hq (by decide)]
  · have he := hc.1
    rw [h0, if_neg (fun w => m1_n e (by omega) w.symm), if_neg (fun w => m1_n e (by omega) w.symm), nI_add, xg6 n h he (by omega), nI_clamp (by omega)]
    rfl
theorem x_codeAt_o (h : CR S x) (hE : bE (im x) ≤ 150) {fr : Nat → Int32} {en : Nat} (hk : FrK (im x) fr en) : ∃ v, f3_codeAt n (fr 0) (nI 60) S = some (v, S) := by
  unfold f3_codeAt
  rcases hk with ⟨h0, _⟩ | ⟨e, l, h0, hc, _⟩
  · rw [h0, if_pos rfl, if_neg (nI_pos (by omega)), if_pos (Int32.le_refl _)]
    exact ⟨_, rfl⟩
  · have he := hc.1
    rw [h0, if_neg (fun w => m1_n e (by omega) w.symm), nI_add, p_get_c n (h.2.1 6 (by decide)) he (show 104 ≤ 44 + 60 by decide) (by decide), bT_s, tIn_tOf 6 (by decide)]
    exact ⟨_, rfl⟩
theorem x_act (h : CR S x) (hE : bE (im x) ≤ 150) {t pl en a : Nat} (ht : t < x.2.1 4) (hp : x.2.2.1 4 t 1 = nI pl) (hpe : pl < en) (hen : en ≤ 60) (hk : FrK (im x) (x.2.2.1 4 t) en) (ha : a ≤ 18) (hta : txF (im x) (x.1 18) (x.2.2.1 4 t) pl = nI a) (hsz : pl + sz a ≤ en) : ∃ k S6, f3_act n (nI t) S = actC n (nI t) (nI a) k S6 ∧ CR S6 (st x 4 t 1 (nI (pl + sz a))) ∧ (a ≤ 7 → k = txF (im x) (x.1 18) (x.2.2.1 4 t) (pl + 1)) := by
  have hl := CR_lt (show 4 < 8 by decide) h
  have hs := sz_b a
  obtain ⟨k, hk1, hk2⟩ : ∃ k, f3_codeAt n (x.2.2.1 4 t 0) (nI (pl + 1)) S = some (k, S) ∧ (a ≤ 7 → k = txF (im x) (x.1 18) (x.2.2.1 4 t) (pl + 1)) := by
    by_cases h60 : pl + 1 < 60
    · exact ⟨_, x_codeAt n h hE hk h60, fun _ => rfl⟩
    · obtain ⟨v, hv⟩ := x_codeAt_o n h hE hk
      refine ⟨v, by rw [show pl + 1 = 60 by omega]; exact hv, fun q => ?_⟩
      have := hs.2.2.1 q
      omega
  refine ⟨k, tset S 4 t 1 (nI (pl + sz a)), ?_, CR_st (by decide) (show 1 < 8 by decide) h, hk2⟩
  unfold f3_act
  rw [xg4 n h ht (by omega), xg4 n h ht (by omega), hp, x_codeAt n h hE hk (show pl < 60 by omega), bnd_s, nI_add, hk1, bnd_s, hta]
  have hz : f1_sizeOf n (nI a) S = some (nI (sz a), S) := by
    unfold f1_sizeOf sz
    by_cases h7 : a ≤ 7
    · rw [if_neg (nI_ge (by omega) (by omega)), if_pos h7]
    · rw [if_pos (nI_le (by omega) (by omega)), if_neg h7]
  rw [hz, bnd_s, nI_add, b_set n (by decide) (h.2.1 4 (by decide)) ht (show 1 < 8 by decide)]
  rfl
theorem r_intAt (hW : WF (im x)) (hR : RelI (im x) (M 0)) {fr cc : Nat → Int32} {t en P k : Nat} (ht : t < 22) (h20 : M 20 0 = nI (t + 1)) (h13 : M 13 t = fr 0) (h14 : M 14 t = nI P) (h2 : fr 2 = nI en) (h5 : fr 0 = -1 → ∀ q, q < 60 → nI q < fr 2 → M 5 q = cc q) (hk : FrK (im x) fr en) (hen : en ≤ 60) (hP : P + k < en) : fR_intAt n (nI k) M = some (txF (im x) cc fr (P + k), M) := by
  unfold fR_intAt txF
  have hB := hW.1
  rw [gf_e h20, pk_sub (by omega), show t + 1 - 1 = t by omega, rd_at ht (by decide), h13]
  rcases hk with ⟨h0, _⟩ | ⟨e, l, h0, hc, hl, hl2, hl3, _⟩
  · rw [h0, if_neg (by decide), rd_at ht (by decide), h14, nI_add, rd_at (by omega) (by decide), if_pos rfl, h5 h0 (P + k) (by omega) (by rw [h2]; exact nI_lt hP (by omega))]
  · have he := hc.1
    obtain ⟨nf, nm, l', hcl⟩ := wf_cls hW he hc.2
    have hll : l' = l := by
      have := hcl.1.2.2.2.2.2.1
      rw [hl, nI_eq (by omega) (by have := hcl.1.2.2.2.2.2.2.2; omega)] at this
      exact this.symm
    subst hll
    rw [h0, if_pos (nI_pos' (by omega)), rd_at ht (by decide), rd_at ht (by decide), h13, h0, h14, nI_add, r_tx n (show e < 150 by omega) (RE_tx (RE_of hR) he hc.2 hcl) hl3 (show P + k < l' by omega), bnd_s, if_neg (fun w => m1_n e (by omega) w.symm), nI_clamp (by omega)]
theorem r_act (hW : WF (im x)) (hR : RelI (im x) (M 0)) {fr cc : Nat → Int32} {t en P a : Nat} (ht : t < 22) (h20 : M 20 0 = nI (t + 1)) (h13 : M 13 t = fr 0) (h14 : M 14 t = nI P) (h2 : fr 2 = nI en) (h5 : fr 0 = -1 → ∀ q, q < 60 → nI q < fr 2 → M 5 q = cc q) (hk : FrK (im x) fr en) (hen : en ≤ 60) (hP : P + sz a ≤ en) (ha : a ≤ 18) (hta : txF (im x) cc fr P = nI a) : fR_act n M = if a = 2 then bnd (fR_make n (txF (im x) cc fr (P + 1)) M) (fun _ M2 => some (0, M2)) else actR n (nI t) (nI a) (if a ≤ 7 then txF (im x) cc fr (P + 1) else nI 0) (mS M 14 t (nI (P + sz a))) := by
  have hs := sz_b a
  unfold fR_act
  rw [gf_e h20, pk_sub (by omega), show t + 1 - 1 = t by omega, r_intAt n hW hR ht h20 h13 h14 h2 h5 hk hen (show P + 0 < en by omega), bnd_s, Nat.add_zero, hta]
  unfold fR_act_b28
  by_cases h7 : a ≤ 7
  · have := hs.2.2.1 h7
    rw [if_neg (nI_nlt h7 (by omega)), r_intAt n hW hR ht h20 h13 h14 h2 h5 hk hen (show P + 1 < en by omega), bnd_s, if_pos h7]
    by_cases h2' : a = 2
    · rw [if_pos h2', if_pos (by rw [h2'])]
    · rw [if_neg h2', if_neg (fun w => h2' ((nI_eq (by omega) (by omega)).mp w)), rd_at ht (by decide), h14, if_neg (nI_nlt h7 (by omega)), this]
      unfold fR_act_b58
      rw [nI_add, wr_at ht (by decide)]
      rfl
  · have := hs.2.2.2 (by omega)
    rw [if_pos (nI_lt (by omega) (by omega)), if_neg (show ¬ a = 2 by omega), if_neg (fun w => absurd ((nI_eq (by omega) (by omega)).mp w) (by omega)), rd_at ht (by decide), h14, if_pos (nI_lt (by omega) (by omega)), if_neg h7, this]
    unfold fR_act_b58
    rw [nI_add, wr_at ht (by decide)]
    rfl
end FETCH
