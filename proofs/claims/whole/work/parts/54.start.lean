set_option maxRecDepth 100000 in
set_option maxHeartbeats 4000000 in
theorem start_of {p : Program} {e : Env} {s : State} {m : MethodId} {below : List Frame} {meth : Method} {c : Code} (l : Launch) {b L : Nat} {xs : Nat → Int32} (Inv : CS → (Nat → Option CS) → MR → Prop) (i0 : Inv S00 (fun _ => none) M0) (i1 : SimOps Inv) (i2 : SimKeep Inv) (i3 : SimRoom Inv) (hL : L ≤ 3072) (C0 : lw_At p s m meth c b L xs) : W p l e room_1 s m #[Value.ref b] below meth c s.heap [] 0 0 (lw_Z below #[Value.ref b] s) (entryFrame m ([Value.ref b] : List Value).toArray 4) := by
  obtain ⟨hx, hb, hr, hml, hown, hts0, hX, hbl, hlocks, hgv⟩ := id C0
  have hts : ∀ w ∈ tt, w.before #[Value.ref b] s = true := fun w hw => hts0 w (List.mem_filter.mp hw).1
  have hA : ∀ q : Nat, s.heap.size ≤ q → (fun q : Nat => s.heap.size ≤ q) q := fun _ h => h
  have hbA : ¬ (fun q : Nat => s.heap.size ≤ q) b := Nat.not_le.mpr hbl
  have hA0 : ∀ a : Nat, a < s.heap.size → ¬ (fun q : Nat => s.heap.size ≤ q) a := fun a h => Nat.not_le.mpr h
  obtain ⟨c0, iS0, hKn0⟩ := u_known (C := RX0) (T := TX0) (N := 4) (n := 4) hts0 iX0 (hts _ in_0)
  obtain ⟨c1, iS1, hKn1⟩ := u_known (C := RX1) (T := TX1) (N := 11) (n := 11) hts0 iX1 (hts _ in_1)
  obtain ⟨c2, iS2, hKn2⟩ := u_known (C := RX2) (T := TX2) (N := 4) (n := 4) hts0 iX2 (hts _ in_2)
  obtain ⟨c3, iS3, hKn3⟩ := u_known (C := RX3) (T := TX3) (N := 9) (n := 9) hts0 iX3 (hts _ in_3)
  obtain ⟨c4, iS4, hKn4⟩ := u_known (C := RX4) (T := TX4) (N := 10) (n := 10) hts0 iX4 (hts _ in_4)
  obtain ⟨c5, iS5, hKn5⟩ := u_known (C := RX5) (T := TX5) (N := 34) (n := 34) hts0 iX5 (hts _ in_5)
  obtain ⟨dC, dI, hKc⟩ : ∃ (dC : Nat → ClassId) (dI : Nat → Nat → Nat), ∀ (k : Nat) (q : vw_C), vwCl[k]? = some q → u_Kn s q.1 q.2.1 q.2.2 (dC k) (dI k) := by
    refine ⟨fun k => if k = 0 then c0 else if k = 1 then c1 else if k = 2 then c2 else if k = 3 then c3 else if k = 4 then c4 else c5, fun k => if k = 0 then iS0 else if k = 1 then iS1 else if k = 2 then iS2 else if k = 3 then iS3 else if k = 4 then iS4 else iS5, ?_⟩
    intro k q hq
    match k, hq with
    | 0, hq => cases hq; exact hKn0
    | 1, hq => cases hq; exact hKn1
    | 2, hq => cases hq; exact hKn2
    | 3, hq => cases hq; exact hKn3
    | 4, hq => cases hq; exact hKn4
    | 5, hq => cases hq; exact hKn5
    | k + 6, hq => simp [vwCl] at hq
  obtain ⟨cI, kI1, comp1, a1, a2, a3⟩ := Cond.arrayClass_spec (hts _ tarr_I)
  obtain ⟨cZ, kZ1, comp2, z1, z2, z3⟩ := Cond.arrayClass_spec (hts _ tarr_Z)
  have hK : va_K (dC, dI) vwCl (tyR cI cZ) s := by
    refine ⟨hKc, fun k q h => ?_⟩
    match k, h with
    | 0, h =>
      cases h
      exact ⟨fun N z => ⟨fun k h => (by cases h), kI1, a2, comp1, a3⟩, a1⟩
    | 1, h =>
      cases h
      exact ⟨fun N z => ⟨fun k h => (by cases h), kZ1, z2, comp2, z3⟩, z1⟩
    | k + 2, h => simp at h
  have hs := flat_of_before _ hgv
  have hel : ∀ j : Nat, j < 19 → (Term.elem (.static "EditionBook" "TAKES" "[I") (.int (Int32.ofNat j))).eval #[Value.ref b] s none [] s = some (.int (tkf j)) := by
    intro j hj
    rcases (show j = 0 ∨ j = 1 ∨ j = 2 ∨ j = 3 ∨ j = 4 ∨ j = 5 ∨ j = 6 ∨ j = 7 ∨ j = 8 ∨ j = 9 ∨ j = 10 ∨ j = 11 ∨ j = 12 ∨ j = 13 ∨ j = 14 ∨ j = 15 ∨ j = 16 ∨ j = 17 ∨ j = 18 by omega) with rfl | rfl | rfl | rfl | rfl | rfl | rfl | rfl | rfl | rfl | rfl | rfl | rfl | rfl | rfl | rfl | rfl | rfl | rfl
    · exact va_eqt (z := 0) (hs _ (by decide +kernel))
    · exact va_eqt (z := 0) (hs _ (by decide +kernel))
    · exact va_eqt (z := 0) (hs _ (by decide +kernel))
    · exact va_eqt (z := 1) (hs _ (by decide +kernel))
    · exact va_eqt (z := 1) (hs _ (by decide +kernel))
    · exact va_eqt (z := 1) (hs _ (by decide +kernel))
    · exact va_eqt (z := 2) (hs _ (by decide +kernel))
    · exact va_eqt (z := 2) (hs _ (by decide +kernel))
    · exact va_eqt (z := 2) (hs _ (by decide +kernel))
    · exact va_eqt (z := 2) (hs _ (by decide +kernel))
    · exact va_eqt (z := 2) (hs _ (by decide +kernel))
    · exact va_eqt (z := 2) (hs _ (by decide +kernel))
    · exact va_eqt (z := 2) (hs _ (by decide +kernel))
    · exact va_eqt (z := 2) (hs _ (by decide +kernel))
    · exact va_eqt (z := 3) (hs _ (by decide +kernel))
    · exact va_eqt (z := 1) (hs _ (by decide +kernel))
    · exact va_eqt (z := 0) (hs _ (by decide +kernel))
    · exact va_eqt (z := 0) (hs _ (by decide +kernel))
    · exact va_eqt (z := 2) (hs _ (by decide +kernel))
  obtain ⟨tk, hv, hT⟩ := va_Tof (N := 19) (f := fun j => .int (tkf j)) (A := fun q : Nat => s.heap.size ≤ q) (by decide) (hs (.arrayOf (.static "EditionBook" "TAKES" "[I") .int) (by decide +kernel)) (va_eqt (z := 19) (hs _ (by decide +kernel))) hel hA0
  have hSF : SF tk (fun x => s.heap.size ≤ x) s := ⟨va_Zref (hts0 (.laysStatic "EditionBook" "TAKES" "[I") (by decide +kernel)) (hts _ ini_4) hv hA0, hT, va_Nw.of rfl (hts0 (.fieldLinkNest RX1 112 "EditionBook" "TAKES" "[I" "EditionBook") (by decide +kernel)), va_Nw.of rfl (hts0 (.methodLinkNest RX0 46 yX4_isName "EditionBook") (by decide +kernel)), va_Nw.of rfl (hts0 (.methodLinkNest RX1 124 yX4_isName "EditionBook") (by decide +kernel))⟩
  have hN1 : va_Nw (.methodLinkNest RX4 19 yX1_init "EditionBook") s := va_Nw.of rfl (hts0 _ (by decide +kernel))
  have hN2 : va_Nw (.methodLinkNest RX4 26 yX3_init "EditionBook") s := va_Nw.of rfl (hts0 _ (by decide +kernel))
  have hAO : va_AO "EditionBook$Image" s := va_AO.of (A := #[Value.ref b]) (hts0 _ (by decide +kernel))
  have hS : va_S (fun q : Nat => s.heap.size ≤ q) s.heap s.heap [] := va_S.rf
  have hP : va_P (dC, dI) vwCl [] s.heap := fun k q h => by simp at h
  have hD : va_D (fun q : Nat => s.heap.size ≤ q) [] := ⟨fun i j p q h => by simp at h, fun k q h => by simp at h⟩
  have hl := lv_entry ([.ref b]) (n := 4) (Nat.le_of_ble_eq_true rfl)
  rw [lg_entry_eq]
  generalize (lg_sl ([Value.ref b]) ++ List.replicate (4 - (lg_sl ([Value.ref b])).length) Slot.unset).toArray = ls at hl ⊢
  have hl : lv_has ls 4 [(0, .ref b)] := hl
  refine va_new (ci := 4) (fs := [.null, .int 0, .null, .null, .null, .null, .int 0, .int 0, .int 0, .int 0]) (C := RX4) (T := TX4) (N := 10) hx hb hts jX_4 tyX4 tyX4_ok hown (hts _ clL_7) (hts _ in_4) (hts _ ini_4) hK hP hD hS hA rfl (fun j hj => df_4 j hj) (Nat.le_of_ble_eq_true rfl) (Nat.le_of_ble_eq_true rfl) dL_law_0 (fun h4 H hP hD hS => ?_)
  have hP : va_P (dC, dI) vwCl [(h4, .inr (4, [.null, .int 0, .null, .null, .null, .null, .int 0, .int 0, .int 0, .int 0]))] H := hP
  have hD : va_D (fun q : Nat => s.heap.size ≤ q) [(h4, .inr (4, [.null, .int 0, .null, .null, .null, .null, .int 0, .int 0, .int 0, .int 0]))] := hD
  refine W.widen (k := 1) (n := 10) (by omega) (by omega) ?_
  refine lv_dup hx hb dL_law_3 rfl ?_
  have hKc1 := hK.sub (tys' := tyC cI) [0] rfl
  have hFc := va_free (wc := [(h4, .inr (4, [.null, .int 0, .null, .null, .null, .null, .int 0, .int 0, .int 0, .int 0]))]) hD hS hA [0] rfl
  refine va_callv (va_runI (As := []) (rest := [.ref h4]) ⟨hx, hb, hml, hown, hts⟩ (ci4 l (dC, dI) cI h4 H.size) (cwI 0 hts (good_ws (fun _ h => h) tcI_4) rfl rfl rfl (hts _ ini_4) (hts _ tlL_9) (hts _ tiI_4) rfl (by decide +kernel) ⟨Nat.le_of_ble_eq_true rfl, Nat.le_of_ble_eq_true rfl⟩) ⟨fun a U g mk q => by obtain ⟨q0, q1, qP, qK, qD, w1, w2, w3⟩ := q; exact ⟨q0, q1, qP, va_K.moved (u := U) (U := U.calling g mk a) (Vm.Alike.refl U.vm) qK, qD, va_Nw.same rfl rfl w1, va_Nw.same rfl rfl w2, va_AO.moved (Vm.Alike.refl U.vm) w3⟩, fun U hU hW => ⟨rfl, by rw [hU], by rw [hU]; exact hP, va_K.moved hW.alike hKc1, hD.weaken (fun _ _ _ _ => trivial), va_Nw.warmM hW hN1, va_Nw.warmM hW hN2, va_AO.moved hW.alike hAO⟩⟩ rfl rfl hl.1 rfl (lv_room (Nat.le_of_ble_eq_true rfl)) dL_law_4 ⟨Nat.le_of_ble_eq_true rfl, Nat.le_of_ble_eq_true rfl⟩) hS (fun q _ h => hFc q h) hFc (fun u t H1 locs ht hvm hw hB hz1 hk1 hS => ?_)
  obtain ⟨q, qa, cO, hq50, hP1, hK1, hD1⟩ := hB
  rw [ht] at hP1
  have hK1 := va_K.moved hvm.symm hK1
  have hKL : va_K (dC, dI) vwCl (tyL cI cZ cO) s := by
    have h := hK.app hK1
    exact h.sub [0, 1, 3] rfl
  subst hq50
  have hP : va_P (dC, dI) vwCl (wB cI cO q qa S00 (fun _ => none)) H1 := hP1
  have hD : va_D (fun q : Nat => s.heap.size ≤ q) (wB cI cO q qa S00 (fun _ => none)) := hD1.weaken (fun _ _ _ h => hFc _ h)
  have hK := hKL
  refine W.widen (k := 28) (n := 1424) (by omega) (by omega) ?_
  refine lv_astore_n (lv' := [(1, .ref (q 50)), (0, .ref b)]) hx hb dL_law_7 rfl hl (by decide) rfl (fun ls hl => ?_)
  refine va_new (ci := 5) (fs := [.null, .null, .null, .int 0, .null, .null, .int 0, .int 0, .int 0, .null, .null, .null, .int 0, .null, .null, .null, .null, .null, .null, .null, .int 0, .int 0, .int 0, .int 0, .int 0, .int 0, .null, .null, .null, .null, .int 0, .int 0, .int 0, .int 0]) (C := RX5) (T := TX5) (N := 34) hx hb hts jX5 tyX5 tyX5_ok hown (hts _ clL_10) (hts _ in_5) (hts _ ini5) hK hP hD hS hA rfl (fun j hj => df_5 j hj) (Nat.le_of_ble_eq_true rfl) (Nat.le_of_ble_eq_true rfl) dL_law_8 (fun h5 H hP hD hS => ?_)
  refine W.widen (k := 29) (n := 1458) (by omega) (by omega) ?_
  refine lv_dup hx hb dL_law_11 rfl ?_
  have hP6 := vP_comm hP
  have hD6 := vD_comm hD
  have hPx := (vP_app.mp hP6).1
  have hDx := (vD_app.mp hD6).1
  have hKr := hK.sub (tys' := tyR cI cZ) [0, 1] rfl
  have hFc : ∀ y, va_A [(h5, .inr (5, [.null, .null, .null, .int 0, .null, .null, .int 0, .int 0, .int 0, .null, .null, .null, .int 0, .null, .null, .null, .null, .null, .null, .null, .int 0, .int 0, .int 0, .int 0, .int 0, .int 0, .null, .null, .null, .null, .int 0, .int 0, .int 0, .int 0]))] H.size y → s.heap.size ≤ y := by
    intro y hy
    rcases hy with ⟨k, e, hk⟩ | hy
    · exact hDx.2 k (y, e) hk
    · exact Nat.le_trans hS.1 hy
  refine va_callv (va_runI (As := []) (rest := [.ref h5]) ⟨hx, hb, hml, hown, hts⟩ (c5_init l (dC, dI) cI cZ h5 H.size) (cwI 0 hts (good_ws (fun _ h => h) tcI_5) rfl rfl rfl (hts _ ini5) (hts _ tlL_12) (hts _ tiI_5) rfl (by decide +kernel) ⟨Nat.le_of_ble_eq_true rfl, Nat.le_of_ble_eq_true rfl⟩) ⟨fun a U g mk q => by obtain ⟨q0, q1, qP, qK, qD⟩ := q; exact ⟨q0, q1, qP, va_K.moved (u := U) (U := U.calling g mk a) (Vm.Alike.refl U.vm) qK, qD⟩, fun U hU hW => ⟨rfl, by rw [hU], by rw [hU]; exact hPx, va_K.moved hW.alike hKr, hDx.weaken (fun _ _ _ _ => trivial)⟩⟩ rfl rfl hl.1 rfl (lv_room (Nat.le_of_ble_eq_true rfl)) dL_law_12 ⟨Nat.le_of_ble_eq_true rfl, Nat.le_of_ble_eq_true rfl⟩) hS (fun q _ h => hFc q h) hFc (fun qr t2 H2 locs ht2 hvm2 hw2 hB2 hz2 hk2 hS => ?_)
  obtain ⟨hP2, hK2, hD2⟩ := hB2
  rw [ht2] at hP2
  obtain ⟨hPj0, hDj0⟩ := jn hP6 hD6 hk2 hFc hP2 hD2
  have hPj := vP_comm hPj0
  have hDj := vD_comm hDj0
  subst hw2
  refine W.widen (k := 48) (n := 68674) (by omega) (by omega) ?_
  refine lv_astore_n (lv' := [(2, .ref (qr 34)), (1, .ref (q 50)), (0, .ref b)]) hx hb dL_law_15 rfl hl (by decide) rfl (fun ls hl => ?_)
  refine lv_iconst (v := nI 0) hx hb dL_law_16 (by decide) ?_
  refine lv_istore_n (lv' := [(3, .int (nI 0)), (2, .ref (qr 34)), (1, .ref (q 50)), (0, .ref b)]) hx hb dL_law_17 rfl hl (by decide) rfl (fun ls hl => ?_)
  have ew : lwW cI cZ cO q qa S00 (fun _ => none) (fun _ => none) (fun _ => (fun _ => 0, fun _ => 0)) qr M0 = wB cI cO q qa S00 (fun _ => none) ++ wR cI cZ qr M0 := by
    rw [lw_0]
    rfl
  have hZ : lZ s (dC, dI) cI cZ cO q qr S00 (fun _ => none) M0 H2 locs := ⟨qa, fun _ => none, fun _ => (fun _ => 0, fun _ => 0), fun x hx => rfl, by rw [ew]; exact hPj, by rw [ew]; exact hDj, hS⟩
  exact law_loop i1 i2 i3 ⟨hx, hb, hml, hown, hts, hX, hbl, hKL, hSF⟩ hr hlocks hL (L + 1) 0 S00 (fun _ => none) M0 H2 locs ls (Nat.zero_le _) (by omega) i0 hZ (lv_sub hl [3, 2, 1, 0] rfl)
