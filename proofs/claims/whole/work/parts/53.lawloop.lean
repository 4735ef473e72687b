set_option maxRecDepth 100000 in
set_option maxHeartbeats 4000000 in
theorem law_loop {p : Program} {l : Launch} {e : Env} {s : State} {m : MethodId} {below : List Frame} {meth : Method} {c : Code} {b L : Nat} {xs : Nat → Int32} {D : va_G} {cI cZ cO : ClassId} {tk : Nat} {q qr : Nat → Nat} {Inv : CS → (Nat → Option CS) → MR → Prop} (h1 : SimOps Inv) (h2 : SimKeep Inv) (h3 : SimRoom Inv) (X : lC p s m meth c b L xs D cI cZ cO tk) (hr : meth.sig.returnType = ret) (hlocks : meth.locks = false) (hL : L ≤ 3072) : ∀ (n i : Nat) (S : CS) (k : Nat → Option CS) (M : MR) (H : Heap) (locs : List Loc) (ls : Array Slot), i ≤ L → L + 1 ≤ i + n → Inv S k M → lZ s D cI cZ cO q qr S k M H locs → lv_has ls 4 [(0, .ref b), (1, .ref (q 50)), (2, .ref (qr 34)), (3, .int (nI i))] → W p l e room_1 s m #[Value.ref b] below meth c H locs (48 + cS S) (68674 + sS S) (lw_Z below #[Value.ref b] s) (F0 m 18 ls []) := by
  have hbA : ¬ (fun x => s.heap.size ≤ x) b := Nat.not_le.mpr X.2.2.2.2.2.2.1
  intro n
  induction n with
  | zero => intro i S k M H locs ls h1 h2; exact absurd h2 (by omega)
  | succ n ih =>
    intro i S k M H locs ls hiL hin hI hz hl
    obtain ⟨_, _, _, _, _, _, hS⟩ := id hz
    refine lv_iload_n X.1 X.2.1 dL_law_18 rfl (lvg_at hl (i := 3) rfl) ?_
    refine lv_aload_n X.1 X.2.1 dL_law_19 rfl (lvg_at hl (i := 0) rfl) ?_
    refine va_slen X.1 X.2.1 X.2.2.2.2.2.1 X.2.2.2.2.2.2.1 hbA hS dL_law_20 ?_
    refine lv_bipush (v := nI 6) X.1 X.2.1 dL_law_21 (by decide) ?_
    refine lv_isub X.1 X.2.1 dL_law_23 ?_
    have hsub : (nI L - nI 6).toInt = (L : Int) - 6 := pk_sub_toInt (a := L) (b := 6) (by omega) (by decide)
    refine lv_icmp_gt (tgt := 788) X.1 X.2.1 dL_law_24 (by decide) (fun hc => ?_) (fun hc => ?_)
    · refine lv_iconst (v := 1) X.1 X.2.1 dL_law_788 (by decide) ?_
      refine va_forget (fun q hq => hS.2.2 q hq) ?_
      have hro := h3 S k M hI
      refine W.widen (k := 600000) (n := 7302250) (by omega) (by omega) ?_
      exact lw_ret X.1 X.2.1 hr hlocks dL_law_789
    · have hi6 : i + 6 ≤ L := by
        have h9 : ¬ (nI L - nI 6).toInt < (nI i).toInt := fun h => hc (Int32.lt_iff_toInt_lt.mpr h)
        rw [hsub, nI_toInt (by omega)] at h9
        omega
      refine lv_aload_n X.1 X.2.1 dL_law_27 rfl (lvg_at hl (i := 0) rfl) ?_
      refine lv_iload_n X.1 X.2.1 dL_law_28 rfl (lvg_at hl (i := 3) rfl) ?_
      refine va_sld X.1 X.2.1 X.2.2.2.2.2.1 X.2.2.2.2.2.2.1 hbA hS (vp_in_nI (by omega) (by omega)) dL_law_29 ?_
      refine lv_bipush (v := nI 31) X.1 X.2.1 dL_law_30 (by decide) ?_
      refine lv_iand X.1 X.2.1 dL_law_32 ?_
      refine lv_topi (fun v _ => ?_)
      have IH : ∀ (S' : CS) (k' : Nat → Option CS) (M' : MR) (H1 : Heap) (locs1 : List Loc), Inv S' k' M' → lZ s D cI cZ cO q qr S' k' M' H1 locs1 → W p l e room_1 s m #[Value.ref b] below meth c H1 locs1 (48 + cS S') (68674 + sS S') (lw_Z below #[Value.ref b] s) (F0 m 782 ls []) := by
        intro S' k' M' H1 locs1 hI' hz'
        refine lv_iinc (v := nI (i + 6)) (lv' := [(3, .int (nI (i + 6))), (0, .ref b), (1, .ref (q 50)), (2, .ref (qr 34))]) X.1 X.2.1 dL_law_782 hl (k := 3) rfl (by rw [← nI_add]; rfl) (by decide) rfl (fun ls hl => ?_)
        refine lv_goto (tgt := 18) X.1 X.2.1 dL_law_785 (by decide) ?_
        exact ih (i + 6) S' k' M' H1 locs1 ls (by omega) (by omega) hI' hz' (lv_sub hl [1, 2, 3, 0] rfl)
      by_cases e0 : v = nI 0
      · refine lv_tableIn (off := 103) (tgt := 136) X.1 X.2.1 dL_law_33 (by rw [e0]; decide) (by rw [e0]; decide) (by rw [e0]; rfl) (by decide) ?_
        exact lop_put h1.1 h3 X hi6 hL hI hz hl IH
      by_cases e1 : v = nI 1
      · refine lv_tableIn (off := 166) (tgt := 199) X.1 X.2.1 dL_law_33 (by rw [e1]; decide) (by rw [e1]; decide) (by rw [e1]; rfl) (by decide) ?_
        exact lop_wipe h1.2.1 h3 X hi6 hL hI hz hl IH
      by_cases e2 : v = nI 2
      · refine lv_tableIn (off := 179) (tgt := 212) X.1 X.2.1 dL_law_33 (by rw [e2]; decide) (by rw [e2]; decide) (by rw [e2]; rfl) (by decide) ?_
        exact lop_cell h1.2.2.1 h3 X hi6 hL hI hz hl IH
      by_cases e3 : v = nI 3
      · refine lv_tableIn (off := 212) (tgt := 245) X.1 X.2.1 dL_law_33 (by rw [e3]; decide) (by rw [e3]; decide) (by rw [e3]; rfl) (by decide) ?_
        exact lop_redo h1.2.2.2.1 h3 X hi6 hL hI hz hl IH
      by_cases e4 : v = nI 4
      · refine lv_tableIn (off := 235) (tgt := 268) X.1 X.2.1 dL_law_33 (by rw [e4]; decide) (by rw [e4]; decide) (by rw [e4]; rfl) (by decide) ?_
        exact lop_rerun h1.2.2.2.2.1 h3 X hi6 hL hI hz hl IH
      by_cases e5 : v = nI 5
      · refine lv_tableIn (off := 258) (tgt := 291) X.1 X.2.1 dL_law_33 (by rw [e5]; decide) (by rw [e5]; decide) (by rw [e5]; rfl) (by decide) ?_
        exact lop_rerunStale h1.2.2.2.2.2.1 h3 X hi6 hL hI hz hl IH
      by_cases e6 : v = nI 6
      · refine lv_tableIn (off := 271) (tgt := 304) X.1 X.2.1 dL_law_33 (by rw [e6]; decide) (by rw [e6]; decide) (by rw [e6]; rfl) (by decide) ?_
        exact lop_forget h1.2.2.2.2.2.2.1 h3 X hi6 hL hI hz hl IH
      by_cases e7 : v = nI 7
      · refine lv_tableIn (off := 294) (tgt := 327) X.1 X.2.1 dL_law_33 (by rw [e7]; decide) (by rw [e7]; decide) (by rw [e7]; rfl) (by decide) ?_
        exact lop_of h1.2.2.2.2.2.2.2.1 h3 X hi6 hL hI hz hl IH
      by_cases e8 : v = nI 8
      · refine lv_tableIn (off := 327) (tgt := 360) X.1 X.2.1 dL_law_33 (by rw [e8]; decide) (by rw [e8]; decide) (by rw [e8]; rfl) (by decide) ?_
        exact lop_leans h1.2.2.2.2.2.2.2.2.1 h3 X hi6 hL hI hz hl IH
      by_cases e9 : v = nI 9
      · refine lv_tableIn (off := 360) (tgt := 393) X.1 X.2.1 dL_law_33 (by rw [e9]; decide) (by rw [e9]; decide) (by rw [e9]; rfl) (by decide) ?_
        exact lop_stale h1.2.2.2.2.2.2.2.2.2.1 h3 X hi6 hL hI hz hl IH
      by_cases e10 : v = nI 10
      · refine lv_tableIn (off := 383) (tgt := 416) X.1 X.2.1 dL_law_33 (by rw [e10]; decide) (by rw [e10]; decide) (by rw [e10]; rfl) (by decide) ?_
        exact lop_written h1.2.2.2.2.2.2.2.2.2.2.1 h3 X hi6 hL hI hz hl IH
      by_cases e11 : v = nI 11
      · refine lv_tableIn (off := 426) (tgt := 459) X.1 X.2.1 dL_law_33 (by rw [e11]; decide) (by rw [e11]; decide) (by rw [e11]; rfl) (by decide) ?_
        exact lop_count h1.2.2.2.2.2.2.2.2.2.2.2.1 h3 X hi6 hL hI hz hl IH
      by_cases e12 : v = nI 12
      · refine lv_tableIn (off := 449) (tgt := 482) X.1 X.2.1 dL_law_33 (by rw [e12]; decide) (by rw [e12]; decide) (by rw [e12]; rfl) (by decide) ?_
        exact lop_newest h1.2.2.2.2.2.2.2.2.2.2.2.2.1 h3 X hi6 hL hI hz hl IH
      by_cases e13 : v = nI 13
      · refine lv_tableIn (off := 472) (tgt := 505) X.1 X.2.1 dL_law_33 (by rw [e13]; decide) (by rw [e13]; decide) (by rw [e13]; rfl) (by decide) ?_
        exact lop_edition h1.2.2.2.2.2.2.2.2.2.2.2.2.2.1 h3 X hi6 hL hI hz hl IH
      by_cases e14 : v = nI 14
      · refine lv_tableIn (off := 505) (tgt := 538) X.1 X.2.1 dL_law_33 (by rw [e14]; decide) (by rw [e14]; decide) (by rw [e14]; rfl) (by decide) ?_
        exact lop_classOf h1.2.2.2.2.2.2.2.2.2.2.2.2.2.2.1 h3 X hi6 hL hI hz hl IH
      by_cases e15 : v = nI 15
      · refine lv_tableIn (off := 528) (tgt := 561) X.1 X.2.1 dL_law_33 (by rw [e15]; decide) (by rw [e15]; decide) (by rw [e15]; rfl) (by decide) ?_
        exact lop_field h1.2.2.2.2.2.2.2.2.2.2.2.2.2.2.2.1 h3 X hi6 hL hI hz hl IH
      by_cases e16 : v = nI 16
      · refine lv_tableIn (off := 571) (tgt := 604) X.1 X.2.1 dL_law_33 (by rw [e16]; decide) (by rw [e16]; decide) (by rw [e16]; rfl) (by decide) ?_
        exact lop_is h1.2.2.2.2.2.2.2.2.2.2.2.2.2.2.2.2.1 h3 X hi6 hL hI hz hl IH
      by_cases e17 : v = nI 17
      · refine lv_tableIn (off := 604) (tgt := 637) X.1 X.2.1 dL_law_33 (by rw [e17]; decide) (by rw [e17]; decide) (by rw [e17]; rfl) (by decide) ?_
        exact lop_call h1.2.2.2.2.2.2.2.2.2.2.2.2.2.2.2.2.2.1 h3 X hi6 hL hI hz hl IH
      by_cases e18 : v = nI 18
      · refine lv_tableIn (off := 647) (tgt := 680) X.1 X.2.1 dL_law_33 (by rw [e18]; decide) (by rw [e18]; decide) (by rw [e18]; rfl) (by decide) ?_
        exact lop_came h1.2.2.2.2.2.2.2.2.2.2.2.2.2.2.2.2.2.2.1 h3 X hi6 hL hI hz hl IH
      by_cases e19 : v = nI 19
      · refine lv_tableIn (off := 670) (tgt := 703) X.1 X.2.1 dL_law_33 (by rw [e19]; decide) (by rw [e19]; decide) (by rw [e19]; rfl) (by decide) ?_
        exact lop_convert h1.2.2.2.2.2.2.2.2.2.2.2.2.2.2.2.2.2.2.2 h3 X hi6 hL hI hz hl IH
      by_cases e20 : v = nI 20
      · refine lv_tableIn (off := 703) (tgt := 736) X.1 X.2.1 dL_law_33 (by rw [e20]; decide) (by rw [e20]; decide) (by rw [e20]; rfl) (by decide) ?_
        exact lop_keep h2 h3 X hi6 hL hI hz hl IH
      by_cases e21 : v = nI 21
      · refine lv_tableIn (off := 726) (tgt := 759) X.1 X.2.1 dL_law_33 (by rw [e21]; decide) (by rw [e21]; decide) (by rw [e21]; rfl) (by decide) ?_
        exact lop_back h2 h3 X hi6 hL hI hz hl IH
      have t0 := tn_i (n := 0) e0 (by decide)
      have t1 := tn_i (n := 1) e1 (by decide)
      have t2 := tn_i (n := 2) e2 (by decide)
      have t3 := tn_i (n := 3) e3 (by decide)
      have t4 := tn_i (n := 4) e4 (by decide)
      have t5 := tn_i (n := 5) e5 (by decide)
      have t6 := tn_i (n := 6) e6 (by decide)
      have t7 := tn_i (n := 7) e7 (by decide)
      have t8 := tn_i (n := 8) e8 (by decide)
      have t9 := tn_i (n := 9) e9 (by decide)
      have t10 := tn_i (n := 10) e10 (by decide)
      have t11 := tn_i (n := 11) e11 (by decide)
      have t12 := tn_i (n := 12) e12 (by decide)
      have t13 := tn_i (n := 13) e13 (by decide)
      have t14 := tn_i (n := 14) e14 (by decide)
      have t15 := tn_i (n := 15) e15 (by decide)
      have t16 := tn_i (n := 16) e16 (by decide)
      have t17 := tn_i (n := 17) e17 (by decide)
      have t18 := tn_i (n := 18) e18 (by decide)
      have t19 := tn_i (n := 19) e19 (by decide)
      have t20 := tn_i (n := 20) e20 (by decide)
      have t21 := tn_i (n := 21) e21 (by decide)
      refine lv_tableOut (tgt := 782) X.1 X.2.1 dL_law_33 (by omega) (by decide) ?_
      exact IH S k M H locs hI hz
