theorem dX4_keep_0 : decode cX4_keep 0 = .ok (.iload_n 1, 1) := by decide +kernel
theorem dX4_keep_1 : decode cX4_keep 1 = .ok (.ifCond .lt 8, 3) := by decide +kernel
theorem dX4_keep_4 : decode cX4_keep 4 = .ok (.iload_n 1, 1) := by decide +kernel
theorem dX4_keep_5 : decode cX4_keep 5 = .ok (.iconst 2, 1) := by decide +kernel
theorem dX4_keep_6 : decode cX4_keep 6 = .ok (.if_icmp .lt 5, 3) := by decide +kernel
theorem dX4_keep_9 : decode cX4_keep 9 = .ok (.iconst 0, 1) := by decide +kernel
theorem dX4_keep_10 : decode cX4_keep 10 = .ok (.ireturn, 1) := by decide +kernel
theorem dX4_keep_11 : decode cX4_keep 11 = .ok (.aload_n 0, 1) := by decide +kernel
theorem dX4_keep_12 : decode cX4_keep 12 = .ok (.getfield 40, 3) := by decide +kernel
theorem dX4_keep_15 : decode cX4_keep 15 = .ok (.iload_n 1, 1) := by decide +kernel
theorem dX4_keep_16 : decode cX4_keep 16 = .ok (.aaload, 1) := by decide +kernel
theorem dX4_keep_17 : decode cX4_keep 17 = .ok (.astore_n 2, 1) := by decide +kernel
theorem dX4_keep_18 : decode cX4_keep 18 = .ok (.aload_n 2, 1) := by decide +kernel
theorem dX4_keep_19 : decode cX4_keep 19 = .ok (.ifnonnull 18, 3) := by decide +kernel
theorem dX4_keep_22 : decode cX4_keep 22 = .ok (.new 38, 3) := by decide +kernel
theorem dX4_keep_25 : decode cX4_keep 25 = .ok (.dup, 1) := by decide +kernel
theorem dX4_keep_26 : decode cX4_keep 26 = .ok (.invokespecial 180, 3) := by decide +kernel
theorem dX4_keep_29 : decode cX4_keep 29 = .ok (.astore_n 2, 1) := by decide +kernel
theorem dX4_keep_30 : decode cX4_keep 30 = .ok (.aload_n 0, 1) := by decide +kernel
theorem dX4_keep_31 : decode cX4_keep 31 = .ok (.getfield 40, 3) := by decide +kernel
theorem dX4_keep_34 : decode cX4_keep 34 = .ok (.iload_n 1, 1) := by decide +kernel
theorem dX4_keep_35 : decode cX4_keep 35 = .ok (.aload_n 2, 1) := by decide +kernel
theorem dX4_keep_36 : decode cX4_keep 36 = .ok (.aastore, 1) := by decide +kernel
theorem dX4_keep_37 : decode cX4_keep 37 = .ok (.aload_n 2, 1) := by decide +kernel
theorem dX4_keep_38 : decode cX4_keep 38 = .ok (.aload_n 0, 1) := by decide +kernel
theorem dX4_keep_39 : decode cX4_keep 39 = .ok (.getfield 35, 3) := by decide +kernel
theorem dX4_keep_42 : decode cX4_keep 42 = .ok (.invokevirtual 181, 3) := by decide +kernel
theorem dX4_keep_45 : decode cX4_keep 45 = .ok (.iconst 1, 1) := by decide +kernel
theorem dX4_keep_46 : decode cX4_keep 46 = .ok (.ireturn, 1) := by decide +kernel
theorem dX4_back_0 : decode cX4_back 0 = .ok (.iload_n 1, 1) := by decide +kernel
theorem dX4_back_1 : decode cX4_back 1 = .ok (.ifCond .lt 8, 3) := by decide +kernel
theorem dX4_back_4 : decode cX4_back 4 = .ok (.iload_n 1, 1) := by decide +kernel
theorem dX4_back_5 : decode cX4_back 5 = .ok (.iconst 2, 1) := by decide +kernel
theorem dX4_back_6 : decode cX4_back 6 = .ok (.if_icmp .lt 5, 3) := by decide +kernel
theorem dX4_back_9 : decode cX4_back 9 = .ok (.iconst 0, 1) := by decide +kernel
theorem dX4_back_10 : decode cX4_back 10 = .ok (.ireturn, 1) := by decide +kernel
theorem dX4_back_11 : decode cX4_back 11 = .ok (.aload_n 0, 1) := by decide +kernel
theorem dX4_back_12 : decode cX4_back 12 = .ok (.getfield 40, 3) := by decide +kernel
theorem dX4_back_15 : decode cX4_back 15 = .ok (.iload_n 1, 1) := by decide +kernel
theorem dX4_back_16 : decode cX4_back 16 = .ok (.aaload, 1) := by decide +kernel
theorem dX4_back_17 : decode cX4_back 17 = .ok (.astore_n 2, 1) := by decide +kernel
theorem dX4_back_18 : decode cX4_back 18 = .ok (.aload_n 2, 1) := by decide +kernel
theorem dX4_back_19 : decode cX4_back 19 = .ok (.ifnonnull 5, 3) := by decide +kernel
theorem dX4_back_22 : decode cX4_back 22 = .ok (.iconst 0, 1) := by decide +kernel
theorem dX4_back_23 : decode cX4_back 23 = .ok (.ireturn, 1) := by decide +kernel
theorem dX4_back_24 : decode cX4_back 24 = .ok (.aload_n 0, 1) := by decide +kernel
theorem dX4_back_25 : decode cX4_back 25 = .ok (.getfield 35, 3) := by decide +kernel
theorem dX4_back_28 : decode cX4_back 28 = .ok (.aload_n 2, 1) := by decide +kernel
theorem dX4_back_29 : decode cX4_back 29 = .ok (.invokevirtual 181, 3) := by decide +kernel
theorem dX4_back_32 : decode cX4_back 32 = .ok (.iconst 1, 1) := by decide +kernel
theorem dX4_back_33 : decode cX4_back 33 = .ok (.ireturn, 1) := by decide +kernel
theorem tc0_copyFrom : Cond.code yX0_copyFrom cX0_copyFrom 2 none ∈ tt := tt_in (by decide +kernel) (by decide +kernel)
theorem ti0_copyFrom : Cond.instanceMethod yX0_copyFrom ∈ tt := tt_in (by decide +kernel) (by decide +kernel)
theorem te0_copyFrom : Cond.selects RX0 yX0_copyFrom yX0_copyFrom ∈ tt := tt_in (by decide +kernel) (by decide +kernel)
theorem tlX4_181 : Cond.methodLink RX4 181 yX0_copyFrom ∈ tt := tt_in (by decide +kernel) (by decide +kernel)
abbrev tyO (cI cO : ClassId) : List (ClassId × FieldType) := [(cI, .int), (cO, .object "EditionBook$Image")]
set_option maxRecDepth 100000 in
set_option maxHeartbeats 4000000 in
theorem cbad_keep (l : Launch) (D : va_G) (cI cO : ClassId) (q qa : Nat → Nat) (S : CS) (f : Nat → Option Nat) (x1 : Int32) (hbad : x1 < 0 ∨ ¬ x1 < nI 2) (sz : Nat) : Met l yX4_keep (wsM yX4_keep cX4_keep 3 (some .boolean)) (rmC 3 80 0 0) (va_Pc [.ref (q 50), .int x1] (fun U => U.heap.size = sz ∧ va_P D vwCl (wB cI cO q qa S f) U.heap ∧ va_K D vwCl (tyO cI cO) U ∧ va_D (fun _ => True) (wB cI cO q qa S f))) (va_Qi (fun (v : Int32) (_ : Unit) => v = 0) (fun _ t => va_P D vwCl (wB cI cO q qa S f) t.heap ∧ va_K D vwCl (tyO cI cO) t ∧ va_D (va_A (wB cI cO q qa S f) sz) (wB cI cO q qa S f)) (va_A (wB cI cO q qa S f) sz)) 0 0 (va_A (wB cI cO q qa S f) sz) := by
  refine Met.ofW (cc := cX4_keep) (maxL := 3) (ret := some .boolean) (by decide) rfl ?_
  intro p e s m args below meth c s₁ B hml hv
  obtain ⟨rfl, hsz, hP, hK, hD0⟩ := hv
  have hx := B.exec
  have hb := B.bytes
  have hr := B.returns
  have hts : ∀ w ∈ tt, w.before ([.ref (q 50), .int x1] : List Value).toArray s = true := fun w hw => atoms_spec (ws := wsM yX4_keep cX4_keep 3 (some .boolean)) B.pre w (List.mem_cons_of_mem _ hw)
  have hown : s.vm.findClass RX4 = some m.cls := findClass_of_methodNamed B.named
  have hlocks := B.notSynchronized
  subst hsz
  have hD := hD0.self (sz := s.heap.size)
  generalize hAe : va_A (wB cI cO q qa S f) s.heap.size = A at hD ⊢
  have hA : ∀ q : Nat, s.heap.size ≤ q → A q := fun q h => by rw [← hAe]; exact Or.inr h
  have hS : va_S A s.heap s.heap [] := va_S.rf
  have hl := lv_entry [.ref (q 50), .int x1] (n := 3) (Nat.le_of_ble_eq_true rfl)
  rw [lg_entry_eq]
  generalize (lg_sl ([.ref (q 50), .int x1] : List Value) ++ List.replicate (3 - (lg_sl ([.ref (q 50), .int x1] : List Value)).length) Slot.unset).toArray = ls at hl ⊢
  have hl : lv_has ls 3 [(0, .ref (q 50)), (1, .int x1)] := hl
  refine lv_iload_n hx hb dX4_keep_0 rfl (lvg_at hl (i := 1) rfl) ?_
  refine lv_if_lt (tgt := 9) hx hb dX4_keep_1 (by decide) (fun _ => ?_) (fun h0 => ?_)
  · refine lv_iconst (v := 0) hx hb dX4_keep_9 (by decide) ?_
    exact W.zret (v := 0) hx hb hr (by decide) (fun t ht hW => ⟨⟨0, (), rfl, rfl, by rw [ht]; exact hP, va_K.moved hW.alike hK, hD⟩, hS.F ht⟩) hS.2.2 dX4_keep_10
  · refine lv_iload_n hx hb dX4_keep_4 rfl (lvg_at hl (i := 1) rfl) ?_
    refine lv_iconst (v := nI 2) hx hb dX4_keep_5 (by decide) ?_
    refine lv_icmp_lt (tgt := 11) hx hb dX4_keep_6 (by decide) (fun h2 => absurd h2 (fun h2 => hbad.elim h0 (fun h => h h2))) (fun _ => ?_)
    refine lv_iconst (v := 0) hx hb dX4_keep_9 (by decide) ?_
    exact W.zret (v := 0) hx hb hr (by decide) (fun t ht hW => ⟨⟨0, (), rfl, rfl, by rw [ht]; exact hP, va_K.moved hW.alike hK, hD⟩, hS.F ht⟩) hS.2.2 dX4_keep_10

set_option maxRecDepth 100000 in
set_option maxHeartbeats 4000000 in
theorem cbad_back (l : Launch) (D : va_G) (cI cO : ClassId) (q qa : Nat → Nat) (S : CS) (f : Nat → Option Nat) (x1 : Int32) (hbad : x1 < 0 ∨ ¬ x1 < nI 2) (sz : Nat) : Met l yX4_back (wsM yX4_back cX4_back 3 (some .boolean)) (rmC 3 80 0 0) (va_Pc [.ref (q 50), .int x1] (fun U => U.heap.size = sz ∧ va_P D vwCl (wB cI cO q qa S f) U.heap ∧ va_K D vwCl (tyO cI cO) U ∧ va_D (fun _ => True) (wB cI cO q qa S f))) (va_Qi (fun (v : Int32) (_ : Unit) => v = 0) (fun _ t => va_P D vwCl (wB cI cO q qa S f) t.heap ∧ va_K D vwCl (tyO cI cO) t ∧ va_D (va_A (wB cI cO q qa S f) sz) (wB cI cO q qa S f)) (va_A (wB cI cO q qa S f) sz)) 0 0 (va_A (wB cI cO q qa S f) sz) := by
  refine Met.ofW (cc := cX4_back) (maxL := 3) (ret := some .boolean) (by decide) rfl ?_
  intro p e s m args below meth c s₁ B hml hv
  obtain ⟨rfl, hsz, hP, hK, hD0⟩ := hv
  have hx := B.exec
  have hb := B.bytes
  have hr := B.returns
  have hts : ∀ w ∈ tt, w.before ([.ref (q 50), .int x1] : List Value).toArray s = true := fun w hw => atoms_spec (ws := wsM yX4_back cX4_back 3 (some .boolean)) B.pre w (List.mem_cons_of_mem _ hw)
  have hown : s.vm.findClass RX4 = some m.cls := findClass_of_methodNamed B.named
  have hlocks := B.notSynchronized
  subst hsz
  have hD := hD0.self (sz := s.heap.size)
  generalize hAe : va_A (wB cI cO q qa S f) s.heap.size = A at hD ⊢
  have hA : ∀ q : Nat, s.heap.size ≤ q → A q := fun q h => by rw [← hAe]; exact Or.inr h
  have hS : va_S A s.heap s.heap [] := va_S.rf
  have hl := lv_entry [.ref (q 50), .int x1] (n := 3) (Nat.le_of_ble_eq_true rfl)
  rw [lg_entry_eq]
  generalize (lg_sl ([.ref (q 50), .int x1] : List Value) ++ List.replicate (3 - (lg_sl ([.ref (q 50), .int x1] : List Value)).length) Slot.unset).toArray = ls at hl ⊢
  have hl : lv_has ls 3 [(0, .ref (q 50)), (1, .int x1)] := hl
  refine lv_iload_n hx hb dX4_back_0 rfl (lvg_at hl (i := 1) rfl) ?_
  refine lv_if_lt (tgt := 9) hx hb dX4_back_1 (by decide) (fun _ => ?_) (fun h0 => ?_)
  · refine lv_iconst (v := 0) hx hb dX4_back_9 (by decide) ?_
    exact W.zret (v := 0) hx hb hr (by decide) (fun t ht hW => ⟨⟨0, (), rfl, rfl, by rw [ht]; exact hP, va_K.moved hW.alike hK, hD⟩, hS.F ht⟩) hS.2.2 dX4_back_10
  · refine lv_iload_n hx hb dX4_back_4 rfl (lvg_at hl (i := 1) rfl) ?_
    refine lv_iconst (v := nI 2) hx hb dX4_back_5 (by decide) ?_
    refine lv_icmp_lt (tgt := 11) hx hb dX4_back_6 (by decide) (fun h2 => absurd h2 (fun h2 => hbad.elim h0 (fun h => h h2))) (fun _ => ?_)
    refine lv_iconst (v := 0) hx hb dX4_back_9 (by decide) ?_
    exact W.zret (v := 0) hx hb hr (by decide) (fun t ht hW => ⟨⟨0, (), rfl, rfl, by rw [ht]; exact hP, va_K.moved hW.alike hK, hD⟩, hS.F ht⟩) hS.2.2 dX4_back_10

set_option maxRecDepth 100000 in
set_option maxHeartbeats 4000000 in
theorem ckeepE (l : Launch) (D : va_G) (cI cO : ClassId) (q qa : Nat → Nat) (S : CS) (f : Nat → Option Nat) (pl : Nat) (hpl2 : pl < 2) (qi qai : Nat → Nat) (I : CS) (hf : f pl = some (qi 53)) (r5 r6 r7 : Nat) (h55 : I.1 55 0 = nI 125) (g55 : S.1 55 0 = nI 125) (hr5 : S.1 45 0 = nI r5) (he5 : cu 5 125 S = r5 * 125) (hu5 : r5 * 125 ≤ S.2 15) (hi5 : I.2 15 < 134217728) (hj5 : S.2 15 < 134217728) (h56 : I.1 56 0 = nI 104) (g56 : S.1 56 0 = nI 104) (hr6 : S.1 46 0 = nI r6) (he6 : cu 6 104 S = r6 * 104) (hu6 : r6 * 104 ≤ S.2 16) (hi6 : I.2 16 < 134217728) (hj6 : S.2 16 < 134217728) (h57 : I.1 57 0 = nI 21) (g57 : S.1 57 0 = nI 21) (hr7 : S.1 47 0 = nI r7) (he7 : cu 7 21 S = r7 * 21) (hu7 : r7 * 21 ≤ S.2 17) (hi7 : I.2 17 < 134217728) (hj7 : S.2 17 < 134217728) (sz : Nat) : Met l yX4_keep (wsM yX4_keep cX4_keep 3 (some .boolean)) (rmC 3 80 (gk (r5 * 125) (I.2 15) + gk (r6 * 104) (I.2 16) + gk (r7 * 21) (I.2 17)) (gs (r5 * 125) (I.2 15) (S.2 15) + gs (r6 * 104) (I.2 16) (S.2 16) + gs (r7 * 21) (I.2 17) (S.2 17))) (va_Pc [.ref (q 50), .int (nI pl)] (fun U => U.heap.size = sz ∧ va_P D vwCl (wB cI cO q qa S f ++ wI cI qi qai I) U.heap ∧ va_K D vwCl (tyO cI cO) U ∧ va_D (fun _ => True) (wB cI cO q qa S f ++ wI cI qi qai I))) (va_Qi (fun (v : Int32) (_ : Unit) => v = 1) (fun _ t => ∃ qb : Nat → Nat, va_P D vwCl (wB cI cO q qa S f ++ wI cI qi qb (cpI I S)) t.heap ∧ va_K D vwCl (tyO cI cO) t ∧ va_D (va_A (wB cI cO q qa S f ++ wI cI qi qai I) sz) (wB cI cO q qa S f ++ wI cI qi qb (cpI I S))) (va_A (wB cI cO q qa S f ++ wI cI qi qai I) sz)) (gk (r5 * 125) (I.2 15) + gk (r6 * 104) (I.2 16) + gk (r7 * 21) (I.2 17)) (gs (r5 * 125) (I.2 15) (S.2 15) + gs (r6 * 104) (I.2 16) (S.2 16) + gs (r7 * 21) (I.2 17) (S.2 17)) (va_A (wB cI cO q qa S f ++ wI cI qi qai I) sz) := by
  refine Met.ofW (cc := cX4_keep) (maxL := 3) (ret := some .boolean) (by decide) rfl ?_
  intro p e s m args below meth c s₁ B hml hv
  obtain ⟨rfl, hsz, hP, hK, hD0⟩ := hv
  have hx := B.exec
  have hb := B.bytes
  have hr := B.returns
  have hts : ∀ w ∈ tt, w.before ([.ref (q 50), .int (nI pl)] : List Value).toArray s = true := fun w hw => atoms_spec (ws := wsM yX4_keep cX4_keep 3 (some .boolean)) B.pre w (List.mem_cons_of_mem _ hw)
  have hown : s.vm.findClass RX4 = some m.cls := findClass_of_methodNamed B.named
  have hlocks := B.notSynchronized
  subst hsz
  have hD := hD0.self (sz := s.heap.size)
  generalize hAe : va_A (wB cI cO q qa S f ++ wI cI qi qai I) s.heap.size = A at hD ⊢
  have hA : ∀ q : Nat, s.heap.size ≤ q → A q := fun q h => by rw [← hAe]; exact Or.inr h
  have hS : va_S A s.heap s.heap [] := va_S.rf
  have hl := lv_entry [.ref (q 50), .int (nI pl)] (n := 3) (Nat.le_of_ble_eq_true rfl)
  rw [lg_entry_eq]
  generalize (lg_sl ([.ref (q 50), .int (nI pl)] : List Value) ++ List.replicate (3 - (lg_sl ([.ref (q 50), .int (nI pl)] : List Value)).length) Slot.unset).toArray = ls at hl ⊢
  have hl : lv_has ls 3 [(0, .ref (q 50)), (1, .int (nI pl))] := hl
  have hpl : (nI pl).toNatClampNeg = pl := nI_clamp (by omega)
  refine lv_iload_n hx hb dX4_keep_0 rfl (lvg_at hl (i := 1) rfl) ?_
  refine lv_if_lt (tgt := 9) hx hb dX4_keep_1 (by decide) (fun h => absurd h (nI_pos (by omega))) (fun _ => ?_)
  refine lv_iload_n hx hb dX4_keep_4 rfl (lvg_at hl (i := 1) rfl) ?_
  refine lv_iconst (v := nI 2) hx hb dX4_keep_5 (by decide) ?_
  refine lv_icmp_lt (tgt := 11) hx hb dX4_keep_6 (by decide) (fun _ => ?_) (fun h => absurd (nI_lt (by omega) (by omega)) h)
  refine lv_aload_n hx hb dX4_keep_11 rfl (lvg_at hl (i := 0) rfl) ?_
  refine va_get (D := D) (ci := 4) (v := .ref (q 54)) (C := RX4) (T := TX4) (N := 10) hx hb hts jX_4 hown hK hP 0 rfl rfl 5 (by decide) (hts _ fl4_40) (fun _ h9 => h9) rfl dX4_keep_12 ?_
  refine lv_iload_n hx hb dX4_keep_15 rfl (lvg_at hl (i := 1) rfl) ?_
  refine va_aldq hx hb hK hP 27 1 rfl rfl (vp_in_nI hpl2 (by decide)) dX4_keep_16 ?_
  rw [hpl, hf]
  refine lv_astore_n (lv' := [(2, .ref (qi 53)), (0, .ref (q 50)), (1, .int (nI pl))]) hx hb dX4_keep_17 rfl hl (by decide) rfl (fun ls hl => ?_)
  refine lv_aload_n hx hb dX4_keep_18 rfl (lvg_at hl (i := 2) rfl) ?_
  refine lv_ifnonnull (tgt := 37) hx hb dX4_keep_19 (by decide) ?_
  refine lv_aload_n hx hb dX4_keep_37 rfl (lvg_at hl (i := 2) rfl) ?_
  refine lv_aload_n hx hb dX4_keep_38 rfl (lvg_at hl (i := 0) rfl) ?_
  refine va_get (D := D) (ci := 4) (v := .ref (q 53)) (C := RX4) (T := TX4) (N := 10) hx hb hts jX_4 hown hK hP 0 rfl rfl 4 (by decide) (hts _ fl4_35) (fun _ h9 => h9) rfl dX4_keep_39 ?_
  have hcells : 0 + (gk (r5 * 125) (I.2 15) + gk (r6 * 104) (I.2 16) + gk (r7 * 21) (I.2 17)) ≤ (gk (r5 * 125) (I.2 15) + gk (r6 * 104) (I.2 16) + gk (r7 * 21) (I.2 17)) := by omega
  have hslots : 0 + (gs (r5 * 125) (I.2 15) (S.2 15) + gs (r6 * 104) (I.2 16) (S.2 16) + gs (r7 * 21) (I.2 17) (S.2 17)) ≤ (gs (r5 * 125) (I.2 15) (S.2 15) + gs (r6 * 104) (I.2 16) (S.2 16) + gs (r7 * 21) (I.2 17) (S.2 17)) := by omega
  have hPc : va_P D vwCl (wI cI qi qai I ++ wI cI q qa S) s.heap := hP.sub [28, 29, 30, 31, 32, 33, 34, 35, 9, 10, 21, 22, 23, 24, 25, 26] rfl
  have hDc : va_D A (wI cI qi qai I ++ wI cI q qa S) := hD.sub [28, 29, 30, 31, 32, 33, 34, 35, 9, 10, 21, 22, 23, 24, 25, 26] (by decide) rfl
  have hK1 := hK.sub (tys' := tyC cI) [0] rfl
  have hFc := va_free (wc := (wI cI qi qai I ++ wI cI q qa S)) hD hS hA [28, 29, 30, 31, 32, 33, 34, 35, 9, 10, 21, 22, 23, 24, 25, 26] rfl
  refine va_callv (va_runV (As := [.ref (q 53)]) (rest := []) ⟨hx, hb, hml, hown, hts⟩ (cim l D cI qi qai q qa I S r5 r6 r7 h55 g55 hr5 he5 hu5 hi5 hj5 h56 g56 hr6 he6 hu6 hi6 hj6 h57 g57 hr7 he7 hu7 hi7 hj7 s.heap.size) (cwVC (fr := 3) (lo := 80) (k := 1) hts tlX4_181 ti0_copyFrom te0_copyFrom tc0_copyFrom ini_0 (by decide +kernel) ⟨by decide, by decide⟩ _ _ _ _) ⟨fun a U g mk q => by obtain ⟨q0, q1, qP, qK, qD⟩ := q; exact ⟨q0, q1, qP, va_K.moved (u := U) (U := U.calling g mk a) (Vm.Alike.refl U.vm) qK, qD⟩, va_recv hK1 hPc (ci := 0) (q0 := 0) rfl rfl, fun U hU hW => ⟨rfl, by rw [hU], by rw [hU]; exact hPc, va_K.moved hW.alike hK1, hDc.weaken (fun _ _ _ _ => trivial)⟩⟩ rfl rfl hl.1 rfl (lv_room (Nat.le_of_ble_eq_true rfl)) dX4_keep_42 ⟨hcells, hslots⟩) hS (fun q _ h => hFc q h) hFc (fun u t H1 locs ht hvm hw hB hz1 hk1 hS => ?_)
  obtain ⟨qb, hP1, _, hD1⟩ := hB
  rw [ht] at hP1
  obtain ⟨hP, hD⟩ := va_join (wr := ([0, 1, 2, 3, 4, 5, 6, 7, 8, 11, 12, 13, 14, 15, 16, 17, 18, 19, 20, 27] : List Nat).filterMap (fun i => (wB cI cO q qa S f ++ wI cI qi qai I)[i]?)) (w1 := wI cI qi qb (cpI I S) ++ wI cI q qa S) hP hD [28, 29, 30, 31, 32, 33, 34, 35, 9, 10, 21, 22, 23, 24, 25, 26] [0, 1, 2, 3, 4, 5, 6, 7, 8, 11, 12, 13, 14, 15, 16, 17, 18, 19, 20, 27] rfl rfl (by decide) (by decide) hk1 hFc hP1 hD1
  generalize H1 = H at hP hS ⊢
  have hP : va_P D vwCl (wB cI cO q qa S f ++ wI cI qi qb (cpI I S)) H := hP.sub [0, 1, 2, 3, 4, 5, 6, 7, 8, 28, 29, 9, 10, 11, 12, 13, 14, 15, 16, 17, 18, 30, 31, 32, 33, 34, 35, 19, 20, 21, 22, 23, 24, 25, 26, 27] rfl
  have hD : va_D A (wB cI cO q qa S f ++ wI cI qi qb (cpI I S)) := hD.sub [0, 1, 2, 3, 4, 5, 6, 7, 8, 28, 29, 9, 10, 11, 12, 13, 14, 15, 16, 17, 18, 30, 31, 32, 33, 34, 35, 19, 20, 21, 22, 23, 24, 25, 26, 27] (by decide) rfl
  refine lv_iconst (v := 1) hx hb dX4_keep_45 (by decide) ?_
  refine W.widen (k := (gk (r5 * 125) (I.2 15) + gk (r6 * 104) (I.2 16) + gk (r7 * 21) (I.2 17))) (n := (gs (r5 * 125) (I.2 15) (S.2 15) + gs (r6 * 104) (I.2 16) (S.2 16) + gs (r7 * 21) (I.2 17) (S.2 17))) (by omega) (by omega) ?_
  exact W.zret (v := 1) hx hb hr (by decide) (fun t ht hW => ⟨⟨1, (), rfl, rfl, qb, by rw [ht]; exact hP, va_K.moved hW.alike hK, hD⟩, hS.F ht⟩) hS.2.2 dX4_keep_46

set_option maxRecDepth 100000 in
set_option maxHeartbeats 4000000 in
theorem cbackE (l : Launch) (D : va_G) (cI cO : ClassId) (q qa : Nat → Nat) (S : CS) (f : Nat → Option Nat) (pl : Nat) (hpl2 : pl < 2) (qi qai : Nat → Nat) (I : CS) (hf : f pl = some (qi 53)) (r5 r6 r7 : Nat) (h55 : S.1 55 0 = nI 125) (g55 : I.1 55 0 = nI 125) (hr5 : I.1 45 0 = nI r5) (he5 : cu 5 125 I = r5 * 125) (hu5 : r5 * 125 ≤ I.2 15) (hi5 : S.2 15 < 134217728) (hj5 : I.2 15 < 134217728) (h56 : S.1 56 0 = nI 104) (g56 : I.1 56 0 = nI 104) (hr6 : I.1 46 0 = nI r6) (he6 : cu 6 104 I = r6 * 104) (hu6 : r6 * 104 ≤ I.2 16) (hi6 : S.2 16 < 134217728) (hj6 : I.2 16 < 134217728) (h57 : S.1 57 0 = nI 21) (g57 : I.1 57 0 = nI 21) (hr7 : I.1 47 0 = nI r7) (he7 : cu 7 21 I = r7 * 21) (hu7 : r7 * 21 ≤ I.2 17) (hi7 : S.2 17 < 134217728) (hj7 : I.2 17 < 134217728) (sz : Nat) : Met l yX4_back (wsM yX4_back cX4_back 3 (some .boolean)) (rmC 3 80 (gk (r5 * 125) (S.2 15) + gk (r6 * 104) (S.2 16) + gk (r7 * 21) (S.2 17)) (gs (r5 * 125) (S.2 15) (I.2 15) + gs (r6 * 104) (S.2 16) (I.2 16) + gs (r7 * 21) (S.2 17) (I.2 17))) (va_Pc [.ref (q 50), .int (nI pl)] (fun U => U.heap.size = sz ∧ va_P D vwCl (wB cI cO q qa S f ++ wI cI qi qai I) U.heap ∧ va_K D vwCl (tyO cI cO) U ∧ va_D (fun _ => True) (wB cI cO q qa S f ++ wI cI qi qai I))) (va_Qi (fun (v : Int32) (_ : Unit) => v = 1) (fun _ t => ∃ qb : Nat → Nat, va_P D vwCl (wB cI cO q qb (cpI S I) f ++ wI cI qi qai I) t.heap ∧ va_K D vwCl (tyO cI cO) t ∧ va_D (va_A (wB cI cO q qa S f ++ wI cI qi qai I) sz) (wB cI cO q qb (cpI S I) f ++ wI cI qi qai I)) (va_A (wB cI cO q qa S f ++ wI cI qi qai I) sz)) (gk (r5 * 125) (S.2 15) + gk (r6 * 104) (S.2 16) + gk (r7 * 21) (S.2 17)) (gs (r5 * 125) (S.2 15) (I.2 15) + gs (r6 * 104) (S.2 16) (I.2 16) + gs (r7 * 21) (S.2 17) (I.2 17)) (va_A (wB cI cO q qa S f ++ wI cI qi qai I) sz) := by
  refine Met.ofW (cc := cX4_back) (maxL := 3) (ret := some .boolean) (by decide) rfl ?_
  intro p e s m args below meth c s₁ B hml hv
  obtain ⟨rfl, hsz, hP, hK, hD0⟩ := hv
  have hx := B.exec
  have hb := B.bytes
  have hr := B.returns
  have hts : ∀ w ∈ tt, w.before ([.ref (q 50), .int (nI pl)] : List Value).toArray s = true := fun w hw => atoms_spec (ws := wsM yX4_back cX4_back 3 (some .boolean)) B.pre w (List.mem_cons_of_mem _ hw)
  have hown : s.vm.findClass RX4 = some m.cls := findClass_of_methodNamed B.named
  have hlocks := B.notSynchronized
  subst hsz
  have hD := hD0.self (sz := s.heap.size)
  generalize hAe : va_A (wB cI cO q qa S f ++ wI cI qi qai I) s.heap.size = A at hD ⊢
  have hA : ∀ q : Nat, s.heap.size ≤ q → A q := fun q h => by rw [← hAe]; exact Or.inr h
  have hS : va_S A s.heap s.heap [] := va_S.rf
  have hl := lv_entry [.ref (q 50), .int (nI pl)] (n := 3) (Nat.le_of_ble_eq_true rfl)
  rw [lg_entry_eq]
  generalize (lg_sl ([.ref (q 50), .int (nI pl)] : List Value) ++ List.replicate (3 - (lg_sl ([.ref (q 50), .int (nI pl)] : List Value)).length) Slot.unset).toArray = ls at hl ⊢
  have hl : lv_has ls 3 [(0, .ref (q 50)), (1, .int (nI pl))] := hl
  have hpl : (nI pl).toNatClampNeg = pl := nI_clamp (by omega)
  refine lv_iload_n hx hb dX4_back_0 rfl (lvg_at hl (i := 1) rfl) ?_
  refine lv_if_lt (tgt := 9) hx hb dX4_back_1 (by decide) (fun h => absurd h (nI_pos (by omega))) (fun _ => ?_)
  refine lv_iload_n hx hb dX4_back_4 rfl (lvg_at hl (i := 1) rfl) ?_
  refine lv_iconst (v := nI 2) hx hb dX4_back_5 (by decide) ?_
  refine lv_icmp_lt (tgt := 11) hx hb dX4_back_6 (by decide) (fun _ => ?_) (fun h => absurd (nI_lt (by omega) (by omega)) h)
  refine lv_aload_n hx hb dX4_back_11 rfl (lvg_at hl (i := 0) rfl) ?_
  refine va_get (D := D) (ci := 4) (v := .ref (q 54)) (C := RX4) (T := TX4) (N := 10) hx hb hts jX_4 hown hK hP 0 rfl rfl 5 (by decide) (hts _ fl4_40) (fun _ h9 => h9) rfl dX4_back_12 ?_
  refine lv_iload_n hx hb dX4_back_15 rfl (lvg_at hl (i := 1) rfl) ?_
  refine va_aldq hx hb hK hP 27 1 rfl rfl (vp_in_nI hpl2 (by decide)) dX4_back_16 ?_
  rw [hpl, hf]
  refine lv_astore_n (lv' := [(2, .ref (qi 53)), (0, .ref (q 50)), (1, .int (nI pl))]) hx hb dX4_back_17 rfl hl (by decide) rfl (fun ls hl => ?_)
  refine lv_aload_n hx hb dX4_back_18 rfl (lvg_at hl (i := 2) rfl) ?_
  refine lv_ifnonnull (tgt := 24) hx hb dX4_back_19 (by decide) ?_
  refine lv_aload_n hx hb dX4_back_24 rfl (lvg_at hl (i := 0) rfl) ?_
  refine va_get (D := D) (ci := 4) (v := .ref (q 53)) (C := RX4) (T := TX4) (N := 10) hx hb hts jX_4 hown hK hP 0 rfl rfl 4 (by decide) (hts _ fl4_35) (fun _ h9 => h9) rfl dX4_back_25 ?_
  refine lv_aload_n hx hb dX4_back_28 rfl (lvg_at hl (i := 2) rfl) ?_
  have hcells : 0 + (gk (r5 * 125) (S.2 15) + gk (r6 * 104) (S.2 16) + gk (r7 * 21) (S.2 17)) ≤ (gk (r5 * 125) (S.2 15) + gk (r6 * 104) (S.2 16) + gk (r7 * 21) (S.2 17)) := by omega
  have hslots : 0 + (gs (r5 * 125) (S.2 15) (I.2 15) + gs (r6 * 104) (S.2 16) (I.2 16) + gs (r7 * 21) (S.2 17) (I.2 17)) ≤ (gs (r5 * 125) (S.2 15) (I.2 15) + gs (r6 * 104) (S.2 16) (I.2 16) + gs (r7 * 21) (S.2 17) (I.2 17)) := by omega
  have hPc : va_P D vwCl (wI cI q qa S ++ wI cI qi qai I) s.heap := hP.sub [9, 10, 21, 22, 23, 24, 25, 26, 28, 29, 30, 31, 32, 33, 34, 35] rfl
  have hDc : va_D A (wI cI q qa S ++ wI cI qi qai I) := hD.sub [9, 10, 21, 22, 23, 24, 25, 26, 28, 29, 30, 31, 32, 33, 34, 35] (by decide) rfl
  have hK1 := hK.sub (tys' := tyC cI) [0] rfl
  have hFc := va_free (wc := (wI cI q qa S ++ wI cI qi qai I)) hD hS hA [9, 10, 21, 22, 23, 24, 25, 26, 28, 29, 30, 31, 32, 33, 34, 35] rfl
  refine va_callv (va_runV (As := [.ref (qi 53)]) (rest := []) ⟨hx, hb, hml, hown, hts⟩ (cim l D cI q qa qi qai S I r5 r6 r7 h55 g55 hr5 he5 hu5 hi5 hj5 h56 g56 hr6 he6 hu6 hi6 hj6 h57 g57 hr7 he7 hu7 hi7 hj7 s.heap.size) (cwVC (fr := 3) (lo := 80) (k := 1) hts tlX4_181 ti0_copyFrom te0_copyFrom tc0_copyFrom ini_0 (by decide +kernel) ⟨by decide, by decide⟩ _ _ _ _) ⟨fun a U g mk q => by obtain ⟨q0, q1, qP, qK, qD⟩ := q; exact ⟨q0, q1, qP, va_K.moved (u := U) (U := U.calling g mk a) (Vm.Alike.refl U.vm) qK, qD⟩, va_recv hK1 hPc (ci := 0) (q0 := 0) rfl rfl, fun U hU hW => ⟨rfl, by rw [hU], by rw [hU]; exact hPc, va_K.moved hW.alike hK1, hDc.weaken (fun _ _ _ _ => trivial)⟩⟩ rfl rfl hl.1 rfl (lv_room (Nat.le_of_ble_eq_true rfl)) dX4_back_29 ⟨hcells, hslots⟩) hS (fun q _ h => hFc q h) hFc (fun u t H1 locs ht hvm hw hB hz1 hk1 hS => ?_)
  obtain ⟨qb, hP1, _, hD1⟩ := hB
  rw [ht] at hP1
  obtain ⟨hP, hD⟩ := va_join (wr := ([0, 1, 2, 3, 4, 5, 6, 7, 8, 11, 12, 13, 14, 15, 16, 17, 18, 19, 20, 27] : List Nat).filterMap (fun i => (wB cI cO q qa S f ++ wI cI qi qai I)[i]?)) (w1 := wI cI q qb (cpI S I) ++ wI cI qi qai I) hP hD [9, 10, 21, 22, 23, 24, 25, 26, 28, 29, 30, 31, 32, 33, 34, 35] [0, 1, 2, 3, 4, 5, 6, 7, 8, 11, 12, 13, 14, 15, 16, 17, 18, 19, 20, 27] rfl rfl (by decide) (by decide) hk1 hFc hP1 hD1
  generalize H1 = H at hP hS ⊢
  have hP : va_P D vwCl (wB cI cO q (fun k => if k = 5 then qb 5 else if k = 6 then qb 6 else if k = 7 then qb 7 else qa k) (cpI S I) f ++ wI cI qi qai I) H := hP.sub [0, 1, 2, 3, 4, 5, 6, 7, 8, 20, 21, 9, 10, 11, 12, 13, 14, 15, 16, 17, 18, 22, 23, 24, 25, 26, 27, 19, 28, 29, 30, 31, 32, 33, 34, 35] rfl
  have hD : va_D A (wB cI cO q (fun k => if k = 5 then qb 5 else if k = 6 then qb 6 else if k = 7 then qb 7 else qa k) (cpI S I) f ++ wI cI qi qai I) := hD.sub [0, 1, 2, 3, 4, 5, 6, 7, 8, 20, 21, 9, 10, 11, 12, 13, 14, 15, 16, 17, 18, 22, 23, 24, 25, 26, 27, 19, 28, 29, 30, 31, 32, 33, 34, 35] (by decide) rfl
  refine lv_iconst (v := 1) hx hb dX4_back_32 (by decide) ?_
  refine W.widen (k := (gk (r5 * 125) (S.2 15) + gk (r6 * 104) (S.2 16) + gk (r7 * 21) (S.2 17))) (n := (gs (r5 * 125) (S.2 15) (I.2 15) + gs (r6 * 104) (S.2 16) (I.2 16) + gs (r7 * 21) (S.2 17) (I.2 17))) (by omega) (by omega) ?_
  exact W.zret (v := 1) hx hb hr (by decide) (fun t ht hW => ⟨⟨1, (), rfl, rfl, (fun k => if k = 5 then qb 5 else if k = 6 then qb 6 else if k = 7 then qb 7 else qa k), by rw [ht]; exact hP, va_K.moved hW.alike hK, hD⟩, hS.F ht⟩) hS.2.2 dX4_back_33

set_option maxRecDepth 100000 in
set_option maxHeartbeats 4000000 in
theorem cbackN (l : Launch) (D : va_G) (cI cO : ClassId) (q qa : Nat → Nat) (S : CS) (f : Nat → Option Nat) (pl : Nat) (hpl2 : pl < 2) (hf : f pl = none) (sz : Nat) : Met l yX4_back (wsM yX4_back cX4_back 3 (some .boolean)) (rmC 3 80 0 0) (va_Pc [.ref (q 50), .int (nI pl)] (fun U => U.heap.size = sz ∧ va_P D vwCl (wB cI cO q qa S f) U.heap ∧ va_K D vwCl (tyO cI cO) U ∧ va_D (fun _ => True) (wB cI cO q qa S f))) (va_Qi (fun (v : Int32) (_ : Unit) => v = 0) (fun _ t => va_P D vwCl (wB cI cO q qa S f) t.heap ∧ va_K D vwCl (tyO cI cO) t ∧ va_D (va_A (wB cI cO q qa S f) sz) (wB cI cO q qa S f)) (va_A (wB cI cO q qa S f) sz)) 0 0 (va_A (wB cI cO q qa S f) sz) := by
  refine Met.ofW (cc := cX4_back) (maxL := 3) (ret := some .boolean) (by decide) rfl ?_
  intro p e s m args below meth c s₁ B hml hv
  obtain ⟨rfl, hsz, hP, hK, hD0⟩ := hv
  have hx := B.exec
  have hb := B.bytes
  have hr := B.returns
  have hts : ∀ w ∈ tt, w.before ([.ref (q 50), .int (nI pl)] : List Value).toArray s = true := fun w hw => atoms_spec (ws := wsM yX4_back cX4_back 3 (some .boolean)) B.pre w (List.mem_cons_of_mem _ hw)
  have hown : s.vm.findClass RX4 = some m.cls := findClass_of_methodNamed B.named
  have hlocks := B.notSynchronized
  subst hsz
  have hD := hD0.self (sz := s.heap.size)
  generalize hAe : va_A (wB cI cO q qa S f) s.heap.size = A at hD ⊢
  have hA : ∀ q : Nat, s.heap.size ≤ q → A q := fun q h => by rw [← hAe]; exact Or.inr h
  have hS : va_S A s.heap s.heap [] := va_S.rf
  have hl := lv_entry [.ref (q 50), .int (nI pl)] (n := 3) (Nat.le_of_ble_eq_true rfl)
  rw [lg_entry_eq]
  generalize (lg_sl ([.ref (q 50), .int (nI pl)] : List Value) ++ List.replicate (3 - (lg_sl ([.ref (q 50), .int (nI pl)] : List Value)).length) Slot.unset).toArray = ls at hl ⊢
  have hl : lv_has ls 3 [(0, .ref (q 50)), (1, .int (nI pl))] := hl
  have hpl : (nI pl).toNatClampNeg = pl := nI_clamp (by omega)
  refine lv_iload_n hx hb dX4_back_0 rfl (lvg_at hl (i := 1) rfl) ?_
  refine lv_if_lt (tgt := 9) hx hb dX4_back_1 (by decide) (fun h => absurd h (nI_pos (by omega))) (fun _ => ?_)
  refine lv_iload_n hx hb dX4_back_4 rfl (lvg_at hl (i := 1) rfl) ?_
  refine lv_iconst (v := nI 2) hx hb dX4_back_5 (by decide) ?_
  refine lv_icmp_lt (tgt := 11) hx hb dX4_back_6 (by decide) (fun _ => ?_) (fun h => absurd (nI_lt (by omega) (by omega)) h)
  refine lv_aload_n hx hb dX4_back_11 rfl (lvg_at hl (i := 0) rfl) ?_
  refine va_get (D := D) (ci := 4) (v := .ref (q 54)) (C := RX4) (T := TX4) (N := 10) hx hb hts jX_4 hown hK hP 0 rfl rfl 5 (by decide) (hts _ fl4_40) (fun _ h9 => h9) rfl dX4_back_12 ?_
  refine lv_iload_n hx hb dX4_back_15 rfl (lvg_at hl (i := 1) rfl) ?_
  refine va_aldq hx hb hK hP 27 1 rfl rfl (vp_in_nI hpl2 (by decide)) dX4_back_16 ?_
  rw [hpl, hf]
  refine lv_astore_nN (lv' := [(2, .null), (0, .ref (q 50)), (1, .int (nI pl))]) hx hb dX4_back_17 rfl hl (by decide) rfl (fun ls hl => ?_)
  refine lv_aload_nN hx hb dX4_back_18 rfl (lvg_at hl (i := 2) rfl) ?_
  refine lv_ifnonnullN hx hb dX4_back_19 ?_
  refine lv_iconst (v := 0) hx hb dX4_back_22 (by decide) ?_
  exact W.zret (v := 0) hx hb hr (by decide) (fun t ht hW => ⟨⟨0, (), rfl, rfl, by rw [ht]; exact hP, va_K.moved hW.alike hK, hD⟩, hS.F ht⟩) hS.2.2 dX4_back_23

/-- a new image, as a state -/
def I00 : CS := (fun a b => if a = 20 then (if 0 ≤ b ∧ b < 16 then -1 else 0) else if a = 55 then nI 125 else if a = 56 then nI 104 else if a = 57 then nI 21 else if a = 65 then nI 40 else if a = 66 then nI 150 else if a = 67 then nI 150 else 0, fun i => if i = 15 then 500 else if i = 16 then 416 else if i = 17 then 84 else 0)
set_option maxRecDepth 100000 in
set_option maxHeartbeats 4000000 in
theorem ckeepN (l : Launch) (D : va_G) (cI cO : ClassId) (q qa : Nat → Nat) (S : CS) (f : Nat → Option Nat) (pl : Nat) (hpl2 : pl < 2) (hf : f pl = none) (r5 r6 r7 : Nat) (h55 : I00.1 55 0 = nI 125) (g55 : S.1 55 0 = nI 125) (hr5 : S.1 45 0 = nI r5) (he5 : cu 5 125 S = r5 * 125) (hu5 : r5 * 125 ≤ S.2 15) (hi5 : I00.2 15 < 134217728) (hj5 : S.2 15 < 134217728) (h56 : I00.1 56 0 = nI 104) (g56 : S.1 56 0 = nI 104) (hr6 : S.1 46 0 = nI r6) (he6 : cu 6 104 S = r6 * 104) (hu6 : r6 * 104 ≤ S.2 16) (hi6 : I00.2 16 < 134217728) (hj6 : S.2 16 < 134217728) (h57 : I00.1 57 0 = nI 21) (g57 : S.1 57 0 = nI 21) (hr7 : S.1 47 0 = nI r7) (he7 : cu 7 21 S = r7 * 21) (hu7 : r7 * 21 ≤ S.2 17) (hi7 : I00.2 17 < 134217728) (hj7 : S.2 17 < 134217728) (sz : Nat) : Met l yX4_keep (wsM yX4_keep cX4_keep 3 (some .boolean)) (rmC 3 80 (8 + (gk (r5 * 125) (I00.2 15) + gk (r6 * 104) (I00.2 16) + gk (r7 * 21) (I00.2 17))) (1032 + (gs (r5 * 125) (I00.2 15) (S.2 15) + gs (r6 * 104) (I00.2 16) (S.2 16) + gs (r7 * 21) (I00.2 17) (S.2 17)))) (va_Pc [.ref (q 50), .int (nI pl)] (fun U => U.heap.size = sz ∧ va_P D vwCl (wB cI cO q qa S f) U.heap ∧ va_K D vwCl (tyO cI cO) U ∧ va_D (fun _ => True) (wB cI cO q qa S f))) (va_Qi (fun (v : Int32) (_ : Unit) => v = 1) (fun _ t => ∃ qi qb : Nat → Nat, va_P D vwCl (wB cI cO q qa S (va_up f pl (some (qi 53))) ++ wI cI qi qb (cpI I00 S)) t.heap ∧ va_K D vwCl (tyO cI cO) t ∧ va_D (va_A (wB cI cO q qa S f) sz) (wB cI cO q qa S (va_up f pl (some (qi 53))) ++ wI cI qi qb (cpI I00 S))) (va_A (wB cI cO q qa S f) sz)) (8 + (gk (r5 * 125) (I00.2 15) + gk (r6 * 104) (I00.2 16) + gk (r7 * 21) (I00.2 17))) (1032 + (gs (r5 * 125) (I00.2 15) (S.2 15) + gs (r6 * 104) (I00.2 16) (S.2 16) + gs (r7 * 21) (I00.2 17) (S.2 17))) (va_A (wB cI cO q qa S f) sz) := by
  refine Met.ofW (cc := cX4_keep) (maxL := 3) (ret := some .boolean) (by decide) rfl ?_
  intro p e s m args below meth c s₁ B hml hv
  obtain ⟨rfl, hsz, hP, hK, hD0⟩ := hv
  have hx := B.exec
  have hb := B.bytes
  have hr := B.returns
  have hts : ∀ w ∈ tt, w.before ([.ref (q 50), .int (nI pl)] : List Value).toArray s = true := fun w hw => atoms_spec (ws := wsM yX4_keep cX4_keep 3 (some .boolean)) B.pre w (List.mem_cons_of_mem _ hw)
  have hown : s.vm.findClass RX4 = some m.cls := findClass_of_methodNamed B.named
  have hlocks := B.notSynchronized
  subst hsz
  have hD := hD0.self (sz := s.heap.size)
  generalize hAe : va_A (wB cI cO q qa S f) s.heap.size = A at hD ⊢
  have hA : ∀ q : Nat, s.heap.size ≤ q → A q := fun q h => by rw [← hAe]; exact Or.inr h
  have hS : va_S A s.heap s.heap [] := va_S.rf
  have hl := lv_entry [.ref (q 50), .int (nI pl)] (n := 3) (Nat.le_of_ble_eq_true rfl)
  rw [lg_entry_eq]
  generalize (lg_sl ([.ref (q 50), .int (nI pl)] : List Value) ++ List.replicate (3 - (lg_sl ([.ref (q 50), .int (nI pl)] : List Value)).length) Slot.unset).toArray = ls at hl ⊢
  have hl : lv_has ls 3 [(0, .ref (q 50)), (1, .int (nI pl))] := hl
  have hpl : (nI pl).toNatClampNeg = pl := nI_clamp (by omega)
  refine lv_iload_n hx hb dX4_keep_0 rfl (lvg_at hl (i := 1) rfl) ?_
  refine lv_if_lt (tgt := 9) hx hb dX4_keep_1 (by decide) (fun h => absurd h (nI_pos (by omega))) (fun _ => ?_)
  refine lv_iload_n hx hb dX4_keep_4 rfl (lvg_at hl (i := 1) rfl) ?_
  refine lv_iconst (v := nI 2) hx hb dX4_keep_5 (by decide) ?_
  refine lv_icmp_lt (tgt := 11) hx hb dX4_keep_6 (by decide) (fun _ => ?_) (fun h => absurd (nI_lt (by omega) (by omega)) h)
  refine lv_aload_n hx hb dX4_keep_11 rfl (lvg_at hl (i := 0) rfl) ?_
  refine va_get (D := D) (ci := 4) (v := .ref (q 54)) (C := RX4) (T := TX4) (N := 10) hx hb hts jX_4 hown hK hP 0 rfl rfl 5 (by decide) (hts _ fl4_40) (fun _ h9 => h9) rfl dX4_keep_12 ?_
  refine lv_iload_n hx hb dX4_keep_15 rfl (lvg_at hl (i := 1) rfl) ?_
  refine va_aldq hx hb hK hP 27 1 rfl rfl (vp_in_nI hpl2 (by decide)) dX4_keep_16 ?_
  rw [hpl, hf]
  refine lv_astore_nN (lv' := [(2, .null), (0, .ref (q 50)), (1, .int (nI pl))]) hx hb dX4_keep_17 rfl hl (by decide) rfl (fun ls hl => ?_)
  refine lv_aload_nN hx hb dX4_keep_18 rfl (lvg_at hl (i := 2) rfl) ?_
  refine lv_ifnonnullN hx hb dX4_keep_19 ?_
  refine va_new (ci := 0) (fs := [.null, .null, .null, .null]) (C := RX0) (T := TX0) (N := 4) hx hb hts jX_0 tyX0 tyX0_ok hown (hts _ clX4_38) (hts _ in_0) (hts _ ini_0) hK hP hD hS hA rfl (fun j hj => df_0 j hj) (by show 0 + 1 ≤ (8 + (gk (r5 * 125) (I00.2 15) + gk (r6 * 104) (I00.2 16) + gk (r7 * 21) (I00.2 17))); omega) (by show 0 + 4 ≤ (1032 + (gs (r5 * 125) (I00.2 15) (S.2 15) + gs (r6 * 104) (I00.2 16) (S.2 16) + gs (r7 * 21) (I00.2 17) (S.2 17))); omega) dX4_keep_22 (fun im H hP hD hS => ?_)
  refine W.widen (k := 1) (n := 4) (by omega) (by omega) ?_
  refine lv_dup hx hb dX4_keep_25 rfl ?_
  have hPc : va_P D vwCl [(im, .inr (0, [.null, .null, .null, .null]))] H := hP.sub [28] rfl
  have hDc : va_D A [(im, .inr (0, [.null, .null, .null, .null]))] := hD.sub [28] (by decide) rfl
  have hK1 := hK.sub (tys' := tyC cI) [0] rfl
  have hFc := va_free (wc := [(im, .inr (0, [.null, .null, .null, .null]))]) hD hS hA [28] rfl
  refine va_callv (va_runI (As := []) (rest := [.ref im]) ⟨hx, hb, hml, hown, hts⟩ (ci0 l D cI im H.size) (cwI 0 hts (good_ws (fun _ h => h) tcI_0) rfl rfl rfl (hts _ ini_0) (hts _ tlIX4_180) (hts _ tiI_0) rfl (by decide +kernel) ⟨Nat.le_of_ble_eq_true rfl, Nat.le_of_ble_eq_true rfl⟩) ⟨fun a U g mk q => by obtain ⟨q0, q1, qP, qK, qD⟩ := q; exact ⟨q0, q1, qP, va_K.moved (u := U) (U := U.calling g mk a) (Vm.Alike.refl U.vm) qK, qD⟩, fun U hU hW => ⟨rfl, by rw [hU], by rw [hU]; exact hPc, va_K.moved hW.alike hK1, hDc.weaken (fun _ _ _ _ => trivial)⟩⟩ rfl rfl hl.1 rfl (lv_room (Nat.le_of_ble_eq_true rfl)) dX4_keep_26 ⟨by show 1 + 7 ≤ (8 + (gk (r5 * 125) (I00.2 15) + gk (r6 * 104) (I00.2 16) + gk (r7 * 21) (I00.2 17))); omega, by show 4 + 1028 ≤ (1032 + (gs (r5 * 125) (I00.2 15) (S.2 15) + gs (r6 * 104) (I00.2 16) (S.2 16) + gs (r7 * 21) (I00.2 17) (S.2 17))); omega⟩) hS (fun q _ h => hFc q h) hFc (fun u t H1 locs ht hvm hw hB hz1 hk1 hS => ?_)
  obtain ⟨t5, a5, t6, a6, t7, a7, nw, hP1, _, hD1⟩ := hB
  rw [ht] at hP1
  obtain ⟨hP, hD⟩ := va_join (wr := wB cI cO q qa S f) (w1 := [(im, .inr (0, [.ref t5, .ref t6, .ref t7, .ref nw])), (t5, .inr (2, [.int (nI 125), .int (nI 40), .ref a5, .int (nI 0)])), (a5, .inl (cI, 4 * 125, .inl (fun _ => 0))), (t6, .inr (2, [.int (nI 104), .int (nI 150), .ref a6, .int (nI 0)])), (a6, .inl (cI, 4 * 104, .inl (fun _ => 0))), (t7, .inr (2, [.int (nI 21), .int (nI 150), .ref a7, .int (nI 0)])), (a7, .inl (cI, 4 * 21, .inl (fun _ => 0))), (nw, .inl (cI, 16, .inl (fun b => if 0 ≤ b ∧ b < 16 then (-1 : Int32) else 0)))]) hP hD [28] [0, 1, 2, 3, 4, 5, 6, 7, 8, 9, 10, 11, 12, 13, 14, 15, 16, 17, 18, 19, 20, 21, 22, 23, 24, 25, 26, 27] rfl rfl (by decide) (by decide) hk1 hFc hP1 hD1
  generalize H1 = H at hP hS ⊢
  obtain ⟨qi, qai, hqi, hP7, hD7⟩ : ∃ qi qai : Nat → Nat, qi 53 = im ∧ va_P D vwCl (wB cI cO q qa S f ++ wI cI qi qai I00) H ∧ va_D A (wB cI cO q qa S f ++ wI cI qi qai I00) := ⟨(fun k => if k = 53 then im else if k = 20 then nw else if k = 105 then t5 else if k = 106 then t6 else if k = 107 then t7 else 0), (fun k => if k = 5 then a5 else if k = 6 then a6 else if k = 7 then a7 else 0), rfl, hP.sub [0, 1, 2, 3, 4, 5, 6, 7, 8, 9, 10, 11, 12, 13, 14, 15, 16, 17, 18, 19, 20, 21, 22, 23, 24, 25, 26, 27, 28, 35, 29, 30, 31, 32, 33, 34] rfl, hD.sub [0, 1, 2, 3, 4, 5, 6, 7, 8, 9, 10, 11, 12, 13, 14, 15, 16, 17, 18, 19, 20, 21, 22, 23, 24, 25, 26, 27, 28, 35, 29, 30, 31, 32, 33, 34] (by decide) rfl⟩
  subst hqi
  have hP := hP7
  have hD := hD7
  refine W.widen (k := 8) (n := 1032) (by omega) (by omega) ?_
  refine lv_astore_n (lv' := [(2, .ref (qi 53)), (0, .ref (q 50)), (1, .int (nI pl))]) hx hb dX4_keep_29 rfl hl (by decide) rfl (fun ls hl => ?_)
  refine lv_aload_n hx hb dX4_keep_30 rfl (lvg_at hl (i := 0) rfl) ?_
  refine va_get (D := D) (ci := 4) (v := .ref (q 54)) (C := RX4) (T := TX4) (N := 10) hx hb hts jX_4 hown hK hP 0 rfl rfl 5 (by decide) (hts _ fl4_40) (fun _ h9 => h9) rfl dX4_keep_31 ?_
  refine lv_iload_n hx hb dX4_keep_34 rfl (lvg_at hl (i := 1) rfl) ?_
  refine lv_aload_n hx hb dX4_keep_35 rfl (lvg_at hl (i := 2) rfl) ?_
  refine va_astq (r := (RX0, TX0, 4)) hx hb hK hP hD hS 27 1 28 0 rfl rfl rfl rfl (vp_in_nI hpl2 (by decide)) dX4_keep_36 (fun H locs hP hD hS => ?_)
  rw [hpl] at hP hD
  have hP : va_P D vwCl (wB cI cO q qa S (va_up f pl (some (qi 53))) ++ wI cI qi qai I00) H := hP
  have hD : va_D A (wB cI cO q qa S (va_up f pl (some (qi 53))) ++ wI cI qi qai I00) := hD
  refine lv_aload_n hx hb dX4_keep_37 rfl (lvg_at hl (i := 2) rfl) ?_
  refine lv_aload_n hx hb dX4_keep_38 rfl (lvg_at hl (i := 0) rfl) ?_
  refine va_get (D := D) (ci := 4) (v := .ref (q 53)) (C := RX4) (T := TX4) (N := 10) hx hb hts jX_4 hown hK hP 0 rfl rfl 4 (by decide) (hts _ fl4_35) (fun _ h9 => h9) rfl dX4_keep_39 ?_
  have hcells : 8 + (gk (r5 * 125) (I00.2 15) + gk (r6 * 104) (I00.2 16) + gk (r7 * 21) (I00.2 17)) ≤ (8 + (gk (r5 * 125) (I00.2 15) + gk (r6 * 104) (I00.2 16) + gk (r7 * 21) (I00.2 17))) := by omega
  have hslots : 1032 + (gs (r5 * 125) (I00.2 15) (S.2 15) + gs (r6 * 104) (I00.2 16) (S.2 16) + gs (r7 * 21) (I00.2 17) (S.2 17)) ≤ (1032 + (gs (r5 * 125) (I00.2 15) (S.2 15) + gs (r6 * 104) (I00.2 16) (S.2 16) + gs (r7 * 21) (I00.2 17) (S.2 17))) := by omega
  have hPc : va_P D vwCl (wI cI qi qai I00 ++ wI cI q qa S) H := hP.sub [28, 29, 30, 31, 32, 33, 34, 35, 9, 10, 21, 22, 23, 24, 25, 26] rfl
  have hDc : va_D A (wI cI qi qai I00 ++ wI cI q qa S) := hD.sub [28, 29, 30, 31, 32, 33, 34, 35, 9, 10, 21, 22, 23, 24, 25, 26] (by decide) rfl
  have hK1 := hK.sub (tys' := tyC cI) [0] rfl
  have hFc := va_free (wc := (wI cI qi qai I00 ++ wI cI q qa S)) hD hS hA [28, 29, 30, 31, 32, 33, 34, 35, 9, 10, 21, 22, 23, 24, 25, 26] rfl
  refine va_callv (va_runV (As := [.ref (q 53)]) (rest := []) ⟨hx, hb, hml, hown, hts⟩ (cim l D cI qi qai q qa I00 S r5 r6 r7 h55 g55 hr5 he5 hu5 hi5 hj5 h56 g56 hr6 he6 hu6 hi6 hj6 h57 g57 hr7 he7 hu7 hi7 hj7 H.size) (cwVC (fr := 3) (lo := 80) (k := 1) hts tlX4_181 ti0_copyFrom te0_copyFrom tc0_copyFrom ini_0 (by decide +kernel) ⟨by decide, by decide⟩ _ _ _ _) ⟨fun a U g mk q => by obtain ⟨q0, q1, qP, qK, qD⟩ := q; exact ⟨q0, q1, qP, va_K.moved (u := U) (U := U.calling g mk a) (Vm.Alike.refl U.vm) qK, qD⟩, va_recv hK1 hPc (ci := 0) (q0 := 0) rfl rfl, fun U hU hW => ⟨rfl, by rw [hU], by rw [hU]; exact hPc, va_K.moved hW.alike hK1, hDc.weaken (fun _ _ _ _ => trivial)⟩⟩ rfl rfl hl.1 rfl (lv_room (Nat.le_of_ble_eq_true rfl)) dX4_keep_42 ⟨hcells, hslots⟩) hS (fun q _ h => hFc q h) hFc (fun u t H1 locs ht hvm hw hB hz1 hk1 hS => ?_)
  obtain ⟨qb, hP1, _, hD1⟩ := hB
  rw [ht] at hP1
  obtain ⟨hP, hD⟩ := va_join (wr := ([0, 1, 2, 3, 4, 5, 6, 7, 8, 11, 12, 13, 14, 15, 16, 17, 18, 19, 20, 27] : List Nat).filterMap (fun i => (wB cI cO q qa S (va_up f pl (some (qi 53))) ++ wI cI qi qai I00)[i]?)) (w1 := wI cI qi qb (cpI I00 S) ++ wI cI q qa S) hP hD [28, 29, 30, 31, 32, 33, 34, 35, 9, 10, 21, 22, 23, 24, 25, 26] [0, 1, 2, 3, 4, 5, 6, 7, 8, 11, 12, 13, 14, 15, 16, 17, 18, 19, 20, 27] rfl rfl (by decide) (by decide) hk1 hFc hP1 hD1
  generalize H1 = H at hP hS ⊢
  have hP : va_P D vwCl (wB cI cO q qa S (va_up f pl (some (qi 53))) ++ wI cI qi qb (cpI I00 S)) H := hP.sub [0, 1, 2, 3, 4, 5, 6, 7, 8, 28, 29, 9, 10, 11, 12, 13, 14, 15, 16, 17, 18, 30, 31, 32, 33, 34, 35, 19, 20, 21, 22, 23, 24, 25, 26, 27] rfl
  have hD : va_D A (wB cI cO q qa S (va_up f pl (some (qi 53))) ++ wI cI qi qb (cpI I00 S)) := hD.sub [0, 1, 2, 3, 4, 5, 6, 7, 8, 28, 29, 9, 10, 11, 12, 13, 14, 15, 16, 17, 18, 30, 31, 32, 33, 34, 35, 19, 20, 21, 22, 23, 24, 25, 26, 27] (by decide) rfl
  refine lv_iconst (v := 1) hx hb dX4_keep_45 (by decide) ?_
  refine W.widen (k := (8 + (gk (r5 * 125) (I00.2 15) + gk (r6 * 104) (I00.2 16) + gk (r7 * 21) (I00.2 17)))) (n := (1032 + (gs (r5 * 125) (I00.2 15) (S.2 15) + gs (r6 * 104) (I00.2 16) (S.2 16) + gs (r7 * 21) (I00.2 17) (S.2 17)))) (by omega) (by omega) ?_
  exact W.zret (v := 1) hx hb hr (by decide) (fun t ht hW => ⟨⟨1, (), rfl, rfl, qi, qb, by rw [ht]; exact hP, va_K.moved hW.alike hK, hD⟩, hS.F ht⟩) hS.2.2 dX4_keep_46

