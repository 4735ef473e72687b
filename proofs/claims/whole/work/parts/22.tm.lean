theorem dX2_size_0 : decode cX2_size 0 = .ok (.aload_n 0, 1) := by decide +kernel
theorem dX2_size_1 : decode cX2_size 1 = .ok (.getfield 9, 3) := by decide +kernel
theorem dX2_size_4 : decode cX2_size 4 = .ok (.ireturn, 1) := by decide +kernel
theorem dX2_has_0 : decode cX2_has 0 = .ok (.iload_n 1, 1) := by decide +kernel
theorem dX2_has_1 : decode cX2_has 1 = .ok (.ifCond .lt 15, 3) := by decide +kernel
theorem dX2_has_4 : decode cX2_has 4 = .ok (.iload_n 1, 1) := by decide +kernel
theorem dX2_has_5 : decode cX2_has 5 = .ok (.aload_n 0, 1) := by decide +kernel
theorem dX2_has_6 : decode cX2_has 6 = .ok (.getfield 9, 3) := by decide +kernel
theorem dX2_has_9 : decode cX2_has 9 = .ok (.if_icmp .ge 7, 3) := by decide +kernel
theorem dX2_has_12 : decode cX2_has 12 = .ok (.iconst 1, 1) := by decide +kernel
theorem dX2_has_13 : decode cX2_has 13 = .ok (.goto 4, 3) := by decide +kernel
theorem dX2_has_16 : decode cX2_has 16 = .ok (.iconst 0, 1) := by decide +kernel
theorem dX2_has_17 : decode cX2_has 17 = .ok (.ireturn, 1) := by decide +kernel
theorem dX2_get_0 : decode cX2_get 0 = .ok (.iload_n 1, 1) := by decide +kernel
theorem dX2_get_1 : decode cX2_get 1 = .ok (.ifCond .lt 23, 3) := by decide +kernel
theorem dX2_get_4 : decode cX2_get 4 = .ok (.iload_n 1, 1) := by decide +kernel
theorem dX2_get_5 : decode cX2_get 5 = .ok (.aload_n 0, 1) := by decide +kernel
theorem dX2_get_6 : decode cX2_get 6 = .ok (.getfield 9, 3) := by decide +kernel
theorem dX2_get_9 : decode cX2_get 9 = .ok (.if_icmp .ge 15, 3) := by decide +kernel
theorem dX2_get_12 : decode cX2_get 12 = .ok (.iload_n 2, 1) := by decide +kernel
theorem dX2_get_13 : decode cX2_get 13 = .ok (.ifCond .lt 11, 3) := by decide +kernel
theorem dX2_get_16 : decode cX2_get 16 = .ok (.iload_n 2, 1) := by decide +kernel
theorem dX2_get_17 : decode cX2_get 17 = .ok (.aload_n 0, 1) := by decide +kernel
theorem dX2_get_18 : decode cX2_get 18 = .ok (.getfield 21, 3) := by decide +kernel
theorem dX2_get_21 : decode cX2_get 21 = .ok (.if_icmp .lt 5, 3) := by decide +kernel
theorem dX2_get_24 : decode cX2_get 24 = .ok (.iconst 0, 1) := by decide +kernel
theorem dX2_get_25 : decode cX2_get 25 = .ok (.ireturn, 1) := by decide +kernel
theorem dX2_get_26 : decode cX2_get 26 = .ok (.iload_n 1, 1) := by decide +kernel
theorem dX2_get_27 : decode cX2_get 27 = .ok (.aload_n 0, 1) := by decide +kernel
theorem dX2_get_28 : decode cX2_get 28 = .ok (.getfield 21, 3) := by decide +kernel
theorem dX2_get_31 : decode cX2_get 31 = .ok (.imul, 1) := by decide +kernel
theorem dX2_get_32 : decode cX2_get 32 = .ok (.iload_n 2, 1) := by decide +kernel
theorem dX2_get_33 : decode cX2_get 33 = .ok (.iadd, 1) := by decide +kernel
theorem dX2_get_34 : decode cX2_get 34 = .ok (.istore_n 3, 1) := by decide +kernel
theorem dX2_get_35 : decode cX2_get 35 = .ok (.iload_n 3, 1) := by decide +kernel
theorem dX2_get_36 : decode cX2_get 36 = .ok (.aload_n 0, 1) := by decide +kernel
theorem dX2_get_37 : decode cX2_get 37 = .ok (.getfield 27, 3) := by decide +kernel
theorem dX2_get_40 : decode cX2_get 40 = .ok (.arraylength, 1) := by decide +kernel
theorem dX2_get_41 : decode cX2_get 41 = .ok (.if_icmp .ge 12, 3) := by decide +kernel
theorem dX2_get_44 : decode cX2_get 44 = .ok (.aload_n 0, 1) := by decide +kernel
theorem dX2_get_45 : decode cX2_get 45 = .ok (.getfield 27, 3) := by decide +kernel
theorem dX2_get_48 : decode cX2_get 48 = .ok (.iload_n 3, 1) := by decide +kernel
theorem dX2_get_49 : decode cX2_get 49 = .ok (.iaload, 1) := by decide +kernel
theorem dX2_get_50 : decode cX2_get 50 = .ok (.goto 4, 3) := by decide +kernel
theorem dX2_get_53 : decode cX2_get 53 = .ok (.iconst 0, 1) := by decide +kernel
theorem dX2_get_54 : decode cX2_get 54 = .ok (.ireturn, 1) := by decide +kernel
theorem dX2_set_0 : decode cX2_set 0 = .ok (.iload_n 1, 1) := by decide +kernel
theorem dX2_set_1 : decode cX2_set 1 = .ok (.ifCond .lt 23, 3) := by decide +kernel
theorem dX2_set_4 : decode cX2_set 4 = .ok (.iload_n 1, 1) := by decide +kernel
theorem dX2_set_5 : decode cX2_set 5 = .ok (.aload_n 0, 1) := by decide +kernel
theorem dX2_set_6 : decode cX2_set 6 = .ok (.getfield 9, 3) := by decide +kernel
theorem dX2_set_9 : decode cX2_set 9 = .ok (.if_icmp .ge 15, 3) := by decide +kernel
theorem dX2_set_12 : decode cX2_set 12 = .ok (.iload_n 2, 1) := by decide +kernel
theorem dX2_set_13 : decode cX2_set 13 = .ok (.ifCond .lt 11, 3) := by decide +kernel
theorem dX2_set_16 : decode cX2_set 16 = .ok (.iload_n 2, 1) := by decide +kernel
theorem dX2_set_17 : decode cX2_set 17 = .ok (.aload_n 0, 1) := by decide +kernel
theorem dX2_set_18 : decode cX2_set 18 = .ok (.getfield 21, 3) := by decide +kernel
theorem dX2_set_21 : decode cX2_set 21 = .ok (.if_icmp .lt 4, 3) := by decide +kernel
theorem dX2_set_24 : decode cX2_set 24 = .ok (.return_, 1) := by decide +kernel
theorem dX2_set_25 : decode cX2_set 25 = .ok (.iload_n 1, 1) := by decide +kernel
theorem dX2_set_26 : decode cX2_set 26 = .ok (.aload_n 0, 1) := by decide +kernel
theorem dX2_set_27 : decode cX2_set 27 = .ok (.getfield 21, 3) := by decide +kernel
theorem dX2_set_30 : decode cX2_set 30 = .ok (.imul, 1) := by decide +kernel
theorem dX2_set_31 : decode cX2_set 31 = .ok (.iload_n 2, 1) := by decide +kernel
theorem dX2_set_32 : decode cX2_set 32 = .ok (.iadd, 1) := by decide +kernel
theorem dX2_set_33 : decode cX2_set 33 = .ok (.istore 4, 2) := by decide +kernel
theorem dX2_set_35 : decode cX2_set 35 = .ok (.iload 4, 2) := by decide +kernel
theorem dX2_set_37 : decode cX2_set 37 = .ok (.aload_n 0, 1) := by decide +kernel
theorem dX2_set_38 : decode cX2_set 38 = .ok (.getfield 27, 3) := by decide +kernel
theorem dX2_set_41 : decode cX2_set 41 = .ok (.arraylength, 1) := by decide +kernel
theorem dX2_set_42 : decode cX2_set 42 = .ok (.if_icmp .ge 11, 3) := by decide +kernel
theorem dX2_set_45 : decode cX2_set 45 = .ok (.aload_n 0, 1) := by decide +kernel
theorem dX2_set_46 : decode cX2_set 46 = .ok (.getfield 27, 3) := by decide +kernel
theorem dX2_set_49 : decode cX2_set 49 = .ok (.iload 4, 2) := by decide +kernel
theorem dX2_set_51 : decode cX2_set 51 = .ok (.iload_n 3, 1) := by decide +kernel
theorem dX2_set_52 : decode cX2_set 52 = .ok (.iastore, 1) := by decide +kernel
theorem dX2_set_53 : decode cX2_set 53 = .ok (.return_, 1) := by decide +kernel
theorem dX2_dropLast_0 : decode cX2_dropLast 0 = .ok (.aload_n 0, 1) := by decide +kernel
theorem dX2_dropLast_1 : decode cX2_dropLast 1 = .ok (.getfield 9, 3) := by decide +kernel
theorem dX2_dropLast_4 : decode cX2_dropLast 4 = .ok (.ifCond .le 13, 3) := by decide +kernel
theorem dX2_dropLast_7 : decode cX2_dropLast 7 = .ok (.aload_n 0, 1) := by decide +kernel
theorem dX2_dropLast_8 : decode cX2_dropLast 8 = .ok (.dup, 1) := by decide +kernel
theorem dX2_dropLast_9 : decode cX2_dropLast 9 = .ok (.getfield 9, 3) := by decide +kernel
theorem dX2_dropLast_12 : decode cX2_dropLast 12 = .ok (.iconst 1, 1) := by decide +kernel
theorem dX2_dropLast_13 : decode cX2_dropLast 13 = .ok (.isub, 1) := by decide +kernel
theorem dX2_dropLast_14 : decode cX2_dropLast 14 = .ok (.putfield 9, 3) := by decide +kernel
theorem dX2_dropLast_17 : decode cX2_dropLast 17 = .ok (.return_, 1) := by decide +kernel
theorem dX2_clear_0 : decode cX2_clear 0 = .ok (.aload_n 0, 1) := by decide +kernel
theorem dX2_clear_1 : decode cX2_clear 1 = .ok (.iconst 0, 1) := by decide +kernel
theorem dX2_clear_2 : decode cX2_clear 2 = .ok (.putfield 9, 3) := by decide +kernel
theorem dX2_clear_5 : decode cX2_clear 5 = .ok (.return_, 1) := by decide +kernel
section TM
variable {ρ : Type} {p : Program} {l : Launch} {e : Env} {s : State} {m : MethodId} {args : Array Value} {below : List Frame} {meth : Method} {c : Code}
variable {cc : ByteArray} {nL : Nat} {own : String} {rt : Option FieldType} {D : va_G} {cI : ClassId} {sf : sfT} {A : Nat → Prop} {t : Nat} {fr lo : Nat} {S0 S : CS} {QQ : ρ × CS → State → Prop} {pc : Nat} {lv : List (Nat × Value)}

-- X2.size
def f2_size (n : Nat) (S : CS) : Option (Int32 × CS) :=
    cg S 3 fun v1 =>
    some (v1, S)
theorem w2_size (hsf : sfOk sf) (X : hX p s m args meth c cX2_size 1 RX2 (some .int) D (tyC cI) sf A) {S0 : CS} (n : Nat) (S : CS) : hG p l e (fun r => rmC 0 0 (cS r.2 - cS S0) (sS r.2 - sS S0)) s m args below meth c 1 (ZW D (wT cI t) A s.heap S0 S) (cS S - cS S0) (sS S - sS S0) (fun r => MQ below (QWi D (tyC cI) (wT cI t) A r) args s (cS r.2 - cS S0) (sS r.2 - sS S0) A) (fun r => le S r.2) 0 [(0, .ref (t))] [] (f2_size n S) := by
    unfold f2_size
    refine h_aload_n X dX2_size_0 rfl rfl ?_
    refine t_g_rows X dX2_size_1 ?_
    intro v1
    exact h_iret X dX2_size_4
theorem mo2_size (n : Nat) (S : CS) : mo S (f2_size n S) := by
    unfold f2_size
    refine m_cg (fun v1 => ?_)
    exact m_some
theorem c2_size (hsf : sfOk sf) (l : Launch) (D : va_G) (cI : ClassId) (t : Nat) (n : Nat) (S : CS) : MetW l D (tyC cI) sf (wT cI t) yX2_size cX2_size 1 (some .int) 0 0 QWi [.ref (t)] S (f2_size n S) := by
  refine MetW.of (own := RX2) (by decide) rfl (Nat.le_of_ble_eq_true rfl) (mo2_size n S) ?_
  intro x p e s m args below meth c X
  refine h_pick (lv' := [(0, .ref (t))]) [0] rfl ?_
  exact h_close (w2_size hsf X n S)
theorem tc2_size : Cond.code yX2_size cX2_size 1 (some .int) ∈ tt := tt_in (List.mem_of_getElem? (i := 297) (by decide +kernel)) (by decide +kernel)
theorem ti2_size : Cond.instanceMethod yX2_size ∈ tt := tt_in (List.mem_of_getElem? (i := 295) (by decide +kernel)) (by decide +kernel)
theorem te2_size : Cond.selects RX2 yX2_size yX2_size ∈ tt := tt_in (List.mem_of_getElem? (i := 296) (by decide +kernel)) (by decide +kernel)
-- X2.has
def f2_has (n : Nat) (x1 : Int32) (S : CS) : Option (Int32 × CS) :=
    if x1 < 0 then
      (zt (nI 0) (some ((nI 0), S)))
    else
      (cg S 3 fun v1 =>
      if v1 ≤ x1 then (zt (nI 0) (some ((nI 0), S))) else (zt (nI 1) (some ((nI 1), S))))
theorem w2_has (hsf : sfOk sf) (X : hX p s m args meth c cX2_has 2 RX2 (some .boolean) D (tyC cI) sf A) {S0 : CS} (n : Nat) (x1 : Int32) (S : CS) : hG p l e (fun r => rmC 0 0 (cS r.2 - cS S0) (sS r.2 - sS S0)) s m args below meth c 2 (ZW D (wT cI t) A s.heap S0 S) (cS S - cS S0) (sS S - sS S0) (fun r => MQ below (QWi D (tyC cI) (wT cI t) A r) args s (cS r.2 - cS S0) (sS r.2 - sS S0) A) (fun r => le S r.2) 0 [(0, .ref (t)), (1, .int x1)] [] (f2_has n x1 S) := by
    unfold f2_has
    refine h_iload_n X dX2_has_0 rfl rfl ?_
    refine h_if_lt (tgt := 16) X dX2_has_1 (by decide) ?_ ?_
    · refine h_iconst (v := (nI 0)) X dX2_has_16 (by decide) ?_
      exact h_zret X dX2_has_17
    · refine h_iload_n X dX2_has_4 rfl rfl ?_
      refine h_aload_n X dX2_has_5 rfl rfl ?_
      refine t_g_rows X dX2_has_6 ?_
      intro v1
      refine h_icmp_ge (tgt := 16) X dX2_has_9 (by decide) ?_ ?_
      · refine h_iconst (v := (nI 0)) X dX2_has_16 (by decide) ?_
        exact h_zret X dX2_has_17
      · refine h_iconst (v := (nI 1)) X dX2_has_12 (by decide) ?_
        refine h_goto (tgt := 17) X dX2_has_13 (by decide) ?_
        exact h_zret X dX2_has_17
theorem mo2_has (n : Nat) (x1 : Int32) (S : CS) : mo S (f2_has n x1 S) := by
    unfold f2_has
    refine m_ite ?_ ?_
    · exact m_zt m_some
    · refine m_cg (fun v1 => ?_)
      refine m_ite ?_ ?_
      · exact m_zt m_some
      · exact m_zt m_some
theorem c2_has (hsf : sfOk sf) (l : Launch) (D : va_G) (cI : ClassId) (t : Nat) (n : Nat) (x1 : Int32) (S : CS) : MetW l D (tyC cI) sf (wT cI t) yX2_has cX2_has 2 (some .boolean) 0 0 QWi [.ref (t), .int x1] S (f2_has n x1 S) := by
  refine MetW.of (own := RX2) (by decide) rfl (Nat.le_of_ble_eq_true rfl) (mo2_has n x1 S) ?_
  intro x p e s m args below meth c X
  refine h_pick (lv' := [(0, .ref (t)), (1, .int x1)]) [0, 1] rfl ?_
  exact h_close (w2_has hsf X n x1 S)
theorem tc2_has : Cond.code yX2_has cX2_has 2 (some .boolean) ∈ tt := tt_in (List.mem_of_getElem? (i := 448) (by decide +kernel)) (by decide +kernel)
theorem ti2_has : Cond.instanceMethod yX2_has ∈ tt := tt_in (List.mem_of_getElem? (i := 446) (by decide +kernel)) (by decide +kernel)
theorem te2_has : Cond.selects RX2 yX2_has yX2_has ∈ tt := tt_in (List.mem_of_getElem? (i := 447) (by decide +kernel)) (by decide +kernel)
-- X2.get
def f2_get (n : Nat) (x1 : Int32) (x2 : Int32) (S : CS) : Option (Int32 × CS) :=
    if x1 < 0 then
      (some ((nI 0), S))
    else
      (cg S 3 fun v1 =>
      if v1 ≤ x1 then
        (some ((nI 0), S))
      else
        (if x2 < 0 then
          (some ((nI 0), S))
        else
          (cg S 0 fun v2 =>
          if x2 < v2 then
            (cg S 0 fun v3 =>
            tl S fun v4 =>
            if v4 ≤ ((x1 * v3) + x2) then
              (some ((nI 0), S))
            else
              (cr S 2 (S.2 0) ((x1 * v3) + x2) fun v5 =>
              some (v5, S)))
          else
            (some ((nI 0), S)))))
theorem w2_get (hsf : sfOk sf) (X : hX p s m args meth c cX2_get 4 RX2 (some .int) D (tyC cI) sf A) {S0 : CS} (n : Nat) (x1 : Int32) (x2 : Int32) (S : CS) : hG p l e (fun r => rmC 0 0 (cS r.2 - cS S0) (sS r.2 - sS S0)) s m args below meth c 4 (ZW D (wT cI t) A s.heap S0 S) (cS S - cS S0) (sS S - sS S0) (fun r => MQ below (QWi D (tyC cI) (wT cI t) A r) args s (cS r.2 - cS S0) (sS r.2 - sS S0) A) (fun r => le S r.2) 0 [(0, .ref (t)), (1, .int x1), (2, .int x2)] [] (f2_get n x1 x2 S) := by
    unfold f2_get
    refine h_iload_n X dX2_get_0 rfl rfl ?_
    refine h_if_lt (tgt := 24) X dX2_get_1 (by decide) ?_ ?_
    · refine h_iconst (v := (nI 0)) X dX2_get_24 (by decide) ?_
      exact h_iret X dX2_get_25
    · refine h_iload_n X dX2_get_4 rfl rfl ?_
      refine h_aload_n X dX2_get_5 rfl rfl ?_
      refine t_g_rows X dX2_get_6 ?_
      intro v1
      refine h_icmp_ge (tgt := 24) X dX2_get_9 (by decide) ?_ ?_
      · refine h_iconst (v := (nI 0)) X dX2_get_24 (by decide) ?_
        exact h_iret X dX2_get_25
      · refine h_iload_n X dX2_get_12 rfl rfl ?_
        refine h_if_lt (tgt := 24) X dX2_get_13 (by decide) ?_ ?_
        · refine h_iconst (v := (nI 0)) X dX2_get_24 (by decide) ?_
          exact h_iret X dX2_get_25
        · refine h_iload_n X dX2_get_16 rfl rfl ?_
          refine h_aload_n X dX2_get_17 rfl rfl ?_
          refine t_g_width X dX2_get_18 ?_
          intro v2
          refine h_icmp_lt (tgt := 26) X dX2_get_21 (by decide) ?_ ?_
          · refine h_iload_n X dX2_get_26 rfl rfl ?_
            refine h_aload_n X dX2_get_27 rfl rfl ?_
            refine t_g_width X dX2_get_28 ?_
            intro v3
            refine h_imul X dX2_get_31 ?_
            refine h_iload_n X dX2_get_32 rfl rfl ?_
            refine h_iadd X dX2_get_33 ?_
            refine h_istore_n (lv' := [(3, .int ((x1 * v3) + x2)), (0, .ref (t)), (1, .int x1), (2, .int x2)]) X dX2_get_34 rfl (by decide) rfl ?_
            refine h_iload_n X dX2_get_35 rfl rfl ?_
            refine h_aload_n X dX2_get_36 rfl rfl ?_
            refine t_g_ints X dX2_get_37 (fun a => ?_)
            refine t_len X dX2_get_40 ?_
            intro v4
            refine h_icmp_ge (tgt := 53) X dX2_get_41 (by decide) ?_ ?_
            · refine h_iconst (v := (nI 0)) X dX2_get_53 (by decide) ?_
              exact h_iret X dX2_get_54
            · refine h_aload_n X dX2_get_44 rfl rfl ?_
              refine t_g_ints X dX2_get_45 (fun a => ?_)
              refine h_iload_n X dX2_get_48 rfl rfl ?_
              refine t_ld X dX2_get_49 ?_
              intro v5
              refine h_goto (tgt := 54) X dX2_get_50 (by decide) ?_
              exact h_iret X dX2_get_54
          · refine h_iconst (v := (nI 0)) X dX2_get_24 (by decide) ?_
            exact h_iret X dX2_get_25
theorem mo2_get (n : Nat) (x1 : Int32) (x2 : Int32) (S : CS) : mo S (f2_get n x1 x2 S) := by
    unfold f2_get
    refine m_ite ?_ ?_
    · exact m_some
    · refine m_cg (fun v1 => ?_)
      refine m_ite ?_ ?_
      · exact m_some
      · refine m_ite ?_ ?_
        · exact m_some
        · refine m_cg (fun v2 => ?_)
          refine m_ite ?_ ?_
          · refine m_cg (fun v3 => ?_)
            refine m_tl (fun v4 => ?_)
            refine m_ite ?_ ?_
            · exact m_some
            · refine m_cr (fun v5 => ?_)
              exact m_some
          · exact m_some
theorem c2_get (hsf : sfOk sf) (l : Launch) (D : va_G) (cI : ClassId) (t : Nat) (n : Nat) (x1 : Int32) (x2 : Int32) (S : CS) : MetW l D (tyC cI) sf (wT cI t) yX2_get cX2_get 4 (some .int) 0 0 QWi [.ref (t), .int x1, .int x2] S (f2_get n x1 x2 S) := by
  refine MetW.of (own := RX2) (by decide) rfl (Nat.le_of_ble_eq_true rfl) (mo2_get n x1 x2 S) ?_
  intro x p e s m args below meth c X
  refine h_pick (lv' := [(0, .ref (t)), (1, .int x1), (2, .int x2)]) [0, 1, 2] rfl ?_
  exact h_close (w2_get hsf X n x1 x2 S)
theorem tc2_get : Cond.code yX2_get cX2_get 4 (some .int) ∈ tt := tt_in (List.mem_of_getElem? (i := 319) (by decide +kernel)) (by decide +kernel)
theorem ti2_get : Cond.instanceMethod yX2_get ∈ tt := tt_in (List.mem_of_getElem? (i := 317) (by decide +kernel)) (by decide +kernel)
theorem te2_get : Cond.selects RX2 yX2_get yX2_get ∈ tt := tt_in (List.mem_of_getElem? (i := 318) (by decide +kernel)) (by decide +kernel)
theorem k2_get (hsf : sfOk sf) (X : hX p s m args meth c cc nL own rt D (tyC cI) sf A) {n : Nat} {x1 : Int32} {x2 : Int32} {ix : Nat} (hlk : Cond.methodLink own ix yX2_get ∈ tt) {rest : List Value} {K : Int32 → CS → Option (ρ × CS)} (hR : 0 + 1 ≤ fr ∧ 8 + (4 + 11) + 0 ≤ lo) (hcat : (rest.map fun v => v.category).sum ≤ 8) (d : decode cc pc = .ok (.invokevirtual ix, 3)) (kk : ∀ v S1, hG p l e (fun r => rmC fr lo (cS r.2 - cS S0) (sS r.2 - sS S0)) s m args below meth c nL (ZW D (wT cI t) A s.heap S0 S1) (cS S1 - cS S0) (sS S1 - sS S0) QQ (fun r => le S1 r.2) (pc + 3) lv (.int v :: rest) (K v S1)) : hG p l e (fun r => rmC fr lo (cS r.2 - cS S0) (sS r.2 - sS S0)) s m args below meth c nL (ZW D (wT cI t) A s.heap S0 S) (cS S - cS S0) (sS S - sS S0) QQ (fun r => le S r.2) pc lv (.int x2 :: .int x1 :: .ref t :: rest) (bnd (f2_get n x1 x2 S) K) := h_callVi (As := [.int x1, .int x2]) (b := t) (C := RX2) hsf X (c2_get hsf l D cI t n x1 x2 S) (cwVC (k := 2) X.1.2.2.2.2.1 hlk ti2_get te2_get tc2_get ini_2 (by decide +kernel) hR) (fun x H h1 h2 => t_recv rfl x H h1 h2) rfl rfl hcat d kk
-- X2.set
def f2_set (n : Nat) (x1 : Int32) (x2 : Int32) (x3 : Int32) (S : CS) : Option (Int32 × CS) :=
    if x1 < 0 then
      (some (0, S))
    else
      (cg S 3 fun v1 =>
      if v1 ≤ x1 then
        (some (0, S))
      else
        (if x2 < 0 then
          (some (0, S))
        else
          (cg S 0 fun v2 =>
          if x2 < v2 then
            (cg S 0 fun v3 =>
            tl S fun v4 =>
            if v4 ≤ ((x1 * v3) + x2) then
              (some (0, S))
            else
              (cw S 2 (S.2 0) ((x1 * v3) + x2) x3 fun S5 =>
              some (0, S5)))
          else
            (some (0, S)))))
theorem w2_set (hsf : sfOk sf) (X : hX p s m args meth c cX2_set 5 RX2 none D (tyC cI) sf A) {S0 : CS} (n : Nat) (x1 : Int32) (x2 : Int32) (x3 : Int32) (S : CS) : hG p l e (fun r => rmC 0 0 (cS r.2 - cS S0) (sS r.2 - sS S0)) s m args below meth c 5 (ZW D (wT cI t) A s.heap S0 S) (cS S - cS S0) (sS S - sS S0) (fun r => MQ below (QWv D (tyC cI) (wT cI t) A r) args s (cS r.2 - cS S0) (sS r.2 - sS S0) A) (fun r => le S r.2) 0 [(0, .ref (t)), (1, .int x1), (2, .int x2), (3, .int x3)] [] (f2_set n x1 x2 x3 S) := by
    unfold f2_set
    refine h_iload_n X dX2_set_0 rfl rfl ?_
    refine h_if_lt (tgt := 24) X dX2_set_1 (by decide) ?_ ?_
    · exact h_vret X dX2_set_24
    · refine h_iload_n X dX2_set_4 rfl rfl ?_
      refine h_aload_n X dX2_set_5 rfl rfl ?_
      refine t_g_rows X dX2_set_6 ?_
      intro v1
      refine h_icmp_ge (tgt := 24) X dX2_set_9 (by decide) ?_ ?_
      · exact h_vret X dX2_set_24
      · refine h_iload_n X dX2_set_12 rfl rfl ?_
        refine h_if_lt (tgt := 24) X dX2_set_13 (by decide) ?_ ?_
        · exact h_vret X dX2_set_24
        · refine h_iload_n X dX2_set_16 rfl rfl ?_
          refine h_aload_n X dX2_set_17 rfl rfl ?_
          refine t_g_width X dX2_set_18 ?_
          intro v2
          refine h_icmp_lt (tgt := 25) X dX2_set_21 (by decide) ?_ ?_
          · refine h_iload_n X dX2_set_25 rfl rfl ?_
            refine h_aload_n X dX2_set_26 rfl rfl ?_
            refine t_g_width X dX2_set_27 ?_
            intro v3
            refine h_imul X dX2_set_30 ?_
            refine h_iload_n X dX2_set_31 rfl rfl ?_
            refine h_iadd X dX2_set_32 ?_
            refine h_istore (lv' := [(4, .int ((x1 * v3) + x2)), (0, .ref (t)), (1, .int x1), (2, .int x2), (3, .int x3)]) X dX2_set_33 (by decide) rfl ?_
            refine h_iload X dX2_set_35 rfl ?_
            refine h_aload_n X dX2_set_37 rfl rfl ?_
            refine t_g_ints X dX2_set_38 (fun a => ?_)
            refine t_len X dX2_set_41 ?_
            intro v4
            refine h_icmp_ge (tgt := 53) X dX2_set_42 (by decide) ?_ ?_
            · exact h_vret X dX2_set_53
            · refine h_aload_n X dX2_set_45 rfl rfl ?_
              refine t_g_ints X dX2_set_46 (fun a => ?_)
              refine h_iload X dX2_set_49 rfl ?_
              refine h_iload_n X dX2_set_51 rfl rfl ?_
              refine t_st X dX2_set_52 ?_
              intro S5
              exact h_vret X dX2_set_53
          · exact h_vret X dX2_set_24
theorem mo2_set (n : Nat) (x1 : Int32) (x2 : Int32) (x3 : Int32) (S : CS) : mo S (f2_set n x1 x2 x3 S) := by
    unfold f2_set
    refine m_ite ?_ ?_
    · exact m_some
    · refine m_cg (fun v1 => ?_)
      refine m_ite ?_ ?_
      · exact m_some
      · refine m_ite ?_ ?_
        · exact m_some
        · refine m_cg (fun v2 => ?_)
          refine m_ite ?_ ?_
          · refine m_cg (fun v3 => ?_)
            refine m_tl (fun v4 => ?_)
            refine m_ite ?_ ?_
            · exact m_some
            · refine m_cw (fun S5 => ?_)
              exact m_some
          · exact m_some
theorem c2_set (hsf : sfOk sf) (l : Launch) (D : va_G) (cI : ClassId) (t : Nat) (n : Nat) (x1 : Int32) (x2 : Int32) (x3 : Int32) (S : CS) : MetW l D (tyC cI) sf (wT cI t) yX2_set cX2_set 5 none 0 0 QWv [.ref (t), .int x1, .int x2, .int x3] S (f2_set n x1 x2 x3 S) := by
  refine MetW.of (own := RX2) (by decide) rfl (Nat.le_of_ble_eq_true rfl) (mo2_set n x1 x2 x3 S) ?_
  intro x p e s m args below meth c X
  refine h_pick (lv' := [(0, .ref (t)), (1, .int x1), (2, .int x2), (3, .int x3)]) [0, 1, 2, 3] rfl ?_
  exact h_close (w2_set hsf X n x1 x2 x3 S)
theorem tc2_set : Cond.code yX2_set cX2_set 5 none ∈ tt := tt_in (List.mem_of_getElem? (i := 416) (by decide +kernel)) (by decide +kernel)
theorem ti2_set : Cond.instanceMethod yX2_set ∈ tt := tt_in (List.mem_of_getElem? (i := 414) (by decide +kernel)) (by decide +kernel)
theorem te2_set : Cond.selects RX2 yX2_set yX2_set ∈ tt := tt_in (List.mem_of_getElem? (i := 415) (by decide +kernel)) (by decide +kernel)
theorem k2_set (hsf : sfOk sf) (X : hX p s m args meth c cc nL own rt D (tyC cI) sf A) {n : Nat} {x1 : Int32} {x2 : Int32} {x3 : Int32} {ix : Nat} (hlk : Cond.methodLink own ix yX2_set ∈ tt) {rest : List Value} {K : Int32 → CS → Option (ρ × CS)} (hR : 0 + 1 ≤ fr ∧ 8 + (5 + 11) + 0 ≤ lo) (hcat : (rest.map fun v => v.category).sum ≤ 8) (d : decode cc pc = .ok (.invokevirtual ix, 3)) (kk : ∀ v S1, hG p l e (fun r => rmC fr lo (cS r.2 - cS S0) (sS r.2 - sS S0)) s m args below meth c nL (ZW D (wT cI t) A s.heap S0 S1) (cS S1 - cS S0) (sS S1 - sS S0) QQ (fun r => le S1 r.2) (pc + 3) lv rest (K v S1)) : hG p l e (fun r => rmC fr lo (cS r.2 - cS S0) (sS r.2 - sS S0)) s m args below meth c nL (ZW D (wT cI t) A s.heap S0 S) (cS S - cS S0) (sS S - sS S0) QQ (fun r => le S r.2) pc lv (.int x3 :: .int x2 :: .int x1 :: .ref t :: rest) (bnd (f2_set n x1 x2 x3 S) K) := h_callVv (As := [.int x1, .int x2, .int x3]) (b := t) (C := RX2) hsf X (c2_set hsf l D cI t n x1 x2 x3 S) (cwVC (k := 3) X.1.2.2.2.2.1 hlk ti2_set te2_set tc2_set ini_2 (by decide +kernel) hR) (fun x H h1 h2 => t_recv rfl x H h1 h2) rfl rfl hcat d kk
-- X2.dropLast
def f2_dropLast (n : Nat) (S : CS) : Option (Int32 × CS) :=
    cg S 3 fun v1 =>
    if v1 ≤ 0 then
      (some (0, S))
    else
      (cg S 3 fun v2 =>
      cp S 3 (v2 - (nI 1)) fun S3 =>
      some (0, S3))
theorem w2_dropLast (hsf : sfOk sf) (X : hX p s m args meth c cX2_dropLast 1 RX2 none D (tyC cI) sf A) {S0 : CS} (n : Nat) (S : CS) : hG p l e (fun r => rmC 0 0 (cS r.2 - cS S0) (sS r.2 - sS S0)) s m args below meth c 1 (ZW D (wT cI t) A s.heap S0 S) (cS S - cS S0) (sS S - sS S0) (fun r => MQ below (QWv D (tyC cI) (wT cI t) A r) args s (cS r.2 - cS S0) (sS r.2 - sS S0) A) (fun r => le S r.2) 0 [(0, .ref (t))] [] (f2_dropLast n S) := by
    unfold f2_dropLast
    refine h_aload_n X dX2_dropLast_0 rfl rfl ?_
    refine t_g_rows X dX2_dropLast_1 ?_
    intro v1
    refine h_if_le (tgt := 17) X dX2_dropLast_4 (by decide) ?_ ?_
    · exact h_vret X dX2_dropLast_17
    · refine h_aload_n X dX2_dropLast_7 rfl rfl ?_
      refine h_dup X dX2_dropLast_8 rfl ?_
      refine t_g_rows X dX2_dropLast_9 ?_
      intro v2
      refine h_iconst (v := (nI 1)) X dX2_dropLast_12 (by decide) ?_
      refine h_isub X dX2_dropLast_13 ?_
      refine t_p_rows X dX2_dropLast_14 ?_
      intro S3
      exact h_vret X dX2_dropLast_17
theorem mo2_dropLast (n : Nat) (S : CS) : mo S (f2_dropLast n S) := by
    unfold f2_dropLast
    refine m_cg (fun v1 => ?_)
    refine m_ite ?_ ?_
    · exact m_some
    · refine m_cg (fun v2 => ?_)
      refine m_cp (fun S3 => ?_)
      exact m_some
theorem c2_dropLast (hsf : sfOk sf) (l : Launch) (D : va_G) (cI : ClassId) (t : Nat) (n : Nat) (S : CS) : MetW l D (tyC cI) sf (wT cI t) yX2_dropLast cX2_dropLast 1 none 0 0 QWv [.ref (t)] S (f2_dropLast n S) := by
  refine MetW.of (own := RX2) (by decide) rfl (Nat.le_of_ble_eq_true rfl) (mo2_dropLast n S) ?_
  intro x p e s m args below meth c X
  refine h_pick (lv' := [(0, .ref (t))]) [0] rfl ?_
  exact h_close (w2_dropLast hsf X n S)
theorem tc2_dropLast : Cond.code yX2_dropLast cX2_dropLast 1 none ∈ tt := tt_in (List.mem_of_getElem? (i := 496) (by decide +kernel)) (by decide +kernel)
theorem ti2_dropLast : Cond.instanceMethod yX2_dropLast ∈ tt := tt_in (List.mem_of_getElem? (i := 494) (by decide +kernel)) (by decide +kernel)
theorem te2_dropLast : Cond.selects RX2 yX2_dropLast yX2_dropLast ∈ tt := tt_in (List.mem_of_getElem? (i := 495) (by decide +kernel)) (by decide +kernel)
-- X2.clear
def f2_clear (n : Nat) (S : CS) : Option (Int32 × CS) :=
    cp S 3 (nI 0) fun S1 =>
    some (0, S1)
theorem w2_clear (hsf : sfOk sf) (X : hX p s m args meth c cX2_clear 1 RX2 none D (tyC cI) sf A) {S0 : CS} (n : Nat) (S : CS) : hG p l e (fun r => rmC 0 0 (cS r.2 - cS S0) (sS r.2 - sS S0)) s m args below meth c 1 (ZW D (wT cI t) A s.heap S0 S) (cS S - cS S0) (sS S - sS S0) (fun r => MQ below (QWv D (tyC cI) (wT cI t) A r) args s (cS r.2 - cS S0) (sS r.2 - sS S0) A) (fun r => le S r.2) 0 [(0, .ref (t))] [] (f2_clear n S) := by
    unfold f2_clear
    refine h_aload_n X dX2_clear_0 rfl rfl ?_
    refine h_iconst (v := (nI 0)) X dX2_clear_1 (by decide) ?_
    refine t_p_rows X dX2_clear_2 ?_
    intro S1
    exact h_vret X dX2_clear_5
theorem mo2_clear (n : Nat) (S : CS) : mo S (f2_clear n S) := by
    unfold f2_clear
    refine m_cp (fun S1 => ?_)
    exact m_some
theorem c2_clear (hsf : sfOk sf) (l : Launch) (D : va_G) (cI : ClassId) (t : Nat) (n : Nat) (S : CS) : MetW l D (tyC cI) sf (wT cI t) yX2_clear cX2_clear 1 none 0 0 QWv [.ref (t)] S (f2_clear n S) := by
  refine MetW.of (own := RX2) (by decide) rfl (Nat.le_of_ble_eq_true rfl) (mo2_clear n S) ?_
  intro x p e s m args below meth c X
  refine h_pick (lv' := [(0, .ref (t))]) [0] rfl ?_
  exact h_close (w2_clear hsf X n S)
theorem tc2_clear : Cond.code yX2_clear cX2_clear 1 none ∈ tt := tt_in (List.mem_of_getElem? (i := 323) (by decide +kernel)) (by decide +kernel)
theorem ti2_clear : Cond.instanceMethod yX2_clear ∈ tt := tt_in (List.mem_of_getElem? (i := 321) (by decide +kernel)) (by decide +kernel)
theorem te2_clear : Cond.selects RX2 yX2_clear yX2_clear ∈ tt := tt_in (List.mem_of_getElem? (i := 322) (by decide +kernel)) (by decide +kernel)
end TM
