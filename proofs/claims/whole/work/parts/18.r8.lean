theorem dX5_convert_0 : decode cX5_convert 0 = .ok (.aload_n 0, 1) := by decide +kernel
theorem dX5_convert_1 : decode cX5_convert 1 = .ok (.iload_n 2, 1) := by decide +kernel
theorem dX5_convert_2 : decode cX5_convert 2 = .ok (.invokevirtual 97, 3) := by decide +kernel
theorem dX5_convert_5 : decode cX5_convert 5 = .ok (.istore_n 3, 1) := by decide +kernel
theorem dX5_convert_6 : decode cX5_convert 6 = .ok (.aload_n 0, 1) := by decide +kernel
theorem dX5_convert_7 : decode cX5_convert 7 = .ok (.iload_n 1, 1) := by decide +kernel
theorem dX5_convert_8 : decode cX5_convert 8 = .ok (.invokevirtual 263, 3) := by decide +kernel
theorem dX5_convert_11 : decode cX5_convert 11 = .ok (.ifCond .eq 11, 3) := by decide +kernel
theorem dX5_convert_14 : decode cX5_convert 14 = .ok (.aload_n 0, 1) := by decide +kernel
theorem dX5_convert_15 : decode cX5_convert 15 = .ok (.iload_n 3, 1) := by decide +kernel
theorem dX5_convert_16 : decode cX5_convert 16 = .ok (.invokevirtual 266, 3) := by decide +kernel
theorem dX5_convert_19 : decode cX5_convert 19 = .ok (.ifCond .ne 5, 3) := by decide +kernel
theorem dX5_convert_22 : decode cX5_convert 22 = .ok (.iconst (-1), 1) := by decide +kernel
theorem dX5_convert_23 : decode cX5_convert 23 = .ok (.ireturn, 1) := by decide +kernel
theorem dX5_convert_24 : decode cX5_convert 24 = .ok (.aload_n 0, 1) := by decide +kernel
theorem dX5_convert_25 : decode cX5_convert 25 = .ok (.getfield 8, 3) := by decide +kernel
theorem dX5_convert_28 : decode cX5_convert 28 = .ok (.iconst 2, 1) := by decide +kernel
theorem dX5_convert_29 : decode cX5_convert 29 = .ok (.iaload, 1) := by decide +kernel
theorem dX5_convert_30 : decode cX5_convert 30 = .ok (.sipush 150, 3) := by decide +kernel
theorem dX5_convert_33 : decode cX5_convert 33 = .ok (.if_icmp .ne 6, 3) := by decide +kernel
theorem dX5_convert_36 : decode cX5_convert 36 = .ok (.bipush (-2), 2) := by decide +kernel
theorem dX5_convert_38 : decode cX5_convert 38 = .ok (.ireturn, 1) := by decide +kernel
theorem dX5_convert_39 : decode cX5_convert 39 = .ok (.aload_n 0, 1) := by decide +kernel
theorem dX5_convert_40 : decode cX5_convert 40 = .ok (.iload_n 3, 1) := by decide +kernel
theorem dX5_convert_41 : decode cX5_convert 41 = .ok (.invokevirtual 221, 3) := by decide +kernel
theorem dX5_convert_44 : decode cX5_convert 44 = .ok (.istore 4, 2) := by decide +kernel
theorem dX5_convert_46 : decode cX5_convert 46 = .ok (.iconst 0, 1) := by decide +kernel
theorem dX5_convert_47 : decode cX5_convert 47 = .ok (.istore 5, 2) := by decide +kernel
theorem dX5_convert_49 : decode cX5_convert 49 = .ok (.iload 5, 2) := by decide +kernel
theorem dX5_convert_51 : decode cX5_convert 51 = .ok (.bipush 10, 2) := by decide +kernel
theorem dX5_convert_53 : decode cX5_convert 53 = .ok (.if_icmp .ge 104, 3) := by decide +kernel
theorem dX5_convert_56 : decode cX5_convert 56 = .ok (.aload_n 0, 1) := by decide +kernel
theorem dX5_convert_57 : decode cX5_convert 57 = .ok (.getfield 8, 3) := by decide +kernel
theorem dX5_convert_60 : decode cX5_convert 60 = .ok (.iload 4, 2) := by decide +kernel
theorem dX5_convert_62 : decode cX5_convert 62 = .ok (.invokestatic 141, 3) := by decide +kernel
theorem dX5_convert_65 : decode cX5_convert 65 = .ok (.iconst 1, 1) := by decide +kernel
theorem dX5_convert_66 : decode cX5_convert 66 = .ok (.iadd, 1) := by decide +kernel
theorem dX5_convert_67 : decode cX5_convert 67 = .ok (.iload 5, 2) := by decide +kernel
theorem dX5_convert_69 : decode cX5_convert 69 = .ok (.iadd, 1) := by decide +kernel
theorem dX5_convert_70 : decode cX5_convert 70 = .ok (.iaload, 1) := by decide +kernel
theorem dX5_convert_71 : decode cX5_convert 71 = .ok (.ifCond .eq 80, 3) := by decide +kernel
theorem dX5_convert_74 : decode cX5_convert 74 = .ok (.aload_n 0, 1) := by decide +kernel
theorem dX5_convert_75 : decode cX5_convert 75 = .ok (.getfield 8, 3) := by decide +kernel
theorem dX5_convert_78 : decode cX5_convert 78 = .ok (.iload_n 1, 1) := by decide +kernel
theorem dX5_convert_79 : decode cX5_convert 79 = .ok (.invokestatic 141, 3) := by decide +kernel
theorem dX5_convert_82 : decode cX5_convert 82 = .ok (.iconst 1, 1) := by decide +kernel
theorem dX5_convert_83 : decode cX5_convert 83 = .ok (.iadd, 1) := by decide +kernel
theorem dX5_convert_84 : decode cX5_convert 84 = .ok (.iload 5, 2) := by decide +kernel
theorem dX5_convert_86 : decode cX5_convert 86 = .ok (.iadd, 1) := by decide +kernel
theorem dX5_convert_87 : decode cX5_convert 87 = .ok (.iaload, 1) := by decide +kernel
theorem dX5_convert_88 : decode cX5_convert 88 = .ok (.ifCond .eq 63, 3) := by decide +kernel
theorem dX5_convert_91 : decode cX5_convert 91 = .ok (.aload_n 0, 1) := by decide +kernel
theorem dX5_convert_92 : decode cX5_convert 92 = .ok (.getfield 8, 3) := by decide +kernel
theorem dX5_convert_95 : decode cX5_convert 95 = .ok (.iload 4, 2) := by decide +kernel
theorem dX5_convert_97 : decode cX5_convert 97 = .ok (.invokestatic 141, 3) := by decide +kernel
theorem dX5_convert_100 : decode cX5_convert 100 = .ok (.iconst 1, 1) := by decide +kernel
theorem dX5_convert_101 : decode cX5_convert 101 = .ok (.iadd, 1) := by decide +kernel
theorem dX5_convert_102 : decode cX5_convert 102 = .ok (.iload 5, 2) := by decide +kernel
theorem dX5_convert_104 : decode cX5_convert 104 = .ok (.iadd, 1) := by decide +kernel
theorem dX5_convert_105 : decode cX5_convert 105 = .ok (.aload_n 0, 1) := by decide +kernel
theorem dX5_convert_106 : decode cX5_convert 106 = .ok (.getfield 8, 3) := by decide +kernel
theorem dX5_convert_109 : decode cX5_convert 109 = .ok (.iload_n 1, 1) := by decide +kernel
theorem dX5_convert_110 : decode cX5_convert 110 = .ok (.invokestatic 141, 3) := by decide +kernel
theorem dX5_convert_113 : decode cX5_convert 113 = .ok (.iconst 1, 1) := by decide +kernel
theorem dX5_convert_114 : decode cX5_convert 114 = .ok (.iadd, 1) := by decide +kernel
theorem dX5_convert_115 : decode cX5_convert 115 = .ok (.iload 5, 2) := by decide +kernel
theorem dX5_convert_117 : decode cX5_convert 117 = .ok (.iadd, 1) := by decide +kernel
theorem dX5_convert_118 : decode cX5_convert 118 = .ok (.iaload, 1) := by decide +kernel
theorem dX5_convert_119 : decode cX5_convert 119 = .ok (.iastore, 1) := by decide +kernel
theorem dX5_convert_120 : decode cX5_convert 120 = .ok (.aload_n 0, 1) := by decide +kernel
theorem dX5_convert_121 : decode cX5_convert 121 = .ok (.getfield 8, 3) := by decide +kernel
theorem dX5_convert_124 : decode cX5_convert 124 = .ok (.iload 4, 2) := by decide +kernel
theorem dX5_convert_126 : decode cX5_convert 126 = .ok (.invokestatic 141, 3) := by decide +kernel
theorem dX5_convert_129 : decode cX5_convert 129 = .ok (.bipush 11, 2) := by decide +kernel
theorem dX5_convert_131 : decode cX5_convert 131 = .ok (.iadd, 1) := by decide +kernel
theorem dX5_convert_132 : decode cX5_convert 132 = .ok (.iload 5, 2) := by decide +kernel
theorem dX5_convert_134 : decode cX5_convert 134 = .ok (.iadd, 1) := by decide +kernel
theorem dX5_convert_135 : decode cX5_convert 135 = .ok (.aload_n 0, 1) := by decide +kernel
theorem dX5_convert_136 : decode cX5_convert 136 = .ok (.getfield 8, 3) := by decide +kernel
theorem dX5_convert_139 : decode cX5_convert 139 = .ok (.iload_n 1, 1) := by decide +kernel
theorem dX5_convert_140 : decode cX5_convert 140 = .ok (.invokestatic 141, 3) := by decide +kernel
theorem dX5_convert_143 : decode cX5_convert 143 = .ok (.bipush 11, 2) := by decide +kernel
theorem dX5_convert_145 : decode cX5_convert 145 = .ok (.iadd, 1) := by decide +kernel
theorem dX5_convert_146 : decode cX5_convert 146 = .ok (.iload 5, 2) := by decide +kernel
theorem dX5_convert_148 : decode cX5_convert 148 = .ok (.iadd, 1) := by decide +kernel
theorem dX5_convert_149 : decode cX5_convert 149 = .ok (.iaload, 1) := by decide +kernel
theorem dX5_convert_150 : decode cX5_convert 150 = .ok (.iastore, 1) := by decide +kernel
theorem dX5_convert_151 : decode cX5_convert 151 = .ok (.iinc 5 1, 3) := by decide +kernel
theorem dX5_convert_154 : decode cX5_convert 154 = .ok (.goto (-105), 3) := by decide +kernel
theorem dX5_convert_157 : decode cX5_convert 157 = .ok (.iload 4, 2) := by decide +kernel
theorem dX5_convert_159 : decode cX5_convert 159 = .ok (.ireturn, 1) := by decide +kernel
theorem dX5_keep_0 : decode cX5_keep 0 = .ok (.iload_n 1, 1) := by decide +kernel
theorem dX5_keep_1 : decode cX5_keep 1 = .ok (.ifCond .lt 8, 3) := by decide +kernel
theorem dX5_keep_4 : decode cX5_keep 4 = .ok (.iload_n 1, 1) := by decide +kernel
theorem dX5_keep_5 : decode cX5_keep 5 = .ok (.iconst 1, 1) := by decide +kernel
theorem dX5_keep_6 : decode cX5_keep 6 = .ok (.if_icmp .le 5, 3) := by decide +kernel
theorem dX5_keep_9 : decode cX5_keep 9 = .ok (.iconst 0, 1) := by decide +kernel
theorem dX5_keep_10 : decode cX5_keep 10 = .ok (.ireturn, 1) := by decide +kernel
theorem dX5_keep_11 : decode cX5_keep 11 = .ok (.iconst 0, 1) := by decide +kernel
theorem dX5_keep_12 : decode cX5_keep 12 = .ok (.istore_n 2, 1) := by decide +kernel
theorem dX5_keep_13 : decode cX5_keep 13 = .ok (.iload_n 2, 1) := by decide +kernel
theorem dX5_keep_14 : decode cX5_keep 14 = .ok (.sipush 20870, 3) := by decide +kernel
theorem dX5_keep_17 : decode cX5_keep 17 = .ok (.if_icmp .ge 29, 3) := by decide +kernel
theorem dX5_keep_20 : decode cX5_keep 20 = .ok (.aload_n 0, 1) := by decide +kernel
theorem dX5_keep_21 : decode cX5_keep 21 = .ok (.getfield 8, 3) := by decide +kernel
theorem dX5_keep_24 : decode cX5_keep 24 = .ok (.sipush 20870, 3) := by decide +kernel
theorem dX5_keep_27 : decode cX5_keep 27 = .ok (.iload_n 1, 1) := by decide +kernel
theorem dX5_keep_28 : decode cX5_keep 28 = .ok (.iconst 1, 1) := by decide +kernel
theorem dX5_keep_29 : decode cX5_keep 29 = .ok (.iadd, 1) := by decide +kernel
theorem dX5_keep_30 : decode cX5_keep 30 = .ok (.imul, 1) := by decide +kernel
theorem dX5_keep_31 : decode cX5_keep 31 = .ok (.iload_n 2, 1) := by decide +kernel
theorem dX5_keep_32 : decode cX5_keep 32 = .ok (.iadd, 1) := by decide +kernel
theorem dX5_keep_33 : decode cX5_keep 33 = .ok (.aload_n 0, 1) := by decide +kernel
theorem dX5_keep_34 : decode cX5_keep 34 = .ok (.getfield 8, 3) := by decide +kernel
theorem dX5_keep_37 : decode cX5_keep 37 = .ok (.iload_n 2, 1) := by decide +kernel
theorem dX5_keep_38 : decode cX5_keep 38 = .ok (.iaload, 1) := by decide +kernel
theorem dX5_keep_39 : decode cX5_keep 39 = .ok (.iastore, 1) := by decide +kernel
theorem dX5_keep_40 : decode cX5_keep 40 = .ok (.iinc 2 1, 3) := by decide +kernel
theorem dX5_keep_43 : decode cX5_keep 43 = .ok (.goto (-30), 3) := by decide +kernel
theorem dX5_keep_46 : decode cX5_keep 46 = .ok (.aload_n 0, 1) := by decide +kernel
theorem dX5_keep_47 : decode cX5_keep 47 = .ok (.getfield 14, 3) := by decide +kernel
theorem dX5_keep_50 : decode cX5_keep 50 = .ok (.iload_n 1, 1) := by decide +kernel
theorem dX5_keep_51 : decode cX5_keep 51 = .ok (.iconst 1, 1) := by decide +kernel
theorem dX5_keep_52 : decode cX5_keep 52 = .ok (.bastore, 1) := by decide +kernel
theorem dX5_keep_53 : decode cX5_keep 53 = .ok (.iconst 1, 1) := by decide +kernel
theorem dX5_keep_54 : decode cX5_keep 54 = .ok (.ireturn, 1) := by decide +kernel
theorem dX5_back_0 : decode cX5_back 0 = .ok (.iload_n 1, 1) := by decide +kernel
theorem dX5_back_1 : decode cX5_back 1 = .ok (.ifCond .lt 17, 3) := by decide +kernel
theorem dX5_back_4 : decode cX5_back 4 = .ok (.iload_n 1, 1) := by decide +kernel
theorem dX5_back_5 : decode cX5_back 5 = .ok (.iconst 1, 1) := by decide +kernel
theorem dX5_back_6 : decode cX5_back 6 = .ok (.if_icmp .gt 12, 3) := by decide +kernel
theorem dX5_back_9 : decode cX5_back 9 = .ok (.aload_n 0, 1) := by decide +kernel
theorem dX5_back_10 : decode cX5_back 10 = .ok (.getfield 14, 3) := by decide +kernel
theorem dX5_back_13 : decode cX5_back 13 = .ok (.iload_n 1, 1) := by decide +kernel
theorem dX5_back_14 : decode cX5_back 14 = .ok (.baload, 1) := by decide +kernel
theorem dX5_back_15 : decode cX5_back 15 = .ok (.ifCond .ne 5, 3) := by decide +kernel
theorem dX5_back_18 : decode cX5_back 18 = .ok (.iconst 0, 1) := by decide +kernel
theorem dX5_back_19 : decode cX5_back 19 = .ok (.ireturn, 1) := by decide +kernel
theorem dX5_back_20 : decode cX5_back 20 = .ok (.iconst 0, 1) := by decide +kernel
theorem dX5_back_21 : decode cX5_back 21 = .ok (.istore_n 2, 1) := by decide +kernel
theorem dX5_back_22 : decode cX5_back 22 = .ok (.iload_n 2, 1) := by decide +kernel
theorem dX5_back_23 : decode cX5_back 23 = .ok (.sipush 20870, 3) := by decide +kernel
theorem dX5_back_26 : decode cX5_back 26 = .ok (.if_icmp .ge 29, 3) := by decide +kernel
theorem dX5_back_29 : decode cX5_back 29 = .ok (.aload_n 0, 1) := by decide +kernel
theorem dX5_back_30 : decode cX5_back 30 = .ok (.getfield 8, 3) := by decide +kernel
theorem dX5_back_33 : decode cX5_back 33 = .ok (.iload_n 2, 1) := by decide +kernel
theorem dX5_back_34 : decode cX5_back 34 = .ok (.aload_n 0, 1) := by decide +kernel
theorem dX5_back_35 : decode cX5_back 35 = .ok (.getfield 8, 3) := by decide +kernel
theorem dX5_back_38 : decode cX5_back 38 = .ok (.sipush 20870, 3) := by decide +kernel
theorem dX5_back_41 : decode cX5_back 41 = .ok (.iload_n 1, 1) := by decide +kernel
theorem dX5_back_42 : decode cX5_back 42 = .ok (.iconst 1, 1) := by decide +kernel
theorem dX5_back_43 : decode cX5_back 43 = .ok (.iadd, 1) := by decide +kernel
theorem dX5_back_44 : decode cX5_back 44 = .ok (.imul, 1) := by decide +kernel
theorem dX5_back_45 : decode cX5_back 45 = .ok (.iload_n 2, 1) := by decide +kernel
theorem dX5_back_46 : decode cX5_back 46 = .ok (.iadd, 1) := by decide +kernel
theorem dX5_back_47 : decode cX5_back 47 = .ok (.iaload, 1) := by decide +kernel
theorem dX5_back_48 : decode cX5_back 48 = .ok (.iastore, 1) := by decide +kernel
theorem dX5_back_49 : decode cX5_back 49 = .ok (.iinc 2 1, 3) := by decide +kernel
theorem dX5_back_52 : decode cX5_back 52 = .ok (.goto (-30), 3) := by decide +kernel
theorem dX5_back_55 : decode cX5_back 55 = .ok (.iconst 1, 1) := by decide +kernel
theorem dX5_back_56 : decode cX5_back 56 = .ok (.ireturn, 1) := by decide +kernel
section RM
variable {ρ : Type} {p : Program} {l : Launch} {e : Env} {R : Room} {s : State} {m : MethodId} {args : Array Value} {below : List Frame} {meth : Method} {c : Code}
variable {cc : ByteArray} {nL : Nat} {rt : Option FieldType} {D : va_G} {cI cZ : ClassId} {q : Nat → Nat} {QQ : ρ → State → Prop} {pc : Nat} {lv : List (Nat × Value)}

-- convert
def fR_convert_b151 (n : Nat) (k49 : Int32 → Int32 → Int32 → MR → Option (Int32 × MR)) (x1 : Int32) (x4 : Int32) (x5 : Int32) (M : MR) : Option (Int32 × MR) :=
    k49 x1 x4 (x5 + (nI 1)) M
theorem wR_convert_b151 (X : gX p s m args meth c cX5_convert 6 RX5 (some .int) D (tyR cI cZ)) (n : Nat) (k49 : Int32 → Int32 → Int32 → MR → Option (Int32 × MR)) (hk49 : ∀ (x1 : Int32) (x4 : Int32) (x5 : Int32) (M : MR), gG p l e (rmR 4 89) s m args below meth c 6 (ZR D cI cZ q (AR q s.heap.size) s.heap M) 0 0 (fun r => MQ below (QI D cI cZ q s.heap.size r) args s 0 0 (AR q s.heap.size)) 49 [(0, .ref (q 34)), (1, .int x1), (4, .int x4), (5, .int x5)] [] (k49 x1 x4 x5 M)) (x1 : Int32) (x4 : Int32) (x5 : Int32) (M : MR) : gG p l e (rmR 4 89) s m args below meth c 6 (ZR D cI cZ q (AR q s.heap.size) s.heap M) 0 0 (fun r => MQ below (QI D cI cZ q s.heap.size r) args s 0 0 (AR q s.heap.size)) 151 [(0, .ref (q 34)), (1, .int x1), (4, .int x4), (5, .int x5)] [] (fR_convert_b151 n k49 x1 x4 x5 M) := by
  unfold fR_convert_b151
  refine g_iinc (v := (nI 1)) (lv' := [(5, .int (x5 + (nI 1))), (0, .ref (q 34)), (1, .int x1), (4, .int x4)]) X dX5_convert_151 rfl (by decide) (by decide) rfl ?_
  refine g_goto (tgt := 49) X dX5_convert_154 (by decide) ?_
  exact g_pick [1, 2, 3, 0] rfl (hk49 x1 x4 (x5 + (nI 1)) M)
def fR_convert_l49 (n : Nat) : Nat → Int32 → Int32 → Int32 → MR → Option (Int32 × MR)
  | 0, _, _, _, _ => none
  | k + 1, x1, x4, x5, M => if (nI 10) ≤ x5 then
      (some (x4, M))
    else
      (bnd (fR_objAt n x4 M) fun v1 M1 =>
      rd M1 0 62610 ((v1 + (nI 1)) + x5) fun v2 =>
      if v2 = 0 then
        (fR_convert_b151 n (fR_convert_l49 n k) x1 x4 x5 M1)
      else
        (bnd (fR_objAt n x1 M1) fun v3 M3 =>
        rd M3 0 62610 ((v3 + (nI 1)) + x5) fun v4 =>
        if v4 = 0 then
          (fR_convert_b151 n (fR_convert_l49 n k) x1 x4 x5 M3)
        else
          (bnd (fR_objAt n x4 M3) fun v5 M5 =>
          bnd (fR_objAt n x1 M5) fun v6 M6 =>
          rd M6 0 62610 ((v6 + (nI 1)) + x5) fun v7 =>
          wr M6 0 62610 ((v5 + (nI 1)) + x5) v7 fun M8 =>
          bnd (fR_objAt n x4 M8) fun v9 M9 =>
          bnd (fR_objAt n x1 M9) fun v10 M10 =>
          rd M10 0 62610 ((v10 + (nI 11)) + x5) fun v11 =>
          wr M10 0 62610 ((v9 + (nI 11)) + x5) v11 fun M12 =>
          fR_convert_b151 n (fR_convert_l49 n k) x1 x4 x5 M12)))
theorem wR_convert_l49 (X : gX p s m args meth c cX5_convert 6 RX5 (some .int) D (tyR cI cZ)) (n : Nat) : ∀ (k : Nat) (x1 : Int32) (x4 : Int32) (x5 : Int32) (M : MR), gG p l e (rmR 4 89) s m args below meth c 6 (ZR D cI cZ q (AR q s.heap.size) s.heap M) 0 0 (fun r => MQ below (QI D cI cZ q s.heap.size r) args s 0 0 (AR q s.heap.size)) 49 [(0, .ref (q 34)), (1, .int x1), (4, .int x4), (5, .int x5)] [] (fR_convert_l49 n k x1 x4 x5 M) := by
  intro k
  induction k with
  | zero =>
    intro x1 x4 x5 M
    exact g_none
  | succ k ih =>
    intro x1 x4 x5 M
    rw [fR_convert_l49]
    refine g_iload X dX5_convert_49 rfl ?_
    refine g_bipush (v := (nI 10)) X dX5_convert_51 (by decide) ?_
    refine g_icmp_ge (tgt := 157) X dX5_convert_53 (by decide) ?_ ?_
    · refine g_iload X dX5_convert_157 rfl ?_
      exact r_iret X dX5_convert_159
    · refine g_aload_n X dX5_convert_56 rfl rfl ?_
      refine r_g_m X dX5_convert_57 ?_
      refine g_iload X dX5_convert_60 rfl ?_
      refine k_objAt X ⟨Nat.le_of_ble_eq_true rfl, Nat.le_of_ble_eq_true rfl⟩ (Nat.le_of_ble_eq_true rfl) dX5_convert_62 ?_
      intro v1 M1
      refine g_iconst (v := (nI 1)) X dX5_convert_65 (by decide) ?_
      refine g_iadd X dX5_convert_66 ?_
      refine g_iload X dX5_convert_67 rfl ?_
      refine g_iadd X dX5_convert_69 ?_
      refine r_l_m X dX5_convert_70 ?_
      intro v2
      refine g_if_eq (tgt := 151) X dX5_convert_71 (by decide) ?_ ?_
      · exact g_pick [0, 1, 2, 3] rfl (wR_convert_b151 X n (fR_convert_l49 n k) ih x1 x4 x5 M1)
      · refine g_aload_n X dX5_convert_74 rfl rfl ?_
        refine r_g_m X dX5_convert_75 ?_
        refine g_iload_n X dX5_convert_78 rfl rfl ?_
        refine k_objAt X ⟨Nat.le_of_ble_eq_true rfl, Nat.le_of_ble_eq_true rfl⟩ (Nat.le_of_ble_eq_true rfl) dX5_convert_79 ?_
        intro v3 M3
        refine g_iconst (v := (nI 1)) X dX5_convert_82 (by decide) ?_
        refine g_iadd X dX5_convert_83 ?_
        refine g_iload X dX5_convert_84 rfl ?_
        refine g_iadd X dX5_convert_86 ?_
        refine r_l_m X dX5_convert_87 ?_
        intro v4
        refine g_if_eq (tgt := 151) X dX5_convert_88 (by decide) ?_ ?_
        · exact g_pick [0, 1, 2, 3] rfl (wR_convert_b151 X n (fR_convert_l49 n k) ih x1 x4 x5 M3)
        · refine g_aload_n X dX5_convert_91 rfl rfl ?_
          refine r_g_m X dX5_convert_92 ?_
          refine g_iload X dX5_convert_95 rfl ?_
          refine k_objAt X ⟨Nat.le_of_ble_eq_true rfl, Nat.le_of_ble_eq_true rfl⟩ (Nat.le_of_ble_eq_true rfl) dX5_convert_97 ?_
          intro v5 M5
          refine g_iconst (v := (nI 1)) X dX5_convert_100 (by decide) ?_
          refine g_iadd X dX5_convert_101 ?_
          refine g_iload X dX5_convert_102 rfl ?_
          refine g_iadd X dX5_convert_104 ?_
          refine g_aload_n X dX5_convert_105 rfl rfl ?_
          refine r_g_m X dX5_convert_106 ?_
          refine g_iload_n X dX5_convert_109 rfl rfl ?_
          refine k_objAt X ⟨Nat.le_of_ble_eq_true rfl, Nat.le_of_ble_eq_true rfl⟩ (Nat.le_of_ble_eq_true rfl) dX5_convert_110 ?_
          intro v6 M6
          refine g_iconst (v := (nI 1)) X dX5_convert_113 (by decide) ?_
          refine g_iadd X dX5_convert_114 ?_
          refine g_iload X dX5_convert_115 rfl ?_
          refine g_iadd X dX5_convert_117 ?_
          refine r_l_m X dX5_convert_118 ?_
          intro v7
          refine r_s_m X dX5_convert_119 ?_
          intro M8
          refine g_aload_n X dX5_convert_120 rfl rfl ?_
          refine r_g_m X dX5_convert_121 ?_
          refine g_iload X dX5_convert_124 rfl ?_
          refine k_objAt X ⟨Nat.le_of_ble_eq_true rfl, Nat.le_of_ble_eq_true rfl⟩ (Nat.le_of_ble_eq_true rfl) dX5_convert_126 ?_
          intro v9 M9
          refine g_bipush (v := (nI 11)) X dX5_convert_129 (by decide) ?_
          refine g_iadd X dX5_convert_131 ?_
          refine g_iload X dX5_convert_132 rfl ?_
          refine g_iadd X dX5_convert_134 ?_
          refine g_aload_n X dX5_convert_135 rfl rfl ?_
          refine r_g_m X dX5_convert_136 ?_
          refine g_iload_n X dX5_convert_139 rfl rfl ?_
          refine k_objAt X ⟨Nat.le_of_ble_eq_true rfl, Nat.le_of_ble_eq_true rfl⟩ (Nat.le_of_ble_eq_true rfl) dX5_convert_140 ?_
          intro v10 M10
          refine g_bipush (v := (nI 11)) X dX5_convert_143 (by decide) ?_
          refine g_iadd X dX5_convert_145 ?_
          refine g_iload X dX5_convert_146 rfl ?_
          refine g_iadd X dX5_convert_148 ?_
          refine r_l_m X dX5_convert_149 ?_
          intro v11
          refine r_s_m X dX5_convert_150 ?_
          intro M12
          exact g_pick [0, 1, 2, 3] rfl (wR_convert_b151 X n (fR_convert_l49 n k) ih x1 x4 x5 M12)
def fR_convert (n : Nat) (x1 : Int32) (x2 : Int32) (M : MR) : Option (Int32 × MR) :=
    bnd (fR_newest n x2 M) fun v1 M1 =>
    bnd (fR_isObject n x1 M1) fun v2 M2 =>
    if v2 = 0 then
      (some ((-1 : Int32), M2))
    else
      (bnd (fR_isClass n v1 M2) fun v3 M3 =>
      if v3 = 0 then
        (some ((-1 : Int32), M3))
      else
        (rd M3 0 62610 (nI 2) fun v4 =>
        if v4 = (nI 150) then
          (some ((-2 : Int32), M3))
        else
          (bnd (fR_newObject n v1 M3) fun v5 M5 =>
          fR_convert_l49 n n x1 v5 (nI 0) M5)))
theorem c_convert (l : Launch) (D : va_G) (cI cZ : ClassId) (q : Nat → Nat) (n : Nat) (x1 : Int32) (x2 : Int32) (M : MR) : MetR l D cI cZ q yX5_convert cX5_convert 6 (some .int) 4 89 QI [.ref (q 34), .int x1, .int x2] M (fR_convert n x1 x2 M) := by
  refine MetR.of (by decide) rfl (Nat.le_of_ble_eq_true rfl) ?_
  intro p e s m args below meth c X
  unfold fR_convert
  refine g_pick (lv' := [(0, .ref (q 34)), (1, .int x1), (2, .int x2)]) [0, 1, 2] rfl ?_
  refine g_aload_n X dX5_convert_0 rfl rfl ?_
  refine g_iload_n X dX5_convert_1 rfl rfl ?_
  refine k_newest X ⟨Nat.le_of_ble_eq_true rfl, Nat.le_of_ble_eq_true rfl⟩ (Nat.le_of_ble_eq_true rfl) dX5_convert_2 ?_
  intro v1 M1
  refine g_istore_n (lv' := [(3, .int v1), (0, .ref (q 34)), (1, .int x1), (2, .int x2)]) X dX5_convert_5 rfl (by decide) rfl ?_
  refine g_aload_n X dX5_convert_6 rfl rfl ?_
  refine g_iload_n X dX5_convert_7 rfl rfl ?_
  refine k_isObject X ⟨Nat.le_of_ble_eq_true rfl, Nat.le_of_ble_eq_true rfl⟩ (Nat.le_of_ble_eq_true rfl) dX5_convert_8 ?_
  intro v2 M2
  refine g_if_eq (tgt := 22) X dX5_convert_11 (by decide) ?_ ?_
  · refine g_iconst (v := (-1 : Int32)) X dX5_convert_22 (by decide) ?_
    exact r_iret X dX5_convert_23
  · refine g_aload_n X dX5_convert_14 rfl rfl ?_
    refine g_iload_n X dX5_convert_15 rfl rfl ?_
    refine k_isClass X ⟨Nat.le_of_ble_eq_true rfl, Nat.le_of_ble_eq_true rfl⟩ (Nat.le_of_ble_eq_true rfl) dX5_convert_16 ?_
    intro v3 M3
    refine g_if_ne (tgt := 24) X dX5_convert_19 (by decide) ?_ ?_
    · refine g_aload_n X dX5_convert_24 rfl rfl ?_
      refine r_g_m X dX5_convert_25 ?_
      refine g_iconst (v := (nI 2)) X dX5_convert_28 (by decide) ?_
      refine r_l_m X dX5_convert_29 ?_
      intro v4
      refine g_sipush (v := (nI 150)) X dX5_convert_30 (by decide) ?_
      refine g_icmp_ne (tgt := 39) X dX5_convert_33 (by decide) ?_ ?_
      · refine g_aload_n X dX5_convert_39 rfl rfl ?_
        refine g_iload_n X dX5_convert_40 rfl rfl ?_
        refine k_newObject X ⟨Nat.le_of_ble_eq_true rfl, Nat.le_of_ble_eq_true rfl⟩ (Nat.le_of_ble_eq_true rfl) dX5_convert_41 ?_
        intro v5 M5
        refine g_istore (lv' := [(4, .int v5), (3, .int v1), (0, .ref (q 34)), (1, .int x1), (2, .int x2)]) X dX5_convert_44 (by decide) rfl ?_
        refine g_iconst (v := (nI 0)) X dX5_convert_46 (by decide) ?_
        refine g_istore (lv' := [(5, .int (nI 0)), (4, .int v5), (3, .int v1), (0, .ref (q 34)), (1, .int x1), (2, .int x2)]) X dX5_convert_47 (by decide) rfl ?_
        exact g_pick [3, 4, 1, 0] rfl (wR_convert_l49 X n n x1 v5 (nI 0) M5)
      · refine g_bipush (v := (-2 : Int32)) X dX5_convert_36 (by decide) ?_
        exact r_iret X dX5_convert_38
    · refine g_iconst (v := (-1 : Int32)) X dX5_convert_22 (by decide) ?_
      exact r_iret X dX5_convert_23
-- keep
def fR_keep_l13 (n : Nat) : Nat → Int32 → Int32 → MR → Option (Int32 × MR)
  | 0, _, _, _ => none
  | k + 1, x1, x2, M => if (nI 20870) ≤ x2 then
      (wz M 1 2 x1 (nI 1) fun M1 =>
      zt (nI 1) (some ((nI 1), M1)))
    else
      (rd M 0 62610 x2 fun v2 =>
      wr M 0 62610 (((nI 20870) * (x1 + (nI 1))) + x2) v2 fun M3 =>
      (fR_keep_l13 n k) x1 (x2 + (nI 1)) M3)
theorem wR_keep_l13 (X : gX p s m args meth c cX5_keep 3 RX5 (some .boolean) D (tyR cI cZ)) (n : Nat) : ∀ (k : Nat) (x1 : Int32) (x2 : Int32) (M : MR), gG p l e (rmR 0 0) s m args below meth c 3 (ZR D cI cZ q (AR q s.heap.size) s.heap M) 0 0 (fun r => MQ below (QI D cI cZ q s.heap.size r) args s 0 0 (AR q s.heap.size)) 13 [(0, .ref (q 34)), (1, .int x1), (2, .int x2)] [] (fR_keep_l13 n k x1 x2 M) := by
  intro k
  induction k with
  | zero =>
    intro x1 x2 M
    exact g_none
  | succ k ih =>
    intro x1 x2 M
    rw [fR_keep_l13]
    refine g_iload_n X dX5_keep_13 rfl rfl ?_
    refine g_sipush (v := (nI 20870)) X dX5_keep_14 (by decide) ?_
    refine g_icmp_ge (tgt := 46) X dX5_keep_17 (by decide) ?_ ?_
    · refine g_aload_n X dX5_keep_46 rfl rfl ?_
      refine r_g_isKept X dX5_keep_47 ?_
      refine g_iload_n X dX5_keep_50 rfl rfl ?_
      refine g_iconst (v := (nI 1)) X dX5_keep_51 (by decide) ?_
      refine r_s_isKept X dX5_keep_52 ?_
      intro M1
      refine g_iconst (v := (nI 1)) X dX5_keep_53 (by decide) ?_
      exact r_zret X dX5_keep_54
    · refine g_aload_n X dX5_keep_20 rfl rfl ?_
      refine r_g_m X dX5_keep_21 ?_
      refine g_sipush (v := (nI 20870)) X dX5_keep_24 (by decide) ?_
      refine g_iload_n X dX5_keep_27 rfl rfl ?_
      refine g_iconst (v := (nI 1)) X dX5_keep_28 (by decide) ?_
      refine g_iadd X dX5_keep_29 ?_
      refine g_imul X dX5_keep_30 ?_
      refine g_iload_n X dX5_keep_31 rfl rfl ?_
      refine g_iadd X dX5_keep_32 ?_
      refine g_aload_n X dX5_keep_33 rfl rfl ?_
      refine r_g_m X dX5_keep_34 ?_
      refine g_iload_n X dX5_keep_37 rfl rfl ?_
      refine r_l_m X dX5_keep_38 ?_
      intro v2
      refine r_s_m X dX5_keep_39 ?_
      intro M3
      refine g_iinc (v := (nI 1)) (lv' := [(2, .int (x2 + (nI 1))), (0, .ref (q 34)), (1, .int x1)]) X dX5_keep_40 rfl (by decide) (by decide) rfl ?_
      refine g_goto (tgt := 13) X dX5_keep_43 (by decide) ?_
      exact g_pick [1, 2, 0] rfl (ih x1 (x2 + (nI 1)) M3)
def fR_keep (n : Nat) (x1 : Int32) (M : MR) : Option (Int32 × MR) :=
    if x1 < 0 then
      (zt (nI 0) (some ((nI 0), M)))
    else
      (if x1 ≤ (nI 1) then (fR_keep_l13 n n x1 (nI 0) M) else (zt (nI 0) (some ((nI 0), M))))
theorem c_keep (l : Launch) (D : va_G) (cI cZ : ClassId) (q : Nat → Nat) (n : Nat) (x1 : Int32) (M : MR) : MetR l D cI cZ q yX5_keep cX5_keep 3 (some .boolean) 0 0 QI [.ref (q 34), .int x1] M (fR_keep n x1 M) := by
  refine MetR.of (by decide) rfl (Nat.le_of_ble_eq_true rfl) ?_
  intro p e s m args below meth c X
  unfold fR_keep
  refine g_pick (lv' := [(0, .ref (q 34)), (1, .int x1)]) [0, 1] rfl ?_
  refine g_iload_n X dX5_keep_0 rfl rfl ?_
  refine g_if_lt (tgt := 9) X dX5_keep_1 (by decide) ?_ ?_
  · refine g_iconst (v := (nI 0)) X dX5_keep_9 (by decide) ?_
    exact r_zret X dX5_keep_10
  · refine g_iload_n X dX5_keep_4 rfl rfl ?_
    refine g_iconst (v := (nI 1)) X dX5_keep_5 (by decide) ?_
    refine g_icmp_le (tgt := 11) X dX5_keep_6 (by decide) ?_ ?_
    · refine g_iconst (v := (nI 0)) X dX5_keep_11 (by decide) ?_
      refine g_istore_n (lv' := [(2, .int (nI 0)), (0, .ref (q 34)), (1, .int x1)]) X dX5_keep_12 rfl (by decide) rfl ?_
      exact g_pick [1, 2, 0] rfl (wR_keep_l13 X n n x1 (nI 0) M)
    · refine g_iconst (v := (nI 0)) X dX5_keep_9 (by decide) ?_
      exact r_zret X dX5_keep_10
-- back
def fR_back_l22 (n : Nat) : Nat → Int32 → Int32 → MR → Option (Int32 × MR)
  | 0, _, _, _ => none
  | k + 1, x1, x2, M => if (nI 20870) ≤ x2 then
      (zt (nI 1) (some ((nI 1), M)))
    else
      (rd M 0 62610 (((nI 20870) * (x1 + (nI 1))) + x2) fun v1 =>
      wr M 0 62610 x2 v1 fun M2 =>
      (fR_back_l22 n k) x1 (x2 + (nI 1)) M2)
theorem wR_back_l22 (X : gX p s m args meth c cX5_back 3 RX5 (some .boolean) D (tyR cI cZ)) (n : Nat) : ∀ (k : Nat) (x1 : Int32) (x2 : Int32) (M : MR), gG p l e (rmR 0 0) s m args below meth c 3 (ZR D cI cZ q (AR q s.heap.size) s.heap M) 0 0 (fun r => MQ below (QI D cI cZ q s.heap.size r) args s 0 0 (AR q s.heap.size)) 22 [(0, .ref (q 34)), (1, .int x1), (2, .int x2)] [] (fR_back_l22 n k x1 x2 M) := by
  intro k
  induction k with
  | zero =>
    intro x1 x2 M
    exact g_none
  | succ k ih =>
    intro x1 x2 M
    rw [fR_back_l22]
    refine g_iload_n X dX5_back_22 rfl rfl ?_
    refine g_sipush (v := (nI 20870)) X dX5_back_23 (by decide) ?_
    refine g_icmp_ge (tgt := 55) X dX5_back_26 (by decide) ?_ ?_
    · refine g_iconst (v := (nI 1)) X dX5_back_55 (by decide) ?_
      exact r_zret X dX5_back_56
    · refine g_aload_n X dX5_back_29 rfl rfl ?_
      refine r_g_m X dX5_back_30 ?_
      refine g_iload_n X dX5_back_33 rfl rfl ?_
      refine g_aload_n X dX5_back_34 rfl rfl ?_
      refine r_g_m X dX5_back_35 ?_
      refine g_sipush (v := (nI 20870)) X dX5_back_38 (by decide) ?_
      refine g_iload_n X dX5_back_41 rfl rfl ?_
      refine g_iconst (v := (nI 1)) X dX5_back_42 (by decide) ?_
      refine g_iadd X dX5_back_43 ?_
      refine g_imul X dX5_back_44 ?_
      refine g_iload_n X dX5_back_45 rfl rfl ?_
      refine g_iadd X dX5_back_46 ?_
      refine r_l_m X dX5_back_47 ?_
      intro v1
      refine r_s_m X dX5_back_48 ?_
      intro M2
      refine g_iinc (v := (nI 1)) (lv' := [(2, .int (x2 + (nI 1))), (0, .ref (q 34)), (1, .int x1)]) X dX5_back_49 rfl (by decide) (by decide) rfl ?_
      refine g_goto (tgt := 22) X dX5_back_52 (by decide) ?_
      exact g_pick [1, 2, 0] rfl (ih x1 (x2 + (nI 1)) M2)
def fR_back (n : Nat) (x1 : Int32) (M : MR) : Option (Int32 × MR) :=
    if x1 < 0 then
      (zt (nI 0) (some ((nI 0), M)))
    else
      (if (nI 1) < x1 then
        (zt (nI 0) (some ((nI 0), M)))
      else
        (rd M 1 2 x1 fun v1 =>
        if v1 = 0 then (zt (nI 0) (some ((nI 0), M))) else (fR_back_l22 n n x1 (nI 0) M)))
theorem c_back (l : Launch) (D : va_G) (cI cZ : ClassId) (q : Nat → Nat) (n : Nat) (x1 : Int32) (M : MR) : MetR l D cI cZ q yX5_back cX5_back 3 (some .boolean) 0 0 QI [.ref (q 34), .int x1] M (fR_back n x1 M) := by
  refine MetR.of (by decide) rfl (Nat.le_of_ble_eq_true rfl) ?_
  intro p e s m args below meth c X
  unfold fR_back
  refine g_pick (lv' := [(0, .ref (q 34)), (1, .int x1)]) [0, 1] rfl ?_
  refine g_iload_n X dX5_back_0 rfl rfl ?_
  refine g_if_lt (tgt := 18) X dX5_back_1 (by decide) ?_ ?_
  · refine g_iconst (v := (nI 0)) X dX5_back_18 (by decide) ?_
    exact r_zret X dX5_back_19
  · refine g_iload_n X dX5_back_4 rfl rfl ?_
    refine g_iconst (v := (nI 1)) X dX5_back_5 (by decide) ?_
    refine g_icmp_gt (tgt := 18) X dX5_back_6 (by decide) ?_ ?_
    · refine g_iconst (v := (nI 0)) X dX5_back_18 (by decide) ?_
      exact r_zret X dX5_back_19
    · refine g_aload_n X dX5_back_9 rfl rfl ?_
      refine r_g_isKept X dX5_back_10 ?_
      refine g_iload_n X dX5_back_13 rfl rfl ?_
      refine r_l_isKept X dX5_back_14 ?_
      intro v1
      refine g_if_ne (tgt := 20) X dX5_back_15 (by decide) ?_ ?_
      · refine g_iconst (v := (nI 0)) X dX5_back_20 (by decide) ?_
        refine g_istore_n (lv' := [(2, .int (nI 0)), (0, .ref (q 34)), (1, .int x1)]) X dX5_back_21 rfl (by decide) rfl ?_
        exact g_pick [1, 2, 0] rfl (wR_back_l22 X n n x1 (nI 0) M)
      · refine g_iconst (v := (nI 0)) X dX5_back_18 (by decide) ?_
        exact r_zret X dX5_back_19
end RM
