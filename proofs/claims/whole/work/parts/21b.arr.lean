theorem dJ7_rangeCheck_23922_0 : decode cJ7_rangeCheck_23922 0 = .ok (.iload_n 1, 1) := by decide +kernel
theorem dJ7_rangeCheck_23922_1 : decode cJ7_rangeCheck_23922 1 = .ok (.iload_n 2, 1) := by decide +kernel
theorem dJ7_rangeCheck_23922_2 : decode cJ7_rangeCheck_23922 2 = .ok (.if_icmp .le 44, 3) := by decide +kernel
theorem dJ7_rangeCheck_23922_5 : decode cJ7_rangeCheck_23922 5 = .ok (.new 43, 3) := by decide +kernel
theorem dJ7_rangeCheck_23922_8 : decode cJ7_rangeCheck_23922 8 = .ok (.dup, 1) := by decide +kernel
theorem dJ7_rangeCheck_23922_9 : decode cJ7_rangeCheck_23922 9 = .ok (.new 45, 3) := by decide +kernel
theorem dJ7_rangeCheck_23922_12 : decode cJ7_rangeCheck_23922 12 = .ok (.dup, 1) := by decide +kernel
theorem dJ7_rangeCheck_23922_13 : decode cJ7_rangeCheck_23922 13 = .ok (.invokespecial 47, 3) := by decide +kernel
theorem dJ7_rangeCheck_23922_16 : decode cJ7_rangeCheck_23922 16 = .ok (.ldc 48, 2) := by decide +kernel
theorem dJ7_rangeCheck_23922_18 : decode cJ7_rangeCheck_23922 18 = .ok (.invokevirtual 50, 3) := by decide +kernel
theorem dJ7_rangeCheck_23922_21 : decode cJ7_rangeCheck_23922 21 = .ok (.iload_n 1, 1) := by decide +kernel
theorem dJ7_rangeCheck_23922_22 : decode cJ7_rangeCheck_23922 22 = .ok (.invokevirtual 54, 3) := by decide +kernel
theorem dJ7_rangeCheck_23922_25 : decode cJ7_rangeCheck_23922 25 = .ok (.ldc 57, 2) := by decide +kernel
theorem dJ7_rangeCheck_23922_27 : decode cJ7_rangeCheck_23922 27 = .ok (.invokevirtual 50, 3) := by decide +kernel
theorem dJ7_rangeCheck_23922_30 : decode cJ7_rangeCheck_23922 30 = .ok (.iload_n 2, 1) := by decide +kernel
theorem dJ7_rangeCheck_23922_31 : decode cJ7_rangeCheck_23922 31 = .ok (.invokevirtual 54, 3) := by decide +kernel
theorem dJ7_rangeCheck_23922_34 : decode cJ7_rangeCheck_23922 34 = .ok (.ldc 59, 2) := by decide +kernel
theorem dJ7_rangeCheck_23922_36 : decode cJ7_rangeCheck_23922 36 = .ok (.invokevirtual 50, 3) := by decide +kernel
theorem dJ7_rangeCheck_23922_39 : decode cJ7_rangeCheck_23922 39 = .ok (.invokevirtual 61, 3) := by decide +kernel
theorem dJ7_rangeCheck_23922_42 : decode cJ7_rangeCheck_23922 42 = .ok (.invokespecial 65, 3) := by decide +kernel
theorem dJ7_rangeCheck_23922_45 : decode cJ7_rangeCheck_23922 45 = .ok (.athrow, 1) := by decide +kernel
theorem dJ7_rangeCheck_23922_46 : decode cJ7_rangeCheck_23922 46 = .ok (.iload_n 1, 1) := by decide +kernel
theorem dJ7_rangeCheck_23922_47 : decode cJ7_rangeCheck_23922 47 = .ok (.ifCond .ge 12, 3) := by decide +kernel
theorem dJ7_rangeCheck_23922_50 : decode cJ7_rangeCheck_23922 50 = .ok (.new 68, 3) := by decide +kernel
theorem dJ7_rangeCheck_23922_53 : decode cJ7_rangeCheck_23922 53 = .ok (.dup, 1) := by decide +kernel
theorem dJ7_rangeCheck_23922_54 : decode cJ7_rangeCheck_23922 54 = .ok (.iload_n 1, 1) := by decide +kernel
theorem dJ7_rangeCheck_23922_55 : decode cJ7_rangeCheck_23922 55 = .ok (.invokespecial 70, 3) := by decide +kernel
theorem dJ7_rangeCheck_23922_58 : decode cJ7_rangeCheck_23922 58 = .ok (.athrow, 1) := by decide +kernel
theorem dJ7_rangeCheck_23922_59 : decode cJ7_rangeCheck_23922 59 = .ok (.iload_n 2, 1) := by decide +kernel
theorem dJ7_rangeCheck_23922_60 : decode cJ7_rangeCheck_23922 60 = .ok (.iload_n 0, 1) := by decide +kernel
theorem dJ7_rangeCheck_23922_61 : decode cJ7_rangeCheck_23922 61 = .ok (.if_icmp .le 12, 3) := by decide +kernel
theorem dJ7_rangeCheck_23922_64 : decode cJ7_rangeCheck_23922 64 = .ok (.new 68, 3) := by decide +kernel
theorem dJ7_rangeCheck_23922_67 : decode cJ7_rangeCheck_23922 67 = .ok (.dup, 1) := by decide +kernel
theorem dJ7_rangeCheck_23922_68 : decode cJ7_rangeCheck_23922 68 = .ok (.iload_n 2, 1) := by decide +kernel
theorem dJ7_rangeCheck_23922_69 : decode cJ7_rangeCheck_23922 69 = .ok (.invokespecial 70, 3) := by decide +kernel
theorem dJ7_rangeCheck_23922_72 : decode cJ7_rangeCheck_23922 72 = .ok (.athrow, 1) := by decide +kernel
theorem dJ7_rangeCheck_23922_73 : decode cJ7_rangeCheck_23922 73 = .ok (.return_, 1) := by decide +kernel
theorem dJ7_fill_53178_0 : decode cJ7_fill_53178 0 = .ok (.iconst 0, 1) := by decide +kernel
theorem dJ7_fill_53178_1 : decode cJ7_fill_53178 1 = .ok (.istore_n 2, 1) := by decide +kernel
theorem dJ7_fill_53178_2 : decode cJ7_fill_53178 2 = .ok (.aload_n 0, 1) := by decide +kernel
theorem dJ7_fill_53178_3 : decode cJ7_fill_53178 3 = .ok (.arraylength, 1) := by decide +kernel
theorem dJ7_fill_53178_4 : decode cJ7_fill_53178 4 = .ok (.istore_n 3, 1) := by decide +kernel
theorem dJ7_fill_53178_5 : decode cJ7_fill_53178 5 = .ok (.iload_n 2, 1) := by decide +kernel
theorem dJ7_fill_53178_6 : decode cJ7_fill_53178 6 = .ok (.iload_n 3, 1) := by decide +kernel
theorem dJ7_fill_53178_7 : decode cJ7_fill_53178 7 = .ok (.if_icmp .ge 13, 3) := by decide +kernel
theorem dJ7_fill_53178_10 : decode cJ7_fill_53178 10 = .ok (.aload_n 0, 1) := by decide +kernel
theorem dJ7_fill_53178_11 : decode cJ7_fill_53178 11 = .ok (.iload_n 2, 1) := by decide +kernel
theorem dJ7_fill_53178_12 : decode cJ7_fill_53178 12 = .ok (.iload_n 1, 1) := by decide +kernel
theorem dJ7_fill_53178_13 : decode cJ7_fill_53178 13 = .ok (.iastore, 1) := by decide +kernel
theorem dJ7_fill_53178_14 : decode cJ7_fill_53178 14 = .ok (.iinc 2 1, 3) := by decide +kernel
theorem dJ7_fill_53178_17 : decode cJ7_fill_53178 17 = .ok (.goto (-12), 3) := by decide +kernel
theorem dJ7_fill_53178_20 : decode cJ7_fill_53178 20 = .ok (.return_, 1) := by decide +kernel
theorem dJ7_fill_fda19_0 : decode cJ7_fill_fda19 0 = .ok (.aload_n 0, 1) := by decide +kernel
theorem dJ7_fill_fda19_1 : decode cJ7_fill_fda19 1 = .ok (.arraylength, 1) := by decide +kernel
theorem dJ7_fill_fda19_2 : decode cJ7_fill_fda19 2 = .ok (.iload_n 1, 1) := by decide +kernel
theorem dJ7_fill_fda19_3 : decode cJ7_fill_fda19 3 = .ok (.iload_n 2, 1) := by decide +kernel
theorem dJ7_fill_fda19_4 : decode cJ7_fill_fda19 4 = .ok (.invokestatic 13, 3) := by decide +kernel
theorem dJ7_fill_fda19_7 : decode cJ7_fill_fda19 7 = .ok (.iload_n 1, 1) := by decide +kernel
theorem dJ7_fill_fda19_8 : decode cJ7_fill_fda19 8 = .ok (.istore 4, 2) := by decide +kernel
theorem dJ7_fill_fda19_10 : decode cJ7_fill_fda19 10 = .ok (.iload 4, 2) := by decide +kernel
theorem dJ7_fill_fda19_12 : decode cJ7_fill_fda19 12 = .ok (.iload_n 2, 1) := by decide +kernel
theorem dJ7_fill_fda19_13 : decode cJ7_fill_fda19 13 = .ok (.if_icmp .ge 14, 3) := by decide +kernel
theorem dJ7_fill_fda19_16 : decode cJ7_fill_fda19 16 = .ok (.aload_n 0, 1) := by decide +kernel
theorem dJ7_fill_fda19_17 : decode cJ7_fill_fda19 17 = .ok (.iload 4, 2) := by decide +kernel
theorem dJ7_fill_fda19_19 : decode cJ7_fill_fda19 19 = .ok (.iload_n 3, 1) := by decide +kernel
theorem dJ7_fill_fda19_20 : decode cJ7_fill_fda19 20 = .ok (.iastore, 1) := by decide +kernel
theorem dJ7_fill_fda19_21 : decode cJ7_fill_fda19 21 = .ok (.iinc 4 1, 3) := by decide +kernel
theorem dJ7_fill_fda19_24 : decode cJ7_fill_fda19 24 = .ok (.goto (-14), 3) := by decide +kernel
theorem dJ7_fill_fda19_27 : decode cJ7_fill_fda19 27 = .ok (.return_, 1) := by decide +kernel
theorem dJ7_copyOf_59c91_0 : decode cJ7_copyOf_59c91 0 = .ok (.iload_n 1, 1) := by decide +kernel
theorem dJ7_copyOf_59c91_1 : decode cJ7_copyOf_59c91 1 = .ok (.aload_n 0, 1) := by decide +kernel
theorem dJ7_copyOf_59c91_2 : decode cJ7_copyOf_59c91 2 = .ok (.arraylength, 1) := by decide +kernel
theorem dJ7_copyOf_59c91_3 : decode cJ7_copyOf_59c91 3 = .ok (.if_icmp .ne 11, 3) := by decide +kernel
theorem dJ7_copyOf_59c91_6 : decode cJ7_copyOf_59c91 6 = .ok (.aload_n 0, 1) := by decide +kernel
theorem dJ7_copyOf_59c91_7 : decode cJ7_copyOf_59c91 7 = .ok (.invokevirtual 316, 3) := by decide +kernel
theorem dJ7_copyOf_59c91_10 : decode cJ7_copyOf_59c91 10 = .ok (.checkcast 317, 3) := by decide +kernel
theorem dJ7_copyOf_59c91_13 : decode cJ7_copyOf_59c91 13 = .ok (.areturn, 1) := by decide +kernel
theorem dJ7_copyOf_59c91_14 : decode cJ7_copyOf_59c91 14 = .ok (.iload_n 1, 1) := by decide +kernel
theorem dJ7_copyOf_59c91_15 : decode cJ7_copyOf_59c91 15 = .ok (.newarray .int, 2) := by decide +kernel
theorem dJ7_copyOf_59c91_17 : decode cJ7_copyOf_59c91 17 = .ok (.astore_n 2, 1) := by decide +kernel
theorem dJ7_copyOf_59c91_18 : decode cJ7_copyOf_59c91 18 = .ok (.aload_n 0, 1) := by decide +kernel
theorem dJ7_copyOf_59c91_19 : decode cJ7_copyOf_59c91 19 = .ok (.iconst 0, 1) := by decide +kernel
theorem dJ7_copyOf_59c91_20 : decode cJ7_copyOf_59c91 20 = .ok (.aload_n 2, 1) := by decide +kernel
theorem dJ7_copyOf_59c91_21 : decode cJ7_copyOf_59c91 21 = .ok (.iconst 0, 1) := by decide +kernel
theorem dJ7_copyOf_59c91_22 : decode cJ7_copyOf_59c91 22 = .ok (.aload_n 0, 1) := by decide +kernel
theorem dJ7_copyOf_59c91_23 : decode cJ7_copyOf_59c91 23 = .ok (.arraylength, 1) := by decide +kernel
theorem dJ7_copyOf_59c91_24 : decode cJ7_copyOf_59c91 24 = .ok (.iload_n 1, 1) := by decide +kernel
theorem dJ7_copyOf_59c91_25 : decode cJ7_copyOf_59c91 25 = .ok (.invokestatic 304, 3) := by decide +kernel
theorem dJ7_copyOf_59c91_28 : decode cJ7_copyOf_59c91 28 = .ok (.invokestatic 150, 3) := by decide +kernel
theorem dJ7_copyOf_59c91_31 : decode cJ7_copyOf_59c91 31 = .ok (.aload_n 2, 1) := by decide +kernel
theorem dJ7_copyOf_59c91_32 : decode cJ7_copyOf_59c91 32 = .ok (.areturn, 1) := by decide +kernel
def wA (cI : ClassId) (a : Nat) : Unit → CS → va_W := fun _ T => [(a, .inl (cI, T.2 0, .inl (T.1 2)))]
theorem ini_j7 : Cond.initialized RJ7 ∈ tt := tt_in (by decide +kernel) (by decide +kernel)
theorem ini_j9 : Cond.initialized "java/lang/Math" ∈ tt := tt_in (by decide +kernel) (by decide +kernel)
theorem ini_sys : Cond.initialized "java/lang/System" ∈ tt := tt_in (by decide +kernel) (by decide +kernel)
theorem ts_max : Cond.static Lib.Math.max.name ∈ tt := tt_in (by decide +kernel) (by decide +kernel)
theorem ts_min : Cond.static Lib.Math.min.name ∈ tt := tt_in (by decide +kernel) (by decide +kernel)
theorem tc_max : Cond.code Lib.Math.max.name Lib.Math.max.code 2 (some .int) ∈ tt := tt_in (by decide +kernel) (by decide +kernel)
theorem tc_min : Cond.code Lib.Math.min.name Lib.Math.min.code 2 (some .int) ∈ tt := tt_in (by decide +kernel) (by decide +kernel)
theorem tn_cpy : Cond.native arraycopyName ∈ tt := tt_in (by decide +kernel) (by decide +kernel)
theorem ts_cpy : Cond.static arraycopyName ∈ tt := tt_in (by decide +kernel) (by decide +kernel)
theorem tlX2_15 : Cond.methodLink RX2 15 Lib.Math.max.name ∈ tt := tt_in (by decide +kernel) (by decide +kernel)
theorem tlX2_31 : Cond.methodLink RX2 31 Lib.Math.min.name ∈ tt := tt_in (by decide +kernel) (by decide +kernel)
theorem tlX2_55 : Cond.methodLink RX2 55 arraycopyName ∈ tt := tt_in (by decide +kernel) (by decide +kernel)
theorem tlX0_40 : Cond.methodLink RX0 40 arraycopyName ∈ tt := tt_in (by decide +kernel) (by decide +kernel)
theorem tlJ7_304 : Cond.methodLink RJ7 304 Lib.Math.min.name ∈ tt := tt_in (by decide +kernel) (by decide +kernel)
theorem tlJ7_150 : Cond.methodLink RJ7 150 arraycopyName ∈ tt := tt_in (by decide +kernel) (by decide +kernel)
theorem tlX2_34 : Cond.methodLink RX2 34 yJ7_copyOf_59c91 ∈ tt := tt_in (by decide +kernel) (by decide +kernel)
theorem tlX2_40 : Cond.methodLink RX2 40 yJ7_fill_fda19 ∈ tt := tt_in (by decide +kernel) (by decide +kernel)
theorem tlX0_30 : Cond.methodLink RX0 30 yJ7_fill_53178 ∈ tt := tt_in (by decide +kernel) (by decide +kernel)
theorem tarr_I : Cond.arrayClass .int ∈ tt := tt_in (by decide +kernel) (by decide +kernel)
theorem tarr_Z : Cond.arrayClass .boolean ∈ tt := tt_in (by decide +kernel) (by decide +kernel)
section AW
variable {ρ : Type} {p : Program} {l : Launch} {e : Env} {s : State} {m : MethodId} {args : Array Value} {below : List Frame} {meth : Method} {c : Code}
variable {cc : ByteArray} {nL : Nat} {own : String} {rt : Option FieldType} {D : va_G} {tys : List (ClassId × FieldType)} {cI : ClassId} {sf : sfT} {A : Nat → Prop} {a : Nat} {fr lo : Nat} {S0 S : CS} {QQ : ρ × CS → State → Prop} {Z : Heap → List Loc → Prop} {pc : Nat} {lv : List (Nat × Value)} {st : List Value} {F : Option (ρ × CS)}
theorem aa_len (X : hX p s m args meth c cc nL own rt D (tyC cI) sf A) {K : Int32 → Option (ρ × CS)} (d : decode cc pc = .ok (.arraylength, 1)) (kk : ∀ v, hG p l e (fun r => rmC fr lo (cS r.2 - cS S0) (sS r.2 - sS S0)) s m args below meth c nL (ZW D (wA cI a) A s.heap S0 S) (cS S - cS S0) (sS S - sS S0) QQ (fun r => le S r.2) (pc + 1) lv (.int v :: st) (K v)) : hG p l e (fun r => rmC fr lo (cS r.2 - cS S0) (sS r.2 - sS S0)) s m args below meth c nL (ZW D (wA cI a) A s.heap S0 S) (cS S - cS S0) (sS S - sS S0) QQ (fun r => le S r.2) pc lv (.ref a :: st) (tl S K) := ⟨fun r hr => (kk _).1 r hr, fun r hr H locs ls hz hl => by
  obtain ⟨x, h0, hP, hD, hS⟩ := hz
  exact va_alen X.1.1 X.1.2.1 X.1.2.2.2.2.2.1 hP 0 0 rfl rfl rfl d ((kk _).2 r hr H locs ls ⟨x, h0, hP, hD, hS⟩ hl)⟩
theorem aa_st (X : hX p s m args meth c cc nL own rt D (tyC cI) sf A) {i v : Int32} {K : CS → Option (ρ × CS)} (d : decode cc pc = .ok (.iastore, 1)) (kk : ∀ S1, hG p l e (fun r => rmC fr lo (cS r.2 - cS S0) (sS r.2 - sS S0)) s m args below meth c nL (ZW D (wA cI a) A s.heap S0 S1) (cS S1 - cS S0) (sS S1 - sS S0) QQ (fun r => le S1 r.2) (pc + 1) lv st (K S1)) : hG p l e (fun r => rmC fr lo (cS r.2 - cS S0) (sS r.2 - sS S0)) s m args below meth c nL (ZW D (wA cI a) A s.heap S0 S) (cS S - cS S0) (sS S - sS S0) QQ (fun r => le S r.2) pc lv (.int v :: .int i :: .ref a :: st) (cw S 2 (S.2 0) i v K) := h_ite (fun _ => h_none) (fun hin => ⟨fun r hr => (kk (mS S.1 2 i.toNatClampNeg v, S.2)).1 r hr, fun r hr H locs ls hz hl => by
  obtain ⟨x, h0, hP, hD, hS⟩ := hz
  exact va_iast X.1.1 X.1.2.1 X.1.2.2.2.2.2.1 hP hD hS 0 0 rfl rfl hin d (fun H1 locs1 h1 h2 h3 => (kk (mS S.1 2 i.toNatClampNeg v, S.2)).2 r hr H1 locs1 ls ⟨x, h0, h1, h2, h3⟩ hl)⟩)
theorem h_mmax (X : hX p s m args meth c cc nL own rt D tys sf A) {x y : Int32} {ix : Nat} (hlk : Cond.methodLink own ix Lib.Math.max.name ∈ tt) (hf : 1 ≤ fr) (hlo : (st.map fun v => v.category).sum + 13 ≤ lo) (d : decode cc pc = .ok (.invokestatic ix, 3)) (kk : hG p l e (fun r => rmC fr lo (cS r.2 - cS S0) (sS r.2 - sS S0)) s m args below meth c nL Z (cS S - cS S0) (sS S - sS S0) QQ (fun r => le S r.2) (pc + 3) lv (.int (if x < y then y else x) :: st) F) : hG p l e (fun r => rmC fr lo (cS r.2 - cS S0) (sS r.2 - sS S0)) s m args below meth c nL Z (cS S - cS S0) (sS S - sS S0) QQ (fun r => le S r.2) pc lv (.int y :: .int x :: st) F := ⟨kk.1, fun r hr H locs ls hz hl => by
  have hm := kk.1 r hr
  have e1 : cS S - cS S0 ≤ cS r.2 - cS S0 := by have := hm.1; omega
  have e2 : sS S - sS S0 ≤ sS r.2 - sS S0 := by have := hm.2; omega
  exact va_mmax X.1.1 X.1.2.1 (X.1.2.2.1.trans hl.1.symm) X.1.2.2.2.1 (X.1.2.2.2.2.1 _ hlk) (X.1.2.2.2.2.1 _ ts_max) (X.1.2.2.2.2.1 _ ini_j9) (X.1.2.2.2.2.1 _ tc_max) hf hlo e1 e2 d (kk.2 r hr H locs ls hz hl)⟩
theorem h_mmin (X : hX p s m args meth c cc nL own rt D tys sf A) {x y : Int32} {ix : Nat} (hlk : Cond.methodLink own ix Lib.Math.min.name ∈ tt) (hf : 1 ≤ fr) (hlo : (st.map fun v => v.category).sum + 13 ≤ lo) (d : decode cc pc = .ok (.invokestatic ix, 3)) (kk : hG p l e (fun r => rmC fr lo (cS r.2 - cS S0) (sS r.2 - sS S0)) s m args below meth c nL Z (cS S - cS S0) (sS S - sS S0) QQ (fun r => le S r.2) (pc + 3) lv (.int (if y < x then y else x) :: st) F) : hG p l e (fun r => rmC fr lo (cS r.2 - cS S0) (sS r.2 - sS S0)) s m args below meth c nL Z (cS S - cS S0) (sS S - sS S0) QQ (fun r => le S r.2) pc lv (.int y :: .int x :: st) F := ⟨kk.1, fun r hr H locs ls hz hl => by
  have hm := kk.1 r hr
  have e1 : cS S - cS S0 ≤ cS r.2 - cS S0 := by have := hm.1; omega
  have e2 : sS S - sS S0 ≤ sS r.2 - sS S0 := by have := hm.2; omega
  exact va_mmin X.1.1 X.1.2.1 (X.1.2.2.1.trans hl.1.symm) X.1.2.2.2.1 (X.1.2.2.2.2.1 _ hlk) (X.1.2.2.2.2.1 _ ts_min) (X.1.2.2.2.2.1 _ ini_j9) (X.1.2.2.2.2.1 _ tc_min) hf hlo e1 e2 d (kk.2 r hr H locs ls hz hl)⟩
end AW
section AM
variable {ρ : Type} {p : Program} {l : Launch} {e : Env} {s : State} {m : MethodId} {args : Array Value} {below : List Frame} {meth : Method} {c : Code}
variable {cc : ByteArray} {nL : Nat} {own : String} {rt : Option FieldType} {D : va_G} {cI : ClassId} {sf : sfT} {A : Nat → Prop} {a : Nat} {fr lo : Nat} {S0 S : CS} {QQ : ρ × CS → State → Prop} {pc : Nat} {lv : List (Nat × Value)}

-- J7.rangeCheck_23922
def fj7_rangeCheck_23922 (n : Nat) (x0 : Int32) (x1 : Int32) (x2 : Int32) (S : CS) : Option (Int32 × CS) :=
    if x1 ≤ x2 then (if 0 ≤ x1 then (if x2 ≤ x0 then (some (0, S)) else (none)) else (none)) else (none)
theorem wj7_rangeCheck_23922 (hsf : sfOk sf) (X : hX p s m args meth c cJ7_rangeCheck_23922 3 RJ7 none D (tyC cI) sf A) {S0 : CS} (n : Nat) (x0 : Int32) (x1 : Int32) (x2 : Int32) (S : CS) : hG p l e (fun r => rmC 0 0 (cS r.2 - cS S0) (sS r.2 - sS S0)) s m args below meth c 3 (ZW D (wA cI a) A s.heap S0 S) (cS S - cS S0) (sS S - sS S0) (fun r => MQ below (QWv D (tyC cI) (wA cI a) A r) args s (cS r.2 - cS S0) (sS r.2 - sS S0) A) (fun r => le S r.2) 0 [(0, .int x0), (1, .int x1), (2, .int x2)] [] (fj7_rangeCheck_23922 n x0 x1 x2 S) := by
    unfold fj7_rangeCheck_23922
    refine h_iload_n X dJ7_rangeCheck_23922_0 rfl rfl ?_
    refine h_iload_n X dJ7_rangeCheck_23922_1 rfl rfl ?_
    refine h_icmp_le (tgt := 46) X dJ7_rangeCheck_23922_2 (by decide) ?_ ?_
    · refine h_iload_n X dJ7_rangeCheck_23922_46 rfl rfl ?_
      refine h_if_ge (tgt := 59) X dJ7_rangeCheck_23922_47 (by decide) ?_ ?_
      · refine h_iload_n X dJ7_rangeCheck_23922_59 rfl rfl ?_
        refine h_iload_n X dJ7_rangeCheck_23922_60 rfl rfl ?_
        refine h_icmp_le (tgt := 73) X dJ7_rangeCheck_23922_61 (by decide) ?_ ?_
        · exact h_vret X dJ7_rangeCheck_23922_73
        · exact h_none
      · exact h_none
    · exact h_none
theorem moj7_rangeCheck_23922 (n : Nat) (x0 : Int32) (x1 : Int32) (x2 : Int32) (S : CS) : mo S (fj7_rangeCheck_23922 n x0 x1 x2 S) := by
    unfold fj7_rangeCheck_23922
    refine m_ite ?_ ?_
    · refine m_ite ?_ ?_
      · refine m_ite ?_ ?_
        · exact m_some
        · exact m_none
      · exact m_none
    · exact m_none
theorem cj7_rangeCheck_23922 (hsf : sfOk sf) (l : Launch) (D : va_G) (cI : ClassId) (a : Nat) (n : Nat) (x0 : Int32) (x1 : Int32) (x2 : Int32) (S : CS) : MetW l D (tyC cI) sf (wA cI a) yJ7_rangeCheck_23922 cJ7_rangeCheck_23922 3 none 0 0 QWv [.int x0, .int x1, .int x2] S (fj7_rangeCheck_23922 n x0 x1 x2 S) := by
  refine MetW.of (own := RJ7) (by decide) rfl (Nat.le_of_ble_eq_true rfl) (moj7_rangeCheck_23922 n x0 x1 x2 S) ?_
  intro x p e s m args below meth c X
  refine h_pick (lv' := [(0, .int x0), (1, .int x1), (2, .int x2)]) [0, 1, 2] rfl ?_
  exact h_close (wj7_rangeCheck_23922 hsf X n x0 x1 x2 S)
theorem tcj7_rangeCheck_23922 : Cond.code yJ7_rangeCheck_23922 cJ7_rangeCheck_23922 3 none ∈ tt := tt_in (List.mem_of_getElem? (i := 412) (by decide +kernel)) (by decide +kernel)
theorem tsj7_rangeCheck_23922 : Cond.static yJ7_rangeCheck_23922 ∈ tt := tt_in (List.mem_of_getElem? (i := 411) (by decide +kernel)) (by decide +kernel)
theorem kj7_rangeCheck_23922 (hsf : sfOk sf) (X : hX p s m args meth c cc nL own rt D (tyC cI) sf A) {n : Nat} {x0 : Int32} {x1 : Int32} {x2 : Int32} {ix : Nat} (hlk : Cond.methodLink own ix yJ7_rangeCheck_23922 ∈ tt) {rest : List Value} {K : Int32 → CS → Option (ρ × CS)} (hR : 0 + 1 ≤ fr ∧ 8 + (3 + 11) + 0 ≤ lo) (hcat : (rest.map fun v => v.category).sum ≤ 8) (d : decode cc pc = .ok (.invokestatic ix, 3)) (kk : ∀ v S1, hG p l e (fun r => rmC fr lo (cS r.2 - cS S0) (sS r.2 - sS S0)) s m args below meth c nL (ZW D (wA cI a) A s.heap S0 S1) (cS S1 - cS S0) (sS S1 - sS S0) QQ (fun r => le S1 r.2) (pc + 3) lv rest (K v S1)) : hG p l e (fun r => rmC fr lo (cS r.2 - cS S0) (sS r.2 - sS S0)) s m args below meth c nL (ZW D (wA cI a) A s.heap S0 S) (cS S - cS S0) (sS S - sS S0) QQ (fun r => le S r.2) pc lv (.int x2 :: .int x1 :: .int x0 :: rest) (bnd (fj7_rangeCheck_23922 n x0 x1 x2 S) K) := h_callSv (As := [.int x0, .int x1, .int x2]) (b := 0) (C := RX4) hsf X (cj7_rangeCheck_23922 hsf l D cI a n x0 x1 x2 S) (cwSC (k := 3) X.1.2.2.2.2.1 hlk tsj7_rangeCheck_23922 tcj7_rangeCheck_23922 ini_j7 (by decide +kernel) hR) rfl rfl hcat d kk
-- J7.fill_53178
def fj7_fill_53178_l5 (n : Nat) : Nat → Int32 → Int32 → Int32 → CS → Option (Int32 × CS)
  | 0, _, _, _, _ => none
  | k + 1, x1, x2, x3, S => if x3 ≤ x2 then
      (some (0, S))
    else
      (cw S 2 (S.2 0) x2 x1 fun S1 =>
      (fj7_fill_53178_l5 n k) x1 (x2 + (nI 1)) x3 S1)
theorem mwj7_fill_53178_l5 (n : Nat) : ∀ (k : Nat) (x1 : Int32) (x2 : Int32) (x3 : Int32) (S : CS), mo S (fj7_fill_53178_l5 n k x1 x2 x3 S) := by
  intro k
  induction k with
  | zero =>
    intro x1 x2 x3 S
    exact m_none
  | succ k ih =>
    intro x1 x2 x3 S
    rw [fj7_fill_53178_l5]
    refine m_ite ?_ ?_
    · exact m_some
    · refine m_cw (fun S1 => ?_)
      exact ih x1 (x2 + (nI 1)) x3 S1
theorem wj7_fill_53178_l5 (hsf : sfOk sf) (X : hX p s m args meth c cJ7_fill_53178 4 RJ7 none D (tyC cI) sf A) (n : Nat) : ∀ (k : Nat) (x1 : Int32) (x2 : Int32) (x3 : Int32) (S : CS), hG p l e (fun r => rmC 0 0 (cS r.2 - cS S0) (sS r.2 - sS S0)) s m args below meth c 4 (ZW D (wA cI a) A s.heap S0 S) (cS S - cS S0) (sS S - sS S0) (fun r => MQ below (QWv D (tyC cI) (wA cI a) A r) args s (cS r.2 - cS S0) (sS r.2 - sS S0) A) (fun r => le S r.2) 5 [(0, .ref a), (1, .int x1), (2, .int x2), (3, .int x3)] [] (fj7_fill_53178_l5 n k x1 x2 x3 S) := by
  intro k
  induction k with
  | zero =>
    intro x1 x2 x3 S
    exact h_none
  | succ k ih =>
    intro x1 x2 x3 S
    rw [fj7_fill_53178_l5]
    refine h_iload_n X dJ7_fill_53178_5 rfl rfl ?_
    refine h_iload_n X dJ7_fill_53178_6 rfl rfl ?_
    refine h_icmp_ge (tgt := 20) X dJ7_fill_53178_7 (by decide) ?_ ?_
    · exact h_vret X dJ7_fill_53178_20
    · refine h_aload_n X dJ7_fill_53178_10 rfl rfl ?_
      refine h_iload_n X dJ7_fill_53178_11 rfl rfl ?_
      refine h_iload_n X dJ7_fill_53178_12 rfl rfl ?_
      refine aa_st X dJ7_fill_53178_13 ?_
      intro S1
      refine h_iinc (v := (nI 1)) (lv' := [(2, .int (x2 + (nI 1))), (0, .ref a), (1, .int x1), (3, .int x3)]) X dJ7_fill_53178_14 rfl (by decide) (by decide) rfl ?_
      refine h_goto (tgt := 5) X dJ7_fill_53178_17 (by decide) ?_
      exact h_pick [1, 2, 0, 3] rfl (ih x1 (x2 + (nI 1)) x3 S1)
def fj7_fill_53178 (n : Nat) (x1 : Int32) (S : CS) : Option (Int32 × CS) :=
    tl S fun v1 =>
    fj7_fill_53178_l5 n n x1 (nI 0) v1 S
theorem wj7_fill_53178 (hsf : sfOk sf) (X : hX p s m args meth c cJ7_fill_53178 4 RJ7 none D (tyC cI) sf A) {S0 : CS} (n : Nat) (x1 : Int32) (S : CS) : hG p l e (fun r => rmC 0 0 (cS r.2 - cS S0) (sS r.2 - sS S0)) s m args below meth c 4 (ZW D (wA cI a) A s.heap S0 S) (cS S - cS S0) (sS S - sS S0) (fun r => MQ below (QWv D (tyC cI) (wA cI a) A r) args s (cS r.2 - cS S0) (sS r.2 - sS S0) A) (fun r => le S r.2) 0 [(0, .ref a), (1, .int x1)] [] (fj7_fill_53178 n x1 S) := by
    unfold fj7_fill_53178
    refine h_iconst (v := (nI 0)) X dJ7_fill_53178_0 (by decide) ?_
    refine h_istore_n (lv' := [(2, .int (nI 0)), (0, .ref a), (1, .int x1)]) X dJ7_fill_53178_1 rfl (by decide) rfl ?_
    refine h_aload_n X dJ7_fill_53178_2 rfl rfl ?_
    refine aa_len X dJ7_fill_53178_3 ?_
    intro v1
    refine h_istore_n (lv' := [(3, .int v1), (2, .int (nI 0)), (0, .ref a), (1, .int x1)]) X dJ7_fill_53178_4 rfl (by decide) rfl ?_
    exact h_pick [2, 3, 1, 0] rfl (wj7_fill_53178_l5 hsf X n n x1 (nI 0) v1 S)
theorem moj7_fill_53178 (n : Nat) (x1 : Int32) (S : CS) : mo S (fj7_fill_53178 n x1 S) := by
    unfold fj7_fill_53178
    refine m_tl (fun v1 => ?_)
    exact mwj7_fill_53178_l5 n n x1 (nI 0) v1 S
theorem cj7_fill_53178 (hsf : sfOk sf) (l : Launch) (D : va_G) (cI : ClassId) (a : Nat) (n : Nat) (x1 : Int32) (S : CS) : MetW l D (tyC cI) sf (wA cI a) yJ7_fill_53178 cJ7_fill_53178 4 none 0 0 QWv [.ref a, .int x1] S (fj7_fill_53178 n x1 S) := by
  refine MetW.of (own := RJ7) (by decide) rfl (Nat.le_of_ble_eq_true rfl) (moj7_fill_53178 n x1 S) ?_
  intro x p e s m args below meth c X
  refine h_pick (lv' := [(0, .ref a), (1, .int x1)]) [0, 1] rfl ?_
  exact h_close (wj7_fill_53178 hsf X n x1 S)
theorem tcj7_fill_53178 : Cond.code yJ7_fill_53178 cJ7_fill_53178 4 none ∈ tt := tt_in (List.mem_of_getElem? (i := 187) (by decide +kernel)) (by decide +kernel)
theorem tsj7_fill_53178 : Cond.static yJ7_fill_53178 ∈ tt := tt_in (List.mem_of_getElem? (i := 186) (by decide +kernel)) (by decide +kernel)
theorem kj7_fill_53178 (hsf : sfOk sf) (X : hX p s m args meth c cc nL own rt D (tyC cI) sf A) {n : Nat} {x1 : Int32} {ix : Nat} (hlk : Cond.methodLink own ix yJ7_fill_53178 ∈ tt) {rest : List Value} {K : Int32 → CS → Option (ρ × CS)} (hR : 0 + 1 ≤ fr ∧ 8 + (4 + 11) + 0 ≤ lo) (hcat : (rest.map fun v => v.category).sum ≤ 8) (d : decode cc pc = .ok (.invokestatic ix, 3)) (kk : ∀ v S1, hG p l e (fun r => rmC fr lo (cS r.2 - cS S0) (sS r.2 - sS S0)) s m args below meth c nL (ZW D (wA cI a) A s.heap S0 S1) (cS S1 - cS S0) (sS S1 - sS S0) QQ (fun r => le S1 r.2) (pc + 3) lv rest (K v S1)) : hG p l e (fun r => rmC fr lo (cS r.2 - cS S0) (sS r.2 - sS S0)) s m args below meth c nL (ZW D (wA cI a) A s.heap S0 S) (cS S - cS S0) (sS S - sS S0) QQ (fun r => le S r.2) pc lv (.int x1 :: .ref a :: rest) (bnd (fj7_fill_53178 n x1 S) K) := h_callSv (As := [.ref a, .int x1]) (b := 0) (C := RX4) hsf X (cj7_fill_53178 hsf l D cI a n x1 S) (cwSC (k := 2) X.1.2.2.2.2.1 hlk tsj7_fill_53178 tcj7_fill_53178 ini_j7 (by decide +kernel) hR) rfl rfl hcat d kk
-- J7.fill_fda19
def fj7_fill_fda19_l10 (n : Nat) : Nat → Int32 → Int32 → Int32 → CS → Option (Int32 × CS)
  | 0, _, _, _, _ => none
  | k + 1, x2, x3, x4, S => if x2 ≤ x4 then
      (some (0, S))
    else
      (cw S 2 (S.2 0) x4 x3 fun S1 =>
      (fj7_fill_fda19_l10 n k) x2 x3 (x4 + (nI 1)) S1)
theorem mwj7_fill_fda19_l10 (n : Nat) : ∀ (k : Nat) (x2 : Int32) (x3 : Int32) (x4 : Int32) (S : CS), mo S (fj7_fill_fda19_l10 n k x2 x3 x4 S) := by
  intro k
  induction k with
  | zero =>
    intro x2 x3 x4 S
    exact m_none
  | succ k ih =>
    intro x2 x3 x4 S
    rw [fj7_fill_fda19_l10]
    refine m_ite ?_ ?_
    · exact m_some
    · refine m_cw (fun S1 => ?_)
      exact ih x2 x3 (x4 + (nI 1)) S1
theorem wj7_fill_fda19_l10 (hsf : sfOk sf) (X : hX p s m args meth c cJ7_fill_fda19 5 RJ7 none D (tyC cI) sf A) (n : Nat) : ∀ (k : Nat) (x2 : Int32) (x3 : Int32) (x4 : Int32) (S : CS), hG p l e (fun r => rmC 1 22 (cS r.2 - cS S0) (sS r.2 - sS S0)) s m args below meth c 5 (ZW D (wA cI a) A s.heap S0 S) (cS S - cS S0) (sS S - sS S0) (fun r => MQ below (QWv D (tyC cI) (wA cI a) A r) args s (cS r.2 - cS S0) (sS r.2 - sS S0) A) (fun r => le S r.2) 10 [(0, .ref a), (2, .int x2), (3, .int x3), (4, .int x4)] [] (fj7_fill_fda19_l10 n k x2 x3 x4 S) := by
  intro k
  induction k with
  | zero =>
    intro x2 x3 x4 S
    exact h_none
  | succ k ih =>
    intro x2 x3 x4 S
    rw [fj7_fill_fda19_l10]
    refine h_iload X dJ7_fill_fda19_10 rfl ?_
    refine h_iload_n X dJ7_fill_fda19_12 rfl rfl ?_
    refine h_icmp_ge (tgt := 27) X dJ7_fill_fda19_13 (by decide) ?_ ?_
    · exact h_vret X dJ7_fill_fda19_27
    · refine h_aload_n X dJ7_fill_fda19_16 rfl rfl ?_
      refine h_iload X dJ7_fill_fda19_17 rfl ?_
      refine h_iload_n X dJ7_fill_fda19_19 rfl rfl ?_
      refine aa_st X dJ7_fill_fda19_20 ?_
      intro S1
      refine h_iinc (v := (nI 1)) (lv' := [(4, .int (x4 + (nI 1))), (0, .ref a), (2, .int x2), (3, .int x3)]) X dJ7_fill_fda19_21 rfl (by decide) (by decide) rfl ?_
      refine h_goto (tgt := 10) X dJ7_fill_fda19_24 (by decide) ?_
      exact h_pick [1, 2, 3, 0] rfl (ih x2 x3 (x4 + (nI 1)) S1)
theorem tlJ7_13 : Cond.methodLink RJ7 13 yJ7_rangeCheck_23922 ∈ tt := tt_in (List.mem_of_getElem? (i := 410) (by decide +kernel)) (by decide +kernel)
def fj7_fill_fda19 (n : Nat) (x1 : Int32) (x2 : Int32) (x3 : Int32) (S : CS) : Option (Int32 × CS) :=
    tl S fun v1 =>
    bnd (fj7_rangeCheck_23922 n v1 x1 x2 S) fun _ S2 =>
    fj7_fill_fda19_l10 n n x2 x3 x1 S2
theorem wj7_fill_fda19 (hsf : sfOk sf) (X : hX p s m args meth c cJ7_fill_fda19 5 RJ7 none D (tyC cI) sf A) {S0 : CS} (n : Nat) (x1 : Int32) (x2 : Int32) (x3 : Int32) (S : CS) : hG p l e (fun r => rmC 1 22 (cS r.2 - cS S0) (sS r.2 - sS S0)) s m args below meth c 5 (ZW D (wA cI a) A s.heap S0 S) (cS S - cS S0) (sS S - sS S0) (fun r => MQ below (QWv D (tyC cI) (wA cI a) A r) args s (cS r.2 - cS S0) (sS r.2 - sS S0) A) (fun r => le S r.2) 0 [(0, .ref a), (1, .int x1), (2, .int x2), (3, .int x3)] [] (fj7_fill_fda19 n x1 x2 x3 S) := by
    unfold fj7_fill_fda19
    refine h_aload_n X dJ7_fill_fda19_0 rfl rfl ?_
    refine aa_len X dJ7_fill_fda19_1 ?_
    intro v1
    refine h_iload_n X dJ7_fill_fda19_2 rfl rfl ?_
    refine h_iload_n X dJ7_fill_fda19_3 rfl rfl ?_
    refine kj7_rangeCheck_23922 hsf X tlJ7_13 ⟨Nat.le_of_ble_eq_true rfl, Nat.le_of_ble_eq_true rfl⟩ (Nat.le_of_ble_eq_true rfl) dJ7_fill_fda19_4 ?_
    intro v2 S2
    refine h_iload_n X dJ7_fill_fda19_7 rfl rfl ?_
    refine h_istore (lv' := [(4, .int x1), (0, .ref a), (1, .int x1), (2, .int x2), (3, .int x3)]) X dJ7_fill_fda19_8 (by decide) rfl ?_
    exact h_pick [1, 3, 4, 0] rfl (wj7_fill_fda19_l10 hsf X n n x2 x3 x1 S2)
theorem moj7_fill_fda19 (n : Nat) (x1 : Int32) (x2 : Int32) (x3 : Int32) (S : CS) : mo S (fj7_fill_fda19 n x1 x2 x3 S) := by
    unfold fj7_fill_fda19
    refine m_tl (fun v1 => ?_)
    refine m_bnd (moj7_rangeCheck_23922 _ _ _ _ _) (fun v2 S2 => ?_)
    exact mwj7_fill_fda19_l10 n n x2 x3 x1 S2
theorem cj7_fill_fda19 (hsf : sfOk sf) (l : Launch) (D : va_G) (cI : ClassId) (a : Nat) (n : Nat) (x1 : Int32) (x2 : Int32) (x3 : Int32) (S : CS) : MetW l D (tyC cI) sf (wA cI a) yJ7_fill_fda19 cJ7_fill_fda19 5 none 1 22 QWv [.ref a, .int x1, .int x2, .int x3] S (fj7_fill_fda19 n x1 x2 x3 S) := by
  refine MetW.of (own := RJ7) (by decide) rfl (Nat.le_of_ble_eq_true rfl) (moj7_fill_fda19 n x1 x2 x3 S) ?_
  intro x p e s m args below meth c X
  refine h_pick (lv' := [(0, .ref a), (1, .int x1), (2, .int x2), (3, .int x3)]) [0, 1, 2, 3] rfl ?_
  exact h_close (wj7_fill_fda19 hsf X n x1 x2 x3 S)
theorem tcj7_fill_fda19 : Cond.code yJ7_fill_fda19 cJ7_fill_fda19 5 none ∈ tt := tt_in (List.mem_of_getElem? (i := 409) (by decide +kernel)) (by decide +kernel)
theorem tsj7_fill_fda19 : Cond.static yJ7_fill_fda19 ∈ tt := tt_in (List.mem_of_getElem? (i := 408) (by decide +kernel)) (by decide +kernel)
theorem kj7_fill_fda19 (hsf : sfOk sf) (X : hX p s m args meth c cc nL own rt D (tyC cI) sf A) {n : Nat} {x1 : Int32} {x2 : Int32} {x3 : Int32} {ix : Nat} (hlk : Cond.methodLink own ix yJ7_fill_fda19 ∈ tt) {rest : List Value} {K : Int32 → CS → Option (ρ × CS)} (hR : 1 + 1 ≤ fr ∧ 8 + (5 + 11) + 22 ≤ lo) (hcat : (rest.map fun v => v.category).sum ≤ 8) (d : decode cc pc = .ok (.invokestatic ix, 3)) (kk : ∀ v S1, hG p l e (fun r => rmC fr lo (cS r.2 - cS S0) (sS r.2 - sS S0)) s m args below meth c nL (ZW D (wA cI a) A s.heap S0 S1) (cS S1 - cS S0) (sS S1 - sS S0) QQ (fun r => le S1 r.2) (pc + 3) lv rest (K v S1)) : hG p l e (fun r => rmC fr lo (cS r.2 - cS S0) (sS r.2 - sS S0)) s m args below meth c nL (ZW D (wA cI a) A s.heap S0 S) (cS S - cS S0) (sS S - sS S0) QQ (fun r => le S r.2) pc lv (.int x3 :: .int x2 :: .int x1 :: .ref a :: rest) (bnd (fj7_fill_fda19 n x1 x2 x3 S) K) := h_callSv (As := [.ref a, .int x1, .int x2, .int x3]) (b := 0) (C := RX4) hsf X (cj7_fill_fda19 hsf l D cI a n x1 x2 x3 S) (cwSC (k := 4) X.1.2.2.2.2.1 hlk tsj7_fill_fda19 tcj7_fill_fda19 ini_j7 (by decide +kernel) hR) rfl rfl hcat d kk
end AM
