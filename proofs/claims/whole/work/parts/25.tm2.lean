theorem dX2_addPair_0 : decode cX2_addPair 0 = .ok (.aload_n 0, 1) := by decide +kernel
theorem dX2_addPair_1 : decode cX2_addPair 1 = .ok (.invokevirtual 44, 3) := by decide +kernel
theorem dX2_addPair_4 : decode cX2_addPair 4 = .ok (.istore_n 3, 1) := by decide +kernel
theorem dX2_addPair_5 : decode cX2_addPair 5 = .ok (.aload_n 0, 1) := by decide +kernel
theorem dX2_addPair_6 : decode cX2_addPair 6 = .ok (.iload_n 3, 1) := by decide +kernel
theorem dX2_addPair_7 : decode cX2_addPair 7 = .ok (.iconst 0, 1) := by decide +kernel
theorem dX2_addPair_8 : decode cX2_addPair 8 = .ok (.iload_n 1, 1) := by decide +kernel
theorem dX2_addPair_9 : decode cX2_addPair 9 = .ok (.invokevirtual 48, 3) := by decide +kernel
theorem dX2_addPair_12 : decode cX2_addPair 12 = .ok (.aload_n 0, 1) := by decide +kernel
theorem dX2_addPair_13 : decode cX2_addPair 13 = .ok (.iload_n 3, 1) := by decide +kernel
theorem dX2_addPair_14 : decode cX2_addPair 14 = .ok (.iconst 1, 1) := by decide +kernel
theorem dX2_addPair_15 : decode cX2_addPair 15 = .ok (.iload_n 2, 1) := by decide +kernel
theorem dX2_addPair_16 : decode cX2_addPair 16 = .ok (.invokevirtual 48, 3) := by decide +kernel
theorem dX2_addPair_19 : decode cX2_addPair 19 = .ok (.return_, 1) := by decide +kernel
theorem dX2_holdsFirst_0 : decode cX2_holdsFirst 0 = .ok (.iconst 0, 1) := by decide +kernel
theorem dX2_holdsFirst_1 : decode cX2_holdsFirst 1 = .ok (.istore_n 2, 1) := by decide +kernel
theorem dX2_holdsFirst_2 : decode cX2_holdsFirst 2 = .ok (.iload_n 2, 1) := by decide +kernel
theorem dX2_holdsFirst_3 : decode cX2_holdsFirst 3 = .ok (.aload_n 0, 1) := by decide +kernel
theorem dX2_holdsFirst_4 : decode cX2_holdsFirst 4 = .ok (.getfield 9, 3) := by decide +kernel
theorem dX2_holdsFirst_7 : decode cX2_holdsFirst 7 = .ok (.if_icmp .ge 21, 3) := by decide +kernel
theorem dX2_holdsFirst_10 : decode cX2_holdsFirst 10 = .ok (.aload_n 0, 1) := by decide +kernel
theorem dX2_holdsFirst_11 : decode cX2_holdsFirst 11 = .ok (.iload_n 2, 1) := by decide +kernel
theorem dX2_holdsFirst_12 : decode cX2_holdsFirst 12 = .ok (.iconst 0, 1) := by decide +kernel
theorem dX2_holdsFirst_13 : decode cX2_holdsFirst 13 = .ok (.invokevirtual 52, 3) := by decide +kernel
theorem dX2_holdsFirst_16 : decode cX2_holdsFirst 16 = .ok (.iload_n 1, 1) := by decide +kernel
theorem dX2_holdsFirst_17 : decode cX2_holdsFirst 17 = .ok (.if_icmp .ne 5, 3) := by decide +kernel
theorem dX2_holdsFirst_20 : decode cX2_holdsFirst 20 = .ok (.iconst 1, 1) := by decide +kernel
theorem dX2_holdsFirst_21 : decode cX2_holdsFirst 21 = .ok (.ireturn, 1) := by decide +kernel
theorem dX2_holdsFirst_22 : decode cX2_holdsFirst 22 = .ok (.iinc 2 1, 3) := by decide +kernel
theorem dX2_holdsFirst_25 : decode cX2_holdsFirst 25 = .ok (.goto (-23), 3) := by decide +kernel
theorem dX2_holdsFirst_28 : decode cX2_holdsFirst 28 = .ok (.iconst 0, 1) := by decide +kernel
theorem dX2_holdsFirst_29 : decode cX2_holdsFirst 29 = .ok (.ireturn, 1) := by decide +kernel
section TM
variable {ρ : Type} {p : Program} {l : Launch} {e : Env} {s : State} {m : MethodId} {args : Array Value} {below : List Frame} {meth : Method} {c : Code}
variable {cc : ByteArray} {nL : Nat} {own : String} {rt : Option FieldType} {D : va_G} {cI : ClassId} {sf : sfT} {A : Nat → Prop} {t : Nat} {fr lo : Nat} {S0 S : CS} {QQ : ρ × CS → State → Prop} {pc : Nat} {lv : List (Nat × Value)}

-- X2.addPair
theorem tlX2_44 : Cond.methodLink RX2 44 yX2_add ∈ tt := tt_in (List.mem_of_getElem? (i := 386) (by decide +kernel)) (by decide +kernel)
theorem tlX2_48 : Cond.methodLink RX2 48 yX2_set ∈ tt := tt_in (List.mem_of_getElem? (i := 413) (by decide +kernel)) (by decide +kernel)
def f2_addPair (n : Nat) (x1 : Int32) (x2 : Int32) (S : CS) : Option (Int32 × CS) :=
    bnd (f2_add n S) fun v1 S1 =>
    bnd (f2_set n v1 (nI 0) x1 S1) fun _ S2 =>
    bnd (f2_set n v1 (nI 1) x2 S2) fun _ S3 =>
    some (0, S3)
theorem w2_addPair (hsf : sfOk sf) (X : hX p s m args meth c cX2_addPair 4 RX2 none D (tyC cI) sf A) {S0 : CS} (n : Nat) (x1 : Int32) (x2 : Int32) (S : CS) : hG p l e (fun r => rmC 3 68 (cS r.2 - cS S0) (sS r.2 - sS S0)) s m args below meth c 4 (ZW D (wT cI t) A s.heap S0 S) (cS S - cS S0) (sS S - sS S0) (fun r => MQ below (QWv D (tyC cI) (wT cI t) A r) args s (cS r.2 - cS S0) (sS r.2 - sS S0) A) (fun r => le S r.2) 0 [(0, .ref (t)), (1, .int x1), (2, .int x2)] [] (f2_addPair n x1 x2 S) := by
    unfold f2_addPair
    refine h_aload_n X dX2_addPair_0 rfl rfl ?_
    refine k2_add hsf X tlX2_44 ⟨Nat.le_of_ble_eq_true rfl, Nat.le_of_ble_eq_true rfl⟩ (Nat.le_of_ble_eq_true rfl) dX2_addPair_1 ?_
    intro v1 S1
    refine h_istore_n (lv' := [(3, .int v1), (0, .ref (t)), (1, .int x1), (2, .int x2)]) X dX2_addPair_4 rfl (by decide) rfl ?_
    refine h_aload_n X dX2_addPair_5 rfl rfl ?_
    refine h_iload_n X dX2_addPair_6 rfl rfl ?_
    refine h_iconst (v := (nI 0)) X dX2_addPair_7 (by decide) ?_
    refine h_iload_n X dX2_addPair_8 rfl rfl ?_
    refine k2_set hsf X tlX2_48 ⟨Nat.le_of_ble_eq_true rfl, Nat.le_of_ble_eq_true rfl⟩ (Nat.le_of_ble_eq_true rfl) dX2_addPair_9 ?_
    intro v2 S2
    refine h_aload_n X dX2_addPair_12 rfl rfl ?_
    refine h_iload_n X dX2_addPair_13 rfl rfl ?_
    refine h_iconst (v := (nI 1)) X dX2_addPair_14 (by decide) ?_
    refine h_iload_n X dX2_addPair_15 rfl rfl ?_
    refine k2_set hsf X tlX2_48 ⟨Nat.le_of_ble_eq_true rfl, Nat.le_of_ble_eq_true rfl⟩ (Nat.le_of_ble_eq_true rfl) dX2_addPair_16 ?_
    intro v3 S3
    exact h_vret X dX2_addPair_19
theorem mo2_addPair (n : Nat) (x1 : Int32) (x2 : Int32) (S : CS) : mo S (f2_addPair n x1 x2 S) := by
    unfold f2_addPair
    refine m_bnd (mo2_add _ _) (fun v1 S1 => ?_)
    refine m_bnd (mo2_set _ _ _ _ _) (fun v2 S2 => ?_)
    refine m_bnd (mo2_set _ _ _ _ _) (fun v3 S3 => ?_)
    exact m_some
theorem c2_addPair (hsf : sfOk sf) (l : Launch) (D : va_G) (cI : ClassId) (t : Nat) (n : Nat) (x1 : Int32) (x2 : Int32) (S : CS) : MetW l D (tyC cI) sf (wT cI t) yX2_addPair cX2_addPair 4 none 3 68 QWv [.ref (t), .int x1, .int x2] S (f2_addPair n x1 x2 S) := by
  refine MetW.of (own := RX2) (by decide) rfl (Nat.le_of_ble_eq_true rfl) (mo2_addPair n x1 x2 S) ?_
  intro x p e s m args below meth c X
  refine h_pick (lv' := [(0, .ref (t)), (1, .int x1), (2, .int x2)]) [0, 1, 2] rfl ?_
  exact h_close (w2_addPair hsf X n x1 x2 S)
theorem tc2_addPair : Cond.code yX2_addPair cX2_addPair 4 none ∈ tt := tt_in (List.mem_of_getElem? (i := 385) (by decide +kernel)) (by decide +kernel)
theorem ti2_addPair : Cond.instanceMethod yX2_addPair ∈ tt := tt_in (List.mem_of_getElem? (i := 383) (by decide +kernel)) (by decide +kernel)
theorem te2_addPair : Cond.selects RX2 yX2_addPair yX2_addPair ∈ tt := tt_in (List.mem_of_getElem? (i := 384) (by decide +kernel)) (by decide +kernel)
-- X2.holdsFirst
theorem tlX2_52 : Cond.methodLink RX2 52 yX2_get ∈ tt := tt_in (List.mem_of_getElem? (i := 381) (by decide +kernel)) (by decide +kernel)
def f2_holdsFirst_l2 (n : Nat) : Nat → Int32 → Int32 → CS → Option (Int32 × CS)
  | 0, _, _, _ => none
  | k + 1, x1, x2, S => cg S 3 fun v1 =>
    if v1 ≤ x2 then
      (zt (nI 0) (some ((nI 0), S)))
    else
      (bnd (f2_get n x2 (nI 0) S) fun v2 S2 =>
      if v2 = x1 then (zt (nI 1) (some ((nI 1), S2))) else ((f2_holdsFirst_l2 n k) x1 (x2 + (nI 1)) S2))
theorem mw2_holdsFirst_l2 (n : Nat) : ∀ (k : Nat) (x1 : Int32) (x2 : Int32) (S : CS), mo S (f2_holdsFirst_l2 n k x1 x2 S) := by
  intro k
  induction k with
  | zero =>
    intro x1 x2 S
    exact m_none
  | succ k ih =>
    intro x1 x2 S
    rw [f2_holdsFirst_l2]
    refine m_cg (fun v1 => ?_)
    refine m_ite ?_ ?_
    · exact m_zt m_some
    · refine m_bnd (mo2_get _ _ _ _) (fun v2 S2 => ?_)
      refine m_ite ?_ ?_
      · exact m_zt m_some
      · exact ih x1 (x2 + (nI 1)) S2
theorem w2_holdsFirst_l2 (hsf : sfOk sf) (X : hX p s m args meth c cX2_holdsFirst 3 RX2 (some .boolean) D (tyC cI) sf A) (n : Nat) : ∀ (k : Nat) (x1 : Int32) (x2 : Int32) (S : CS), hG p l e (fun r => rmC 1 23 (cS r.2 - cS S0) (sS r.2 - sS S0)) s m args below meth c 3 (ZW D (wT cI t) A s.heap S0 S) (cS S - cS S0) (sS S - sS S0) (fun r => MQ below (QWi D (tyC cI) (wT cI t) A r) args s (cS r.2 - cS S0) (sS r.2 - sS S0) A) (fun r => le S r.2) 2 [(0, .ref (t)), (1, .int x1), (2, .int x2)] [] (f2_holdsFirst_l2 n k x1 x2 S) := by
  intro k
  induction k with
  | zero =>
    intro x1 x2 S
    exact h_none
  | succ k ih =>
    intro x1 x2 S
    rw [f2_holdsFirst_l2]
    refine h_iload_n X dX2_holdsFirst_2 rfl rfl ?_
    refine h_aload_n X dX2_holdsFirst_3 rfl rfl ?_
    refine t_g_rows X dX2_holdsFirst_4 ?_
    intro v1
    refine h_icmp_ge (tgt := 28) X dX2_holdsFirst_7 (by decide) ?_ ?_
    · refine h_iconst (v := (nI 0)) X dX2_holdsFirst_28 (by decide) ?_
      exact h_zret X dX2_holdsFirst_29
    · refine h_aload_n X dX2_holdsFirst_10 rfl rfl ?_
      refine h_iload_n X dX2_holdsFirst_11 rfl rfl ?_
      refine h_iconst (v := (nI 0)) X dX2_holdsFirst_12 (by decide) ?_
      refine k2_get hsf X tlX2_52 ⟨Nat.le_of_ble_eq_true rfl, Nat.le_of_ble_eq_true rfl⟩ (Nat.le_of_ble_eq_true rfl) dX2_holdsFirst_13 ?_
      intro v2 S2
      refine h_iload_n X dX2_holdsFirst_16 rfl rfl ?_
      refine h_icmp_ne (tgt := 22) X dX2_holdsFirst_17 (by decide) ?_ ?_
      · refine h_iinc (v := (nI 1)) (lv' := [(2, .int (x2 + (nI 1))), (0, .ref (t)), (1, .int x1)]) X dX2_holdsFirst_22 rfl (by decide) (by decide) rfl ?_
        refine h_goto (tgt := 2) X dX2_holdsFirst_25 (by decide) ?_
        exact h_pick [1, 2, 0] rfl (ih x1 (x2 + (nI 1)) S2)
      · refine h_iconst (v := (nI 1)) X dX2_holdsFirst_20 (by decide) ?_
        exact h_zret X dX2_holdsFirst_21
def f2_holdsFirst (n : Nat) (x1 : Int32) (S : CS) : Option (Int32 × CS) :=
    f2_holdsFirst_l2 n n x1 (nI 0) S
theorem w2_holdsFirst (hsf : sfOk sf) (X : hX p s m args meth c cX2_holdsFirst 3 RX2 (some .boolean) D (tyC cI) sf A) {S0 : CS} (n : Nat) (x1 : Int32) (S : CS) : hG p l e (fun r => rmC 1 23 (cS r.2 - cS S0) (sS r.2 - sS S0)) s m args below meth c 3 (ZW D (wT cI t) A s.heap S0 S) (cS S - cS S0) (sS S - sS S0) (fun r => MQ below (QWi D (tyC cI) (wT cI t) A r) args s (cS r.2 - cS S0) (sS r.2 - sS S0) A) (fun r => le S r.2) 0 [(0, .ref (t)), (1, .int x1)] [] (f2_holdsFirst n x1 S) := by
    unfold f2_holdsFirst
    refine h_iconst (v := (nI 0)) X dX2_holdsFirst_0 (by decide) ?_
    refine h_istore_n (lv' := [(2, .int (nI 0)), (0, .ref (t)), (1, .int x1)]) X dX2_holdsFirst_1 rfl (by decide) rfl ?_
    exact h_pick [1, 2, 0] rfl (w2_holdsFirst_l2 hsf X n n x1 (nI 0) S)
theorem mo2_holdsFirst (n : Nat) (x1 : Int32) (S : CS) : mo S (f2_holdsFirst n x1 S) := by
    unfold f2_holdsFirst
    exact mw2_holdsFirst_l2 n n x1 (nI 0) S
theorem c2_holdsFirst (hsf : sfOk sf) (l : Launch) (D : va_G) (cI : ClassId) (t : Nat) (n : Nat) (x1 : Int32) (S : CS) : MetW l D (tyC cI) sf (wT cI t) yX2_holdsFirst cX2_holdsFirst 3 (some .boolean) 1 23 QWi [.ref (t), .int x1] S (f2_holdsFirst n x1 S) := by
  refine MetW.of (own := RX2) (by decide) rfl (Nat.le_of_ble_eq_true rfl) (mo2_holdsFirst n x1 S) ?_
  intro x p e s m args below meth c X
  refine h_pick (lv' := [(0, .ref (t)), (1, .int x1)]) [0, 1] rfl ?_
  exact h_close (w2_holdsFirst hsf X n x1 S)
theorem tc2_holdsFirst : Cond.code yX2_holdsFirst cX2_holdsFirst 3 (some .boolean) ∈ tt := tt_in (List.mem_of_getElem? (i := 380) (by decide +kernel)) (by decide +kernel)
theorem ti2_holdsFirst : Cond.instanceMethod yX2_holdsFirst ∈ tt := tt_in (List.mem_of_getElem? (i := 378) (by decide +kernel)) (by decide +kernel)
theorem te2_holdsFirst : Cond.selects RX2 yX2_holdsFirst yX2_holdsFirst ∈ tt := tt_in (List.mem_of_getElem? (i := 379) (by decide +kernel)) (by decide +kernel)
end TM
