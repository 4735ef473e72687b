def rmR (fr lo : Nat) : Room := { frames := fr, cells := 0, slots := 0, locals := lo }
theorem good_in {ws : List Cond} (h : ∀ w ∈ ws, w ∈ tt) : GoodIn tt ws := fun w hw => good_tt (fun _ h => h) w (h w hw)
theorem in_wsM {y : MethodName} {b : ByteArray} {n : Nat} {ret : Option FieldType} (hc : Cond.code y b n ret ∈ tt) : ∀ w ∈ wsM y b n ret, w ∈ tt := fun w h => by
  rcases List.mem_cons.mp h with rfl | h
  · exact hc
  · exact h
theorem ini5 : Cond.initialized RX5 ∈ tt := tt_in (by decide +kernel) (by decide +kernel)
theorem cwVR {R : Room} {s : State} {args : Array Value} {own C : String} {ix n k fr lo : Nat} {y : MethodName} {b : ByteArray} {ret : Option FieldType} (hts : ∀ w ∈ tt, w.before args s = true) (h1 : Cond.methodLink own ix y ∈ tt) (h2 : Cond.instanceMethod y ∈ tt) (h3 : Cond.selects C y y ∈ tt) (h4 : Cond.code y b n ret ∈ tt) (h5 : Cond.initialized C ∈ tt)
    (hd : y.cls = C ∧ y.cls ≠ "java/lang/invoke/MethodHandle" ∧ y.cls ≠ "java/lang/invoke/VarHandle" ∧ (parseMethodDescriptor y.desc).map (fun d => d.parameters.length) = some k) (hR : fr + 1 ≤ R.frames ∧ 8 + (n + 11) + lo ≤ R.locals) : CallW R s args own C ix y b n ret (wsM y b n ret) (rmR fr lo) 0 0 k := by
  refine cwV k hts (good_in fun w hw => ?_) rfl rfl rfl hd hR
  rcases List.mem_append.mp hw with hw | hw
  · simp only [List.mem_cons, List.not_mem_nil, or_false] at hw
    rcases hw with rfl | rfl | rfl | rfl <;> assumption
  · exact in_wsM h4 w hw
theorem cwSR {R : Room} {s : State} {args : Array Value} {own : String} {ix n k fr lo : Nat} {y : MethodName} {b : ByteArray} {ret : Option FieldType} (hts : ∀ w ∈ tt, w.before args s = true) (h1 : Cond.methodLink own ix y ∈ tt) (h2 : Cond.static y ∈ tt) (h4 : Cond.code y b n ret ∈ tt) (h5 : Cond.initialized y.cls ∈ tt)
    (hd : y.cls ≠ "java/lang/invoke/MethodHandle" ∧ y.cls ≠ "java/lang/invoke/VarHandle" ∧ (parseMethodDescriptor y.desc).map (fun d => d.parameters.length) = some k) (hR : fr + 1 ≤ R.frames ∧ 8 + (n + 11) + lo ≤ R.locals) : CallB R s args own ix y b n ret (wsM y b n ret) (rmR fr lo) 0 0 k ∧ (Cond.static y).before args s = true := by
  refine va_cwS k hts (good_in fun w hw => ?_) rfl rfl rfl hd hR
  rcases List.mem_append.mp hw with hw | hw
  · simp only [List.mem_cons, List.not_mem_nil, or_false] at hw
    rcases hw with rfl | rfl | rfl <;> assumption
  · exact in_wsM h4 w hw
def QI (D : va_G) (cI cZ : ClassId) (q : Nat → Nat) (sz : Nat) (r : Int32 × MR) : Array Value → State → Outcome → State → Prop := va_Qi (fun (v : Int32) (M : MR) => v = r.1 ∧ M = r.2) (fun M t => va_P D vwCl (wR cI cZ q M) t.heap ∧ va_K D vwCl (tyR cI cZ) t ∧ va_D (AR q sz) (wR cI cZ q M)) (AR q sz)
def QV (D : va_G) (cI cZ : ClassId) (q : Nat → Nat) (sz : Nat) (r : Int32 × MR) : Array Value → State → Outcome → State → Prop := va_Qv (fun (M : MR) => M = r.2) (fun M t => va_P D vwCl (wR cI cZ q M) t.heap ∧ va_K D vwCl (tyR cI cZ) t ∧ va_D (AR q sz) (wR cI cZ q M)) (AR q sz)
/-- what a method of the reference wants at its start -/
def PcR (D : va_G) (cI cZ : ClassId) (q : Nat → Nat) (sz : Nat) (vs : List Value) (M : MR) : Array Value → State → Prop := va_Pc vs (fun U => U.heap.size = sz ∧ va_P D vwCl (wR cI cZ q M) U.heap ∧ va_K D vwCl (tyR cI cZ) U ∧ va_D (fun _ => True) (wR cI cZ q M))
theorem PcR_blind {D : va_G} {cI cZ : ClassId} {q : Nat → Nat} {sz : Nat} {vs : List Value} {M : MR} : FrameBlind (PcR D cI cZ q sz vs M) := fun a U g mk h => by
  obtain ⟨h0, h1, h2, h3, h4⟩ := h
  exact ⟨h0, h1, h2, va_K.moved (u := U) (U := U.calling g mk a) (Vm.Alike.refl U.vm) h3, h4⟩
/-- a method of the reference does what the pure program F says -/
def MetR (l : Launch) (D : va_G) (cI cZ : ClassId) (q : Nat → Nat) (y : MethodName) (b : ByteArray) (nL : Nat) (ret : Option FieldType) (fr lo : Nat) (Qk : va_G → ClassId → ClassId → (Nat → Nat) → Nat → Int32 × MR → Array Value → State → Outcome → State → Prop) (vs : List Value) (M : MR) (F : Option (Int32 × MR)) : Prop :=
  ∀ sz r, F = some r → Met l y (wsM y b nL ret) (rmR fr lo) (PcR D cI cZ q sz vs M) (Qk D cI cZ q sz r) 0 0 (AR q sz)
theorem MetR.of {l : Launch} {D : va_G} {cI cZ : ClassId} {q : Nat → Nat} {y : MethodName} {b : ByteArray} {nL : Nat} {ret : Option FieldType} {fr lo : Nat} {Qk : va_G → ClassId → ClassId → (Nat → Nat) → Nat → Int32 × MR → Array Value → State → Outcome → State → Prop} {vs : List Value} {M : MR} {F : Option (Int32 × MR)} (hy : plainName y.cls = true) (hcl : y.cls = RX5) (hlen : (lg_sl vs).length ≤ nL)
    (body : ∀ (p : Program) (e : Env) (s : State) (m : MethodId) (args : Array Value) (below : List Frame) (meth : Method) (c : Code), gX p s m args meth c b nL RX5 ret D (tyR cI cZ) → gG p l e (rmR fr lo) s m args below meth c nL (ZR D cI cZ q (AR q s.heap.size) s.heap M) 0 0 (fun r => MQ below (Qk D cI cZ q s.heap.size r) args s 0 0 (AR q s.heap.size)) 0 (lv_args 0 vs) [] F) : MetR l D cI cZ q y b nL ret fr lo Qk vs M F := by
  intro sz r hr
  refine Met.ofW (cc := b) (maxL := nL) (ret := ret) hy rfl ?_
  intro p e s m args below meth c s₁ B hml hv
  obtain ⟨rfl, hsz, hP, hK, hD0⟩ := hv
  have hts : ∀ w ∈ tt, w.before vs.toArray s = true := fun w hw => atoms_spec (ws := wsM y b nL ret) B.pre w (List.mem_cons_of_mem _ hw)
  have hown : s.vm.findClass RX5 = some m.cls := by rw [← hcl]; exact findClass_of_methodNamed B.named
  subst hsz
  have hD := hD0.self (sz := s.heap.size)
  rw [AR_eq] at hD
  have hl := lv_entry vs (n := nL) hlen
  rw [lg_entry_eq]
  exact body p e s m _ below meth c ⟨B.exec, B.bytes, hml, hown, hts, hK, B.notSynchronized, B.returns⟩ r hr _ _ _ ⟨hP, hD, va_S.rf⟩ hl
section RC
variable {ρ : Type} {p : Program} {l : Launch} {e : Env} {R : Room} {s : State} {m : MethodId} {args : Array Value} {below : List Frame} {meth : Method} {c : Code}
variable {cc : ByteArray} {nL : Nat} {rt : Option FieldType} {D : va_G} {cI cZ : ClassId} {q : Nat → Nat} {A : Nat → Prop} {H0 : Heap} {M : MR} {kc ks : Nat} {QQ : ρ → State → Prop} {pc : Nat} {lv : List (Nat × Value)} {st : List Value} {F : Option ρ}
theorem r_iret {v : Int32} (X : gX p s m args meth c cc nL RX5 (some .int) D (tyR cI cZ)) (d : decode cc pc = .ok (.ireturn, 1)) : gG p l e R s m args below meth c nL (ZR D cI cZ q (AR q s.heap.size) s.heap M) 0 0 (fun r => MQ below (QI D cI cZ q s.heap.size r) args s 0 0 (AR q s.heap.size)) pc lv [.int v] (some (v, M)) := fun r hr H locs ls hz hl => by
  cases hr
  exact W.iret (v := v) X.1 X.2.1 X.2.2.2.2.2.2.2 (fun t ht hW => ⟨⟨v, M, rfl, ⟨rfl, rfl⟩, by rw [ht]; exact hz.1, va_K.moved hW.alike X.2.2.2.2.2.1, hz.2.1⟩, hz.2.2.F ht⟩) hz.2.2.2.2 d X.2.2.2.2.2.2.1
theorem r_zret {v : Int32} (X : gX p s m args meth c cc nL RX5 (some .boolean) D (tyR cI cZ)) (d : decode cc pc = .ok (.ireturn, 1)) : gG p l e R s m args below meth c nL (ZR D cI cZ q (AR q s.heap.size) s.heap M) 0 0 (fun r => MQ below (QI D cI cZ q s.heap.size r) args s 0 0 (AR q s.heap.size)) pc lv [.int v] (zt v (some (v, M))) := fun r hr H locs ls hz hl => by
  obtain ⟨hb, hr⟩ := zt_bo hr
  cases hr
  exact W.zret (v := v) X.1 X.2.1 X.2.2.2.2.2.2.2 (bo_nar hb).1 (fun t ht hW => ⟨⟨v, M, rfl, ⟨rfl, rfl⟩, by rw [ht]; exact hz.1, va_K.moved hW.alike X.2.2.2.2.2.1, hz.2.1⟩, hz.2.2.F ht⟩) hz.2.2.2.2 d X.2.2.2.2.2.2.1
theorem r_vret (X : gX p s m args meth c cc nL RX5 none D (tyR cI cZ)) (d : decode cc pc = .ok (.return_, 1)) : gG p l e R s m args below meth c nL (ZR D cI cZ q (AR q s.heap.size) s.heap M) 0 0 (fun r => MQ below (QV D cI cZ q s.heap.size r) args s 0 0 (AR q s.heap.size)) pc lv [] (some (0, M)) := fun r hr H locs ls hz hl => by
  cases hr
  exact W.vret X.1 X.2.1 X.2.2.2.2.2.2.2 (fun t ht hW => ⟨⟨M, rfl, rfl, by rw [ht]; exact hz.1, va_K.moved hW.alike X.2.2.2.2.2.1, hz.2.1⟩, hz.2.2.F ht⟩) hz.2.2.2.2 d X.2.2.2.2.2.2.1
theorem bnd_some {α β : Type} {x : Option (α × β)} {K : α → β → Option ρ} {r : ρ} (h : bnd x K = some r) : ∃ a, x = some a ∧ K a.1 a.2 = some r := by
  unfold bnd at h
  cases x with
  | none => cases h
  | some a => exact ⟨a, rfl, h⟩
theorem r_callVi (X : gX p s m args meth c cc nL RX5 rt D (tyR cI cZ)) {y : MethodName} {b : ByteArray} {nz fr lo n ix : Nat} {ret : Option FieldType} {As rest : List Value} {Fz : Option (Int32 × MR)} {K : Int32 → MR → Option ρ} (hM : MetR l D cI cZ q y b nz ret fr lo QI (.ref (q 34) :: As) M Fz) (cw : CallW R s args RX5 RX5 ix y b nz ret (wsM y b nz ret) (rmR fr lo) 0 0 n) (hn : As.length = n) (hst : st = As.reverse ++ .ref (q 34) :: rest) (hcat : (rest.map fun v => v.category).sum ≤ 8) (d : decode cc pc = .ok (.invokevirtual ix, 3))
    (kk : ∀ v M1, gG p l e R s m args below meth c nL (ZR D cI cZ q (AR q s.heap.size) s.heap M1) 0 0 QQ (pc + 3) lv (.int v :: rest) (K v M1)) : gG p l e R s m args below meth c nL (ZR D cI cZ q (AR q s.heap.size) s.heap M) 0 0 QQ pc lv st (bnd Fz K) := fun r hr H locs ls hz hl => by
  obtain ⟨a, hF, hr⟩ := bnd_some hr
  have hmono : ∀ x, AR q H.size x → AR q s.heap.size x := fun x hx => AR_mono hz.2.2.1 hx
  refine va_calli (va_runV (As := As) (rest := rest) ⟨X.1, X.2.1, X.2.2.1, X.2.2.2.1, X.2.2.2.2.1⟩ (hM H.size a hF) cw ⟨PcR_blind, va_recv X.2.2.2.2.2.1 hz.1 (ci := 5) (q0 := 0) rfl rfl, fun U hU hW => ⟨rfl, by rw [hU], by rw [hU]; exact hz.1, va_K.moved hW.alike X.2.2.2.2.2.1, hz.2.1.weaken (fun _ _ _ _ => trivial)⟩⟩ rfl hn hl.1 hst (lv_room hcat) d ⟨Nat.zero_le _, Nat.zero_le _⟩) hz.2.2 (fun x _ h => hmono x h) (fun x h => hmono x h) (fun v u t H1 locs1 ht hvm hw hB hz1 hk1 hS => ?_)
  obtain ⟨rfl, rfl⟩ := hw
  subst ht
  exact kk _ _ r hr _ _ ls ⟨hB.1, hB.2.2.weaken (fun _ _ _ h => hmono _ h), hS⟩ hl
theorem r_callVv (X : gX p s m args meth c cc nL RX5 rt D (tyR cI cZ)) {y : MethodName} {b : ByteArray} {nz fr lo n ix : Nat} {ret : Option FieldType} {As rest : List Value} {Fz : Option (Int32 × MR)} {K : Int32 → MR → Option ρ} (hM : MetR l D cI cZ q y b nz ret fr lo QV (.ref (q 34) :: As) M Fz) (cw : CallW R s args RX5 RX5 ix y b nz ret (wsM y b nz ret) (rmR fr lo) 0 0 n) (hn : As.length = n) (hst : st = As.reverse ++ .ref (q 34) :: rest) (hcat : (rest.map fun v => v.category).sum ≤ 8) (d : decode cc pc = .ok (.invokevirtual ix, 3))
    (kk : ∀ v M1, gG p l e R s m args below meth c nL (ZR D cI cZ q (AR q s.heap.size) s.heap M1) 0 0 QQ (pc + 3) lv rest (K v M1)) : gG p l e R s m args below meth c nL (ZR D cI cZ q (AR q s.heap.size) s.heap M) 0 0 QQ pc lv st (bnd Fz K) := fun r hr H locs ls hz hl => by
  obtain ⟨a, hF, hr⟩ := bnd_some hr
  have hmono : ∀ x, AR q H.size x → AR q s.heap.size x := fun x hx => AR_mono hz.2.2.1 hx
  refine va_callv (va_runV (As := As) (rest := rest) ⟨X.1, X.2.1, X.2.2.1, X.2.2.2.1, X.2.2.2.2.1⟩ (hM H.size a hF) cw ⟨PcR_blind, va_recv X.2.2.2.2.2.1 hz.1 (ci := 5) (q0 := 0) rfl rfl, fun U hU hW => ⟨rfl, by rw [hU], by rw [hU]; exact hz.1, va_K.moved hW.alike X.2.2.2.2.2.1, hz.2.1.weaken (fun _ _ _ _ => trivial)⟩⟩ rfl hn hl.1 hst (lv_room hcat) d ⟨Nat.zero_le _, Nat.zero_le _⟩) hz.2.2 (fun x _ h => hmono x h) (fun x h => hmono x h) (fun u t H1 locs1 ht hvm hw hB hz1 hk1 hS => ?_)
  subst hw
  subst ht
  exact kk _ _ r hr _ _ ls ⟨hB.1, hB.2.2.weaken (fun _ _ _ h => hmono _ h), hS⟩ hl
theorem r_callSi (X : gX p s m args meth c cc nL RX5 rt D (tyR cI cZ)) {y : MethodName} {b : ByteArray} {nz fr lo n ix : Nat} {ret : Option FieldType} {As rest : List Value} {Fz : Option (Int32 × MR)} {K : Int32 → MR → Option ρ} (hM : MetR l D cI cZ q y b nz ret fr lo QI As M Fz) (cw : CallB R s args RX5 ix y b nz ret (wsM y b nz ret) (rmR fr lo) 0 0 n ∧ (Cond.static y).before args s = true) (hn : As.length = n) (hst : st = As.reverse ++ rest) (hcat : (rest.map fun v => v.category).sum ≤ 8) (d : decode cc pc = .ok (.invokestatic ix, 3))
    (kk : ∀ v M1, gG p l e R s m args below meth c nL (ZR D cI cZ q (AR q s.heap.size) s.heap M1) 0 0 QQ (pc + 3) lv (.int v :: rest) (K v M1)) : gG p l e R s m args below meth c nL (ZR D cI cZ q (AR q s.heap.size) s.heap M) 0 0 QQ pc lv st (bnd Fz K) := fun r hr H locs ls hz hl => by
  obtain ⟨a, hF, hr⟩ := bnd_some hr
  have hmono : ∀ x, AR q H.size x → AR q s.heap.size x := fun x hx => AR_mono hz.2.2.1 hx
  refine va_calli (va_runS (As := As) (rest := rest) ⟨X.1, X.2.1, X.2.2.1, X.2.2.2.1, X.2.2.2.2.1⟩ (hM H.size a hF) cw ⟨PcR_blind, fun U hU hW => ⟨rfl, by rw [hU], by rw [hU]; exact hz.1, va_K.moved hW.alike X.2.2.2.2.2.1, hz.2.1.weaken (fun _ _ _ _ => trivial)⟩⟩ rfl hn hl.1 hst (lv_room hcat) d ⟨Nat.zero_le _, Nat.zero_le _⟩) hz.2.2 (fun x _ h => hmono x h) (fun x h => hmono x h) (fun v u t H1 locs1 ht hvm hw hB hz1 hk1 hS => ?_)
  obtain ⟨rfl, rfl⟩ := hw
  subst ht
  exact kk _ _ r hr _ _ ls ⟨hB.1, hB.2.2.weaken (fun _ _ _ h => hmono _ h), hS⟩ hl
theorem r_callSv (X : gX p s m args meth c cc nL RX5 rt D (tyR cI cZ)) {y : MethodName} {b : ByteArray} {nz fr lo n ix : Nat} {ret : Option FieldType} {As rest : List Value} {Fz : Option (Int32 × MR)} {K : Int32 → MR → Option ρ} (hM : MetR l D cI cZ q y b nz ret fr lo QV As M Fz) (cw : CallB R s args RX5 ix y b nz ret (wsM y b nz ret) (rmR fr lo) 0 0 n ∧ (Cond.static y).before args s = true) (hn : As.length = n) (hst : st = As.reverse ++ rest) (hcat : (rest.map fun v => v.category).sum ≤ 8) (d : decode cc pc = .ok (.invokestatic ix, 3))
    (kk : ∀ v M1, gG p l e R s m args below meth c nL (ZR D cI cZ q (AR q s.heap.size) s.heap M1) 0 0 QQ (pc + 3) lv rest (K v M1)) : gG p l e R s m args below meth c nL (ZR D cI cZ q (AR q s.heap.size) s.heap M) 0 0 QQ pc lv st (bnd Fz K) := fun r hr H locs ls hz hl => by
  obtain ⟨a, hF, hr⟩ := bnd_some hr
  have hmono : ∀ x, AR q H.size x → AR q s.heap.size x := fun x hx => AR_mono hz.2.2.1 hx
  refine va_callv (va_runS (As := As) (rest := rest) ⟨X.1, X.2.1, X.2.2.1, X.2.2.2.1, X.2.2.2.2.1⟩ (hM H.size a hF) cw ⟨PcR_blind, fun U hU hW => ⟨rfl, by rw [hU], by rw [hU]; exact hz.1, va_K.moved hW.alike X.2.2.2.2.2.1, hz.2.1.weaken (fun _ _ _ _ => trivial)⟩⟩ rfl hn hl.1 hst (lv_room hcat) d ⟨Nat.zero_le _, Nat.zero_le _⟩) hz.2.2 (fun x _ h => hmono x h) (fun x h => hmono x h) (fun u t H1 locs1 ht hvm hw hB hz1 hk1 hS => ?_)
  subst hw
  subst ht
  exact kk _ _ r hr _ _ ls ⟨hB.1, hB.2.2.weaken (fun _ _ _ h => hmono _ h), hS⟩ hl
end RC
