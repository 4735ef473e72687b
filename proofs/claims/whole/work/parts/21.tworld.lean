abbrev tyC (cI : ClassId) : List (ClassId × FieldType) := [(cI, .int)]
def wT (cI : ClassId) (t : Nat) : Nat → CS → va_W := fun a T => [(t, .inr (2, [.int (T.1 0 0), .int (T.1 1 0), .ref a, .int (T.1 3 0)])), (a, .inl (cI, T.2 0, .inl (T.1 2)))]
-- the pure program's words
def cg {ρ : Type} (S : CS) (j : Nat) (K : Int32 → Option ρ) : Option ρ := K (S.1 j 0)
def cp {ρ : Type} (S : CS) (j : Nat) (v : Int32) (K : CS → Option ρ) : Option ρ := K (mS S.1 j 0 v, S.2)
def cr {ρ : Type} (S : CS) (j n : Nat) (i : Int32) (K : Int32 → Option ρ) : Option ρ := if i < 0 ∨ n ≤ i.toNatClampNeg then none else K (S.1 j i.toNatClampNeg)
def cw {ρ : Type} (S : CS) (j n : Nat) (i v : Int32) (K : CS → Option ρ) : Option ρ := if i < 0 ∨ n ≤ i.toNatClampNeg then none else K (mS S.1 j i.toNatClampNeg v, S.2)
def tl {ρ : Type} (T : CS) (K : Int32 → Option ρ) : Option ρ := K (Int32.ofNat (T.2 0))
def mo {β : Type} (S : CS) (F : Option (β × CS)) : Prop := ∀ r, F = some r → le S r.2
section MO
variable {β : Type} {S : CS}
theorem m_none : mo S (none : Option (β × CS)) := fun _ hr => by cases hr
theorem m_some {v : β} : mo S (some (v, S)) := fun _ hr => by cases hr; exact le_rf
theorem m_ite {P : Prop} [Decidable P] {F1 F2 : Option (β × CS)} (h1 : mo S F1) (h2 : mo S F2) : mo S (if P then F1 else F2) := by
  by_cases h : P
  · rw [if_pos h]; exact h1
  · rw [if_neg h]; exact h2
theorem m_zt {v : Int32} {F : Option (β × CS)} (h : mo S F) : mo S (zt v F) := fun r hr => h r (zt_bo hr).2
theorem m_cg {j : Nat} {K : Int32 → Option (β × CS)} (h : ∀ v, mo S (K v)) : mo S (cg S j K) := h _
theorem m_cp {j : Nat} {v : Int32} {K : CS → Option (β × CS)} (h : ∀ S1, mo S1 (K S1)) : mo S (cp S j v K) := h (mS S.1 j 0 v, S.2)
theorem m_cr {j n : Nat} {i : Int32} {K : Int32 → Option (β × CS)} (h : ∀ v, mo S (K v)) : mo S (cr S j n i K) := m_ite m_none (h _)
theorem m_cw {j n : Nat} {i v : Int32} {K : CS → Option (β × CS)} (h : ∀ S1, mo S1 (K S1)) : mo S (cw S j n i v K) := m_ite m_none (h (mS S.1 j i.toNatClampNeg v, S.2))
theorem m_tl {K : Int32 → Option (β × CS)} (h : ∀ v, mo S (K v)) : mo S (tl S K) := h _
theorem m_bnd {γ : Type} {x : Option (γ × CS)} {K : γ → CS → Option (β × CS)} (hx : mo S x) (h : ∀ v S1, mo S1 (K v S1)) : mo S (bnd x K) := fun r hr => by
  obtain ⟨a, hF, hr⟩ := bnd_some hr
  exact le_tr (hx a hF) (h _ _ r hr)
end MO
theorem ini_1 : Cond.initialized RX1 ∈ tt := tt_in (by decide +kernel) (by decide +kernel)
theorem ini_0 : Cond.initialized RX0 ∈ tt := tt_in (by decide +kernel) (by decide +kernel)
theorem ini_2 : Cond.initialized RX2 ∈ tt := tt_in (by decide +kernel) (by decide +kernel)
theorem ini_3 : Cond.initialized RX3 ∈ tt := tt_in (by decide +kernel) (by decide +kernel)
theorem ini_4 : Cond.initialized RX4 ∈ tt := tt_in (by decide +kernel) (by decide +kernel)
theorem gX_0 : ∀ w ∈ u_ws RX0 TX0 4, goodWord w = true := by decide +kernel
theorem jX_0 : ∀ w ∈ u_ws RX0 TX0 4, w ∈ tt := fun w h => tt_in (iX0 w h) (gX_0 w h)
theorem gX_1 : ∀ w ∈ u_ws RX1 TX1 11, goodWord w = true := by decide +kernel
theorem jX_1 : ∀ w ∈ u_ws RX1 TX1 11, w ∈ tt := fun w h => tt_in (iX1 w h) (gX_1 w h)
theorem gX_2 : ∀ w ∈ u_ws RX2 TX2 4, goodWord w = true := by decide +kernel
theorem jX_2 : ∀ w ∈ u_ws RX2 TX2 4, w ∈ tt := fun w h => tt_in (iX2 w h) (gX_2 w h)
theorem gX_3 : ∀ w ∈ u_ws RX3 TX3 9, goodWord w = true := by decide +kernel
theorem jX_3 : ∀ w ∈ u_ws RX3 TX3 9, w ∈ tt := fun w h => tt_in (iX3 w h) (gX_3 w h)
theorem gX_4 : ∀ w ∈ u_ws RX4 TX4 10, goodWord w = true := by decide +kernel
theorem jX_4 : ∀ w ∈ u_ws RX4 TX4 10, w ∈ tt := fun w h => tt_in (iX4 w h) (gX_4 w h)
theorem cwVC {fr lo : Nat} {s : State} {args : Array Value} {own C : String} {ix n k fz lz : Nat} {y : MethodName} {b : ByteArray} {ret : Option FieldType} (hts : ∀ w ∈ tt, w.before args s = true) (h1 : Cond.methodLink own ix y ∈ tt) (h2 : Cond.instanceMethod y ∈ tt) (h3 : Cond.selects C y y ∈ tt) (h4 : Cond.code y b n ret ∈ tt) (h5 : Cond.initialized C ∈ tt)
    (hd : y.cls = C ∧ y.cls ≠ "java/lang/invoke/MethodHandle" ∧ y.cls ≠ "java/lang/invoke/VarHandle" ∧ (parseMethodDescriptor y.desc).map (fun d => d.parameters.length) = some k) (hR : fz + 1 ≤ fr ∧ 8 + (n + 11) + lz ≤ lo) : ∀ a0 b0 mc ms : Nat, CallW (rmC fr lo a0 b0) s args own C ix y b n ret (wsM y b n ret) (rmC fz lz mc ms) mc ms k := fun a0 b0 mc ms => by
  refine cwV k hts (good_in fun w hw => ?_) rfl rfl rfl hd hR
  rcases List.mem_append.mp hw with hw | hw
  · simp only [List.mem_cons, List.not_mem_nil, or_false] at hw
    rcases hw with rfl | rfl | rfl | rfl <;> assumption
  · exact in_wsM h4 w hw
theorem cwSC {fr lo : Nat} {s : State} {args : Array Value} {own : String} {ix n k fz lz : Nat} {y : MethodName} {b : ByteArray} {ret : Option FieldType} (hts : ∀ w ∈ tt, w.before args s = true) (h1 : Cond.methodLink own ix y ∈ tt) (h2 : Cond.static y ∈ tt) (h4 : Cond.code y b n ret ∈ tt) (h5 : Cond.initialized y.cls ∈ tt)
    (hd : y.cls ≠ "java/lang/invoke/MethodHandle" ∧ y.cls ≠ "java/lang/invoke/VarHandle" ∧ (parseMethodDescriptor y.desc).map (fun d => d.parameters.length) = some k) (hR : fz + 1 ≤ fr ∧ 8 + (n + 11) + lz ≤ lo) : ∀ a0 b0 mc ms : Nat, CallB (rmC fr lo a0 b0) s args own ix y b n ret (wsM y b n ret) (rmC fz lz mc ms) mc ms k ∧ (Cond.static y).before args s = true := fun a0 b0 mc ms => by
  refine va_cwS k hts (good_in fun w hw => ?_) rfl rfl rfl hd hR
  rcases List.mem_append.mp hw with hw | hw
  · simp only [List.mem_cons, List.not_mem_nil, or_false] at hw
    rcases hw with rfl | rfl | rfl <;> assumption
  · exact in_wsM h4 w hw
theorem fl0_16 : Cond.fieldLink RX0 16 "EditionBook$Image" "cells" "LEditionBook$Table;" ∈ tt := tt_in (List.mem_of_getElem? (i := 188) (by decide +kernel)) (by decide +kernel)
theorem fl0_20 : Cond.fieldLink RX0 20 "EditionBook$Image" "editions" "LEditionBook$Table;" ∈ tt := tt_in (List.mem_of_getElem? (i := 190) (by decide +kernel)) (by decide +kernel)
theorem fl0_23 : Cond.fieldLink RX0 23 "EditionBook$Image" "objects" "LEditionBook$Table;" ∈ tt := tt_in (List.mem_of_getElem? (i := 194) (by decide +kernel)) (by decide +kernel)
theorem fl0_26 : Cond.fieldLink RX0 26 "EditionBook$Image" "newestOfName" "[I" ∈ tt := tt_in (List.mem_of_getElem? (i := 197) (by decide +kernel)) (by decide +kernel)
theorem fl0_75 : Cond.fieldLink RX0 75 "EditionBook$Reader" "parent" "I" ∈ tt := tt_in (List.mem_of_getElem? (i := 140) (by decide +kernel)) (by decide +kernel)
theorem fl0_81 : Cond.fieldLink RX0 81 "EditionBook$Reader" "startFrom" "I" ∈ tt := tt_in (List.mem_of_getElem? (i := 142) (by decide +kernel)) (by decide +kernel)
theorem fl0_84 : Cond.fieldLink RX0 84 "EditionBook$Reader" "length" "I" ∈ tt := tt_in (List.mem_of_getElem? (i := 136) (by decide +kernel)) (by decide +kernel)
theorem fl0_90 : Cond.fieldLink RX0 90 "EditionBook$Reader" "fields" "LEditionBook$Table;" ∈ tt := tt_in (List.mem_of_getElem? (i := 131) (by decide +kernel)) (by decide +kernel)
theorem fl0_93 : Cond.fieldLink RX0 93 "EditionBook$Reader" "methods" "LEditionBook$Table;" ∈ tt := tt_in (List.mem_of_getElem? (i := 133) (by decide +kernel)) (by decide +kernel)
theorem fl1_14 : Cond.fieldLink RX1 14 "EditionBook$Reader" "fields" "LEditionBook$Table;" ∈ tt := tt_in (List.mem_of_getElem? (i := 130) (by decide +kernel)) (by decide +kernel)
theorem fl1_20 : Cond.fieldLink RX1 20 "EditionBook$Reader" "methods" "LEditionBook$Table;" ∈ tt := tt_in (List.mem_of_getElem? (i := 132) (by decide +kernel)) (by decide +kernel)
theorem fl1_23 : Cond.fieldLink RX1 23 "EditionBook$Reader" "length" "I" ∈ tt := tt_in (List.mem_of_getElem? (i := 134) (by decide +kernel)) (by decide +kernel)
theorem fl1_27 : Cond.fieldLink RX1 27 "EditionBook$Reader" "used" "I" ∈ tt := tt_in (List.mem_of_getElem? (i := 137) (by decide +kernel)) (by decide +kernel)
theorem fl1_30 : Cond.fieldLink RX1 30 "EditionBook$Reader" "parent" "I" ∈ tt := tt_in (List.mem_of_getElem? (i := 139) (by decide +kernel)) (by decide +kernel)
theorem fl1_33 : Cond.fieldLink RX1 33 "EditionBook$Reader" "startFrom" "I" ∈ tt := tt_in (List.mem_of_getElem? (i := 141) (by decide +kernel)) (by decide +kernel)
theorem fl1_36 : Cond.fieldLink RX1 36 "EditionBook$Reader" "newest" "[I" ∈ tt := tt_in (List.mem_of_getElem? (i := 143) (by decide +kernel)) (by decide +kernel)
theorem fl1_40 : Cond.fieldLink RX1 40 "EditionBook$Reader" "sorts" "[I" ∈ tt := tt_in (List.mem_of_getElem? (i := 144) (by decide +kernel)) (by decide +kernel)
theorem fl1_43 : Cond.fieldLink RX1 43 "EditionBook$Reader" "text" "[I" ∈ tt := tt_in (List.mem_of_getElem? (i := 145) (by decide +kernel)) (by decide +kernel)
theorem fl1_46 : Cond.fieldLink RX1 46 "EditionBook$Reader" "bound" "[I" ∈ tt := tt_in (List.mem_of_getElem? (i := 146) (by decide +kernel)) (by decide +kernel)
theorem fl1_49 : Cond.fieldLink RX1 49 "EditionBook$Reader" "at" "I" ∈ tt := tt_in (List.mem_of_getElem? (i := 147) (by decide +kernel)) (by decide +kernel)
theorem fl1_58 : Cond.fieldLink RX1 58 "EditionBook$Image" "editions" "LEditionBook$Table;" ∈ tt := tt_in (List.mem_of_getElem? (i := 191) (by decide +kernel)) (by decide +kernel)
theorem fl2_9 : Cond.fieldLink RX2 9 "EditionBook$Table" "rows" "I" ∈ tt := tt_in (List.mem_of_getElem? (i := 119) (by decide +kernel)) (by decide +kernel)
theorem fl2_21 : Cond.fieldLink RX2 21 "EditionBook$Table" "width" "I" ∈ tt := tt_in (List.mem_of_getElem? (i := 116) (by decide +kernel)) (by decide +kernel)
theorem fl2_24 : Cond.fieldLink RX2 24 "EditionBook$Table" "most" "I" ∈ tt := tt_in (List.mem_of_getElem? (i := 117) (by decide +kernel)) (by decide +kernel)
theorem fl2_27 : Cond.fieldLink RX2 27 "EditionBook$Table" "ints" "[I" ∈ tt := tt_in (List.mem_of_getElem? (i := 118) (by decide +kernel)) (by decide +kernel)
theorem fl3_14 : Cond.fieldLink RX3 14 "EditionBook$Worker" "book" "LEditionBook$Image;" ∈ tt := tt_in (List.mem_of_getElem? (i := 209) (by decide +kernel)) (by decide +kernel)
theorem fl3_23 : Cond.fieldLink RX3 23 "EditionBook$Worker" "written" "LEditionBook$Table;" ∈ tt := tt_in (List.mem_of_getElem? (i := 211) (by decide +kernel)) (by decide +kernel)
theorem fl3_27 : Cond.fieldLink RX3 27 "EditionBook$Worker" "wrote" "I" ∈ tt := tt_in (List.mem_of_getElem? (i := 213) (by decide +kernel)) (by decide +kernel)
theorem fl3_31 : Cond.fieldLink RX3 31 "EditionBook$Worker" "steps" "I" ∈ tt := tt_in (List.mem_of_getElem? (i := 215) (by decide +kernel)) (by decide +kernel)
theorem fl3_34 : Cond.fieldLink RX3 34 "EditionBook$Worker" "failure" "I" ∈ tt := tt_in (List.mem_of_getElem? (i := 217) (by decide +kernel)) (by decide +kernel)
theorem fl3_37 : Cond.fieldLink RX3 37 "EditionBook$Worker" "pile" "LEditionBook$Table;" ∈ tt := tt_in (List.mem_of_getElem? (i := 219) (by decide +kernel)) (by decide +kernel)
theorem fl3_40 : Cond.fieldLink RX3 40 "EditionBook$Worker" "frames" "LEditionBook$Table;" ∈ tt := tt_in (List.mem_of_getElem? (i := 220) (by decide +kernel)) (by decide +kernel)
theorem fl3_43 : Cond.fieldLink RX3 43 "EditionBook$Worker" "cellCode" "[I" ∈ tt := tt_in (List.mem_of_getElem? (i := 221) (by decide +kernel)) (by decide +kernel)
theorem fl3_47 : Cond.fieldLink RX3 47 "EditionBook$Worker" "cellFrames" "I" ∈ tt := tt_in (List.mem_of_getElem? (i := 222) (by decide +kernel)) (by decide +kernel)
theorem fl3_54 : Cond.fieldLink RX3 54 "EditionBook$Reader" "length" "I" ∈ tt := tt_in (List.mem_of_getElem? (i := 135) (by decide +kernel)) (by decide +kernel)
theorem fl3_98 : Cond.fieldLink RX3 98 "EditionBook$Image" "editions" "LEditionBook$Table;" ∈ tt := tt_in (List.mem_of_getElem? (i := 193) (by decide +kernel)) (by decide +kernel)
theorem fl3_145 : Cond.fieldLink RX3 145 "EditionBook$Image" "objects" "LEditionBook$Table;" ∈ tt := tt_in (List.mem_of_getElem? (i := 196) (by decide +kernel)) (by decide +kernel)
theorem fl4_9 : Cond.fieldLink RX4 9 "EditionBook" "tape" "[I" ∈ tt := tt_in (List.mem_of_getElem? (i := 244) (by decide +kernel)) (by decide +kernel)
theorem fl4_13 : Cond.fieldLink RX4 13 "EditionBook" "onTape" "I" ∈ tt := tt_in (List.mem_of_getElem? (i := 245) (by decide +kernel)) (by decide +kernel)
theorem fl4_20 : Cond.fieldLink RX4 20 "EditionBook" "reader" "LEditionBook$Reader;" ∈ tt := tt_in (List.mem_of_getElem? (i := 246) (by decide +kernel)) (by decide +kernel)
theorem fl4_27 : Cond.fieldLink RX4 27 "EditionBook" "worker" "LEditionBook$Worker;" ∈ tt := tt_in (List.mem_of_getElem? (i := 247) (by decide +kernel)) (by decide +kernel)
theorem fl4_31 : Cond.fieldLink RX4 31 "EditionBook$Worker" "book" "LEditionBook$Image;" ∈ tt := tt_in (List.mem_of_getElem? (i := 210) (by decide +kernel)) (by decide +kernel)
theorem fl4_35 : Cond.fieldLink RX4 35 "EditionBook" "now" "LEditionBook$Image;" ∈ tt := tt_in (List.mem_of_getElem? (i := 248) (by decide +kernel)) (by decide +kernel)
theorem fl4_40 : Cond.fieldLink RX4 40 "EditionBook" "kept" "[LEditionBook$Image;" ∈ tt := tt_in (List.mem_of_getElem? (i := 249) (by decide +kernel)) (by decide +kernel)
theorem fl4_44 : Cond.fieldLink RX4 44 "EditionBook" "cameKind" "I" ∈ tt := tt_in (List.mem_of_getElem? (i := 250) (by decide +kernel)) (by decide +kernel)
theorem fl4_47 : Cond.fieldLink RX4 47 "EditionBook" "cameNumber" "I" ∈ tt := tt_in (List.mem_of_getElem? (i := 251) (by decide +kernel)) (by decide +kernel)
theorem fl4_50 : Cond.fieldLink RX4 50 "EditionBook" "cameFailure" "I" ∈ tt := tt_in (List.mem_of_getElem? (i := 252) (by decide +kernel)) (by decide +kernel)
theorem fl4_53 : Cond.fieldLink RX4 53 "EditionBook" "cameSteps" "I" ∈ tt := tt_in (List.mem_of_getElem? (i := 253) (by decide +kernel)) (by decide +kernel)
theorem fl4_64 : Cond.fieldLink RX4 64 "EditionBook$Image" "cells" "LEditionBook$Table;" ∈ tt := tt_in (List.mem_of_getElem? (i := 189) (by decide +kernel)) (by decide +kernel)
theorem fl4_111 : Cond.fieldLink RX4 111 "EditionBook$Image" "editions" "LEditionBook$Table;" ∈ tt := tt_in (List.mem_of_getElem? (i := 192) (by decide +kernel)) (by decide +kernel)
theorem fl4_129 : Cond.fieldLink RX4 129 "EditionBook$Image" "objects" "LEditionBook$Table;" ∈ tt := tt_in (List.mem_of_getElem? (i := 195) (by decide +kernel)) (by decide +kernel)
theorem fl4_167 : Cond.fieldLink RX4 167 "EditionBook$Worker" "failure" "I" ∈ tt := tt_in (List.mem_of_getElem? (i := 218) (by decide +kernel)) (by decide +kernel)
theorem fl4_170 : Cond.fieldLink RX4 170 "EditionBook$Worker" "steps" "I" ∈ tt := tt_in (List.mem_of_getElem? (i := 216) (by decide +kernel)) (by decide +kernel)
theorem fl4_197 : Cond.fieldLink RX4 197 "EditionBook$Reader" "used" "I" ∈ tt := tt_in (List.mem_of_getElem? (i := 138) (by decide +kernel)) (by decide +kernel)
theorem fl4_221 : Cond.fieldLink RX4 221 "EditionBook$Worker" "wrote" "I" ∈ tt := tt_in (List.mem_of_getElem? (i := 214) (by decide +kernel)) (by decide +kernel)
theorem fl4_224 : Cond.fieldLink RX4 224 "EditionBook$Worker" "written" "LEditionBook$Table;" ∈ tt := tt_in (List.mem_of_getElem? (i := 212) (by decide +kernel)) (by decide +kernel)
section TW
variable {ρ : Type} {p : Program} {l : Launch} {e : Env} {s : State} {m : MethodId} {args : Array Value} {below : List Frame} {meth : Method} {c : Code}
variable {cc : ByteArray} {nL : Nat} {own : String} {rt : Option FieldType} {D : va_G} {cI : ClassId} {sf : sfT} {A : Nat → Prop} {t a : Nat} {fr lo : Nat} {S0 S : CS} {QQ : ρ × CS → State → Prop} {pc : Nat} {lv : List (Nat × Value)} {st : List Value} {F : Option (ρ × CS)}
theorem t_g_width (X : hX p s m args meth c cc nL RX2 rt D (tyC cI) sf A) {K : Int32 → Option (ρ × CS)} (d : decode cc pc = .ok (.getfield 21, 3)) (kk : ∀ v, hG p l e (fun r => rmC fr lo (cS r.2 - cS S0) (sS r.2 - sS S0)) s m args below meth c nL (ZW D (wT cI t) A s.heap S0 S) (cS S - cS S0) (sS S - sS S0) QQ (fun r => le S r.2) (pc + 3) lv (.int v :: st) (K v)) : hG p l e (fun r => rmC fr lo (cS r.2 - cS S0) (sS r.2 - sS S0)) s m args below meth c nL (ZW D (wT cI t) A s.heap S0 S) (cS S - cS S0) (sS S - sS S0) QQ (fun r => le S r.2) pc lv (.ref t :: st) (cg S 0 K) := ⟨fun r hr => (kk _).1 r hr, fun r hr H locs ls hz hl => by
  obtain ⟨a, h0, hP, hD, hS⟩ := hz
  exact va_get (D := D) (ci := 2) (C := RX2) (T := TX2) (N := 4) X.1.1 X.1.2.1 X.1.2.2.2.2.1 jX_2 X.1.2.2.2.1 X.1.2.2.2.2.2.1 hP 0 rfl rfl 0 (by decide) (X.1.2.2.2.2.1 _ fl2_21) (fun _ h9 => h9) rfl d ((kk _).2 r hr H locs ls ⟨a, h0, hP, hD, hS⟩ hl)⟩
theorem t_g_most (X : hX p s m args meth c cc nL RX2 rt D (tyC cI) sf A) {K : Int32 → Option (ρ × CS)} (d : decode cc pc = .ok (.getfield 24, 3)) (kk : ∀ v, hG p l e (fun r => rmC fr lo (cS r.2 - cS S0) (sS r.2 - sS S0)) s m args below meth c nL (ZW D (wT cI t) A s.heap S0 S) (cS S - cS S0) (sS S - sS S0) QQ (fun r => le S r.2) (pc + 3) lv (.int v :: st) (K v)) : hG p l e (fun r => rmC fr lo (cS r.2 - cS S0) (sS r.2 - sS S0)) s m args below meth c nL (ZW D (wT cI t) A s.heap S0 S) (cS S - cS S0) (sS S - sS S0) QQ (fun r => le S r.2) pc lv (.ref t :: st) (cg S 1 K) := ⟨fun r hr => (kk _).1 r hr, fun r hr H locs ls hz hl => by
  obtain ⟨a, h0, hP, hD, hS⟩ := hz
  exact va_get (D := D) (ci := 2) (C := RX2) (T := TX2) (N := 4) X.1.1 X.1.2.1 X.1.2.2.2.2.1 jX_2 X.1.2.2.2.1 X.1.2.2.2.2.2.1 hP 0 rfl rfl 1 (by decide) (X.1.2.2.2.2.1 _ fl2_24) (fun _ h9 => h9) rfl d ((kk _).2 r hr H locs ls ⟨a, h0, hP, hD, hS⟩ hl)⟩
theorem t_g_ints (X : hX p s m args meth c cc nL RX2 rt D (tyC cI) sf A) (d : decode cc pc = .ok (.getfield 27, 3)) (kk : ∀ a, hG p l e (fun r => rmC fr lo (cS r.2 - cS S0) (sS r.2 - sS S0)) s m args below meth c nL (ZX D (wT cI t) a A s.heap S0 S) (cS S - cS S0) (sS S - sS S0) QQ (fun r => le S r.2) (pc + 3) lv (.ref a :: st) F) : hG p l e (fun r => rmC fr lo (cS r.2 - cS S0) (sS r.2 - sS S0)) s m args below meth c nL (ZW D (wT cI t) A s.heap S0 S) (cS S - cS S0) (sS S - sS S0) QQ (fun r => le S r.2) pc lv (.ref t :: st) F := ⟨fun r hr => (kk 0).1 r hr, fun r hr H locs ls hz hl => by
  obtain ⟨a, h0, hP, hD, hS⟩ := hz
  exact va_get (D := D) (ci := 2) (C := RX2) (T := TX2) (N := 4) X.1.1 X.1.2.1 X.1.2.2.2.2.1 jX_2 X.1.2.2.2.1 X.1.2.2.2.2.2.1 hP 0 rfl rfl 2 (by decide) (X.1.2.2.2.2.1 _ fl2_27) (fun _ h9 => h9) rfl d ((kk a).2 r hr H locs ls ⟨h0, hP, hD, hS⟩ hl)⟩
theorem t_g_rows (X : hX p s m args meth c cc nL RX2 rt D (tyC cI) sf A) {K : Int32 → Option (ρ × CS)} (d : decode cc pc = .ok (.getfield 9, 3)) (kk : ∀ v, hG p l e (fun r => rmC fr lo (cS r.2 - cS S0) (sS r.2 - sS S0)) s m args below meth c nL (ZW D (wT cI t) A s.heap S0 S) (cS S - cS S0) (sS S - sS S0) QQ (fun r => le S r.2) (pc + 3) lv (.int v :: st) (K v)) : hG p l e (fun r => rmC fr lo (cS r.2 - cS S0) (sS r.2 - sS S0)) s m args below meth c nL (ZW D (wT cI t) A s.heap S0 S) (cS S - cS S0) (sS S - sS S0) QQ (fun r => le S r.2) pc lv (.ref t :: st) (cg S 3 K) := ⟨fun r hr => (kk _).1 r hr, fun r hr H locs ls hz hl => by
  obtain ⟨a, h0, hP, hD, hS⟩ := hz
  exact va_get (D := D) (ci := 2) (C := RX2) (T := TX2) (N := 4) X.1.1 X.1.2.1 X.1.2.2.2.2.1 jX_2 X.1.2.2.2.1 X.1.2.2.2.2.2.1 hP 0 rfl rfl 3 (by decide) (X.1.2.2.2.2.1 _ fl2_9) (fun _ h9 => h9) rfl d ((kk _).2 r hr H locs ls ⟨a, h0, hP, hD, hS⟩ hl)⟩
theorem t_p_rows (X : hX p s m args meth c cc nL RX2 rt D (tyC cI) sf A) {v : Int32} {K : CS → Option (ρ × CS)} (d : decode cc pc = .ok (.putfield 9, 3)) (kk : ∀ S1, hG p l e (fun r => rmC fr lo (cS r.2 - cS S0) (sS r.2 - sS S0)) s m args below meth c nL (ZW D (wT cI t) A s.heap S0 S1) (cS S1 - cS S0) (sS S1 - sS S0) QQ (fun r => le S1 r.2) (pc + 3) lv st (K S1)) : hG p l e (fun r => rmC fr lo (cS r.2 - cS S0) (sS r.2 - sS S0)) s m args below meth c nL (ZW D (wT cI t) A s.heap S0 S) (cS S - cS S0) (sS S - sS S0) QQ (fun r => le S r.2) pc lv (.int v :: .ref t :: st) (cp S 3 v K) := ⟨fun r hr => (kk (mS S.1 3 0 v, S.2)).1 r hr, fun r hr H locs ls hz hl => by
  obtain ⟨a, h0, hP, hD, hS⟩ := hz
  exact va_put (D := D) (ci := 2) (v := .int v) (C := RX2) (T := TX2) (N := 4) X.1.1 X.1.2.1 X.1.2.2.2.2.1 jX_2 tyX2 tyX2_ok nmX2 X.1.2.2.2.1 X.1.2.2.2.2.2.1 hP hD hS 0 rfl rfl 3 (by decide) (X.1.2.2.2.2.1 _ fl2_9) (fun _ h9 => h9) rfl (tyX2_ok 3 (by decide)) rfl rfl (by show 3 < 4; decide) d (fun H1 locs1 h1 h2 h3 => (kk (mS S.1 3 0 v, S.2)).2 r hr H1 locs1 ls ⟨a, h0, h1, h2, h3⟩ hl)⟩
theorem t_len (X : hX p s m args meth c cc nL RX2 rt D (tyC cI) sf A) {K : Int32 → Option (ρ × CS)} (d : decode cc pc = .ok (.arraylength, 1)) (kk : ∀ v, hG p l e (fun r => rmC fr lo (cS r.2 - cS S0) (sS r.2 - sS S0)) s m args below meth c nL (ZW D (wT cI t) A s.heap S0 S) (cS S - cS S0) (sS S - sS S0) QQ (fun r => le S r.2) (pc + 1) lv (.int v :: st) (K v)) : hG p l e (fun r => rmC fr lo (cS r.2 - cS S0) (sS r.2 - sS S0)) s m args below meth c nL (ZX D (wT cI t) a A s.heap S0 S) (cS S - cS S0) (sS S - sS S0) QQ (fun r => le S r.2) pc lv (.ref a :: st) (tl S K) := ⟨fun r hr => (kk _).1 r hr, fun r hr H locs ls hz hl => by
  obtain ⟨h0, hP, hD, hS⟩ := hz
  exact va_alen X.1.1 X.1.2.1 X.1.2.2.2.2.2.1 hP 1 0 rfl rfl rfl d ((kk _).2 r hr H locs ls ⟨a, h0, hP, hD, hS⟩ hl)⟩
theorem t_ld (X : hX p s m args meth c cc nL RX2 rt D (tyC cI) sf A) {i : Int32} {K : Int32 → Option (ρ × CS)} (d : decode cc pc = .ok (.iaload, 1)) (kk : ∀ v, hG p l e (fun r => rmC fr lo (cS r.2 - cS S0) (sS r.2 - sS S0)) s m args below meth c nL (ZW D (wT cI t) A s.heap S0 S) (cS S - cS S0) (sS S - sS S0) QQ (fun r => le S r.2) (pc + 1) lv (.int v :: st) (K v)) : hG p l e (fun r => rmC fr lo (cS r.2 - cS S0) (sS r.2 - sS S0)) s m args below meth c nL (ZX D (wT cI t) a A s.heap S0 S) (cS S - cS S0) (sS S - sS S0) QQ (fun r => le S r.2) pc lv (.int i :: .ref a :: st) (cr S 2 (S.2 0) i K) := h_ite (fun _ => h_none) (fun hin => ⟨fun r hr => (kk _).1 r hr, fun r hr H locs ls hz hl => by
  obtain ⟨h0, hP, hD, hS⟩ := hz
  exact va_iald X.1.1 X.1.2.1 X.1.2.2.2.2.2.1 hP 1 0 rfl rfl hin d ((kk _).2 r hr H locs ls ⟨a, h0, hP, hD, hS⟩ hl)⟩)
theorem t_st (X : hX p s m args meth c cc nL RX2 rt D (tyC cI) sf A) {i v : Int32} {K : CS → Option (ρ × CS)} (d : decode cc pc = .ok (.iastore, 1)) (kk : ∀ S1, hG p l e (fun r => rmC fr lo (cS r.2 - cS S0) (sS r.2 - sS S0)) s m args below meth c nL (ZW D (wT cI t) A s.heap S0 S1) (cS S1 - cS S0) (sS S1 - sS S0) QQ (fun r => le S1 r.2) (pc + 1) lv st (K S1)) : hG p l e (fun r => rmC fr lo (cS r.2 - cS S0) (sS r.2 - sS S0)) s m args below meth c nL (ZX D (wT cI t) a A s.heap S0 S) (cS S - cS S0) (sS S - sS S0) QQ (fun r => le S r.2) pc lv (.int v :: .int i :: .ref a :: st) (cw S 2 (S.2 0) i v K) := h_ite (fun _ => h_none) (fun hin => ⟨fun r hr => (kk (mS S.1 2 i.toNatClampNeg v, S.2)).1 r hr, fun r hr H locs ls hz hl => by
  obtain ⟨h0, hP, hD, hS⟩ := hz
  exact va_iast X.1.1 X.1.2.1 X.1.2.2.2.2.2.1 hP hD hS 1 0 rfl rfl hin d (fun H1 locs1 h1 h2 h3 => (kk (mS S.1 2 i.toNatClampNeg v, S.2)).2 r hr H1 locs1 ls ⟨a, h0, h1, h2, h3⟩ hl)⟩)
theorem t_g_widthX (X : hX p s m args meth c cc nL RX2 rt D (tyC cI) sf A) {K : Int32 → Option (ρ × CS)} (d : decode cc pc = .ok (.getfield 21, 3)) (kk : ∀ v, hG p l e (fun r => rmC fr lo (cS r.2 - cS S0) (sS r.2 - sS S0)) s m args below meth c nL (ZX D (wT cI t) a A s.heap S0 S) (cS S - cS S0) (sS S - sS S0) QQ (fun r => le S r.2) (pc + 3) lv (.int v :: st) (K v)) : hG p l e (fun r => rmC fr lo (cS r.2 - cS S0) (sS r.2 - sS S0)) s m args below meth c nL (ZX D (wT cI t) a A s.heap S0 S) (cS S - cS S0) (sS S - sS S0) QQ (fun r => le S r.2) pc lv (.ref t :: st) (cg S 0 K) := ⟨fun r hr => (kk _).1 r hr, fun r hr H locs ls hz hl => by
  obtain ⟨h0, hP, hD, hS⟩ := hz
  exact va_get (D := D) (ci := 2) (C := RX2) (T := TX2) (N := 4) X.1.1 X.1.2.1 X.1.2.2.2.2.1 jX_2 X.1.2.2.2.1 X.1.2.2.2.2.2.1 hP 0 rfl rfl 0 (by decide) (X.1.2.2.2.2.1 _ fl2_21) (fun _ h9 => h9) rfl d ((kk _).2 r hr H locs ls ⟨h0, hP, hD, hS⟩ hl)⟩
theorem t_g_mostX (X : hX p s m args meth c cc nL RX2 rt D (tyC cI) sf A) {K : Int32 → Option (ρ × CS)} (d : decode cc pc = .ok (.getfield 24, 3)) (kk : ∀ v, hG p l e (fun r => rmC fr lo (cS r.2 - cS S0) (sS r.2 - sS S0)) s m args below meth c nL (ZX D (wT cI t) a A s.heap S0 S) (cS S - cS S0) (sS S - sS S0) QQ (fun r => le S r.2) (pc + 3) lv (.int v :: st) (K v)) : hG p l e (fun r => rmC fr lo (cS r.2 - cS S0) (sS r.2 - sS S0)) s m args below meth c nL (ZX D (wT cI t) a A s.heap S0 S) (cS S - cS S0) (sS S - sS S0) QQ (fun r => le S r.2) pc lv (.ref t :: st) (cg S 1 K) := ⟨fun r hr => (kk _).1 r hr, fun r hr H locs ls hz hl => by
  obtain ⟨h0, hP, hD, hS⟩ := hz
  exact va_get (D := D) (ci := 2) (C := RX2) (T := TX2) (N := 4) X.1.1 X.1.2.1 X.1.2.2.2.2.1 jX_2 X.1.2.2.2.1 X.1.2.2.2.2.2.1 hP 0 rfl rfl 1 (by decide) (X.1.2.2.2.2.1 _ fl2_24) (fun _ h9 => h9) rfl d ((kk _).2 r hr H locs ls ⟨h0, hP, hD, hS⟩ hl)⟩
theorem t_g_intsX (X : hX p s m args meth c cc nL RX2 rt D (tyC cI) sf A) (d : decode cc pc = .ok (.getfield 27, 3)) (kk : hG p l e (fun r => rmC fr lo (cS r.2 - cS S0) (sS r.2 - sS S0)) s m args below meth c nL (ZX D (wT cI t) a A s.heap S0 S) (cS S - cS S0) (sS S - sS S0) QQ (fun r => le S r.2) (pc + 3) lv (.ref a :: st) F) : hG p l e (fun r => rmC fr lo (cS r.2 - cS S0) (sS r.2 - sS S0)) s m args below meth c nL (ZX D (wT cI t) a A s.heap S0 S) (cS S - cS S0) (sS S - sS S0) QQ (fun r => le S r.2) pc lv (.ref t :: st) F := ⟨kk.1, fun r hr H locs ls hz hl => by
  obtain ⟨h0, hP, hD, hS⟩ := hz
  exact va_get (D := D) (ci := 2) (C := RX2) (T := TX2) (N := 4) X.1.1 X.1.2.1 X.1.2.2.2.2.1 jX_2 X.1.2.2.2.1 X.1.2.2.2.2.2.1 hP 0 rfl rfl 2 (by decide) (X.1.2.2.2.2.1 _ fl2_27) (fun _ h9 => h9) rfl d (kk.2 r hr H locs ls ⟨h0, hP, hD, hS⟩ hl)⟩
theorem t_g_rowsX (X : hX p s m args meth c cc nL RX2 rt D (tyC cI) sf A) {K : Int32 → Option (ρ × CS)} (d : decode cc pc = .ok (.getfield 9, 3)) (kk : ∀ v, hG p l e (fun r => rmC fr lo (cS r.2 - cS S0) (sS r.2 - sS S0)) s m args below meth c nL (ZX D (wT cI t) a A s.heap S0 S) (cS S - cS S0) (sS S - sS S0) QQ (fun r => le S r.2) (pc + 3) lv (.int v :: st) (K v)) : hG p l e (fun r => rmC fr lo (cS r.2 - cS S0) (sS r.2 - sS S0)) s m args below meth c nL (ZX D (wT cI t) a A s.heap S0 S) (cS S - cS S0) (sS S - sS S0) QQ (fun r => le S r.2) pc lv (.ref t :: st) (cg S 3 K) := ⟨fun r hr => (kk _).1 r hr, fun r hr H locs ls hz hl => by
  obtain ⟨h0, hP, hD, hS⟩ := hz
  exact va_get (D := D) (ci := 2) (C := RX2) (T := TX2) (N := 4) X.1.1 X.1.2.1 X.1.2.2.2.2.1 jX_2 X.1.2.2.2.1 X.1.2.2.2.2.2.1 hP 0 rfl rfl 3 (by decide) (X.1.2.2.2.2.1 _ fl2_9) (fun _ h9 => h9) rfl d ((kk _).2 r hr H locs ls ⟨h0, hP, hD, hS⟩ hl)⟩
theorem t_lenX (X : hX p s m args meth c cc nL RX2 rt D (tyC cI) sf A) {K : Int32 → Option (ρ × CS)} (d : decode cc pc = .ok (.arraylength, 1)) (kk : ∀ v, hG p l e (fun r => rmC fr lo (cS r.2 - cS S0) (sS r.2 - sS S0)) s m args below meth c nL (ZX D (wT cI t) a A s.heap S0 S) (cS S - cS S0) (sS S - sS S0) QQ (fun r => le S r.2) (pc + 1) lv (.int v :: st) (K v)) : hG p l e (fun r => rmC fr lo (cS r.2 - cS S0) (sS r.2 - sS S0)) s m args below meth c nL (ZX D (wT cI t) a A s.heap S0 S) (cS S - cS S0) (sS S - sS S0) QQ (fun r => le S r.2) pc lv (.ref a :: st) (tl S K) := ⟨fun r hr => (kk _).1 r hr, fun r hr H locs ls hz hl => by
  obtain ⟨h0, hP, hD, hS⟩ := hz
  exact va_alen X.1.1 X.1.2.1 X.1.2.2.2.2.2.1 hP 1 0 rfl rfl rfl d ((kk _).2 r hr H locs ls ⟨h0, hP, hD, hS⟩ hl)⟩
theorem t_recv {C : String} (hC : C = RX2) (x : Nat) (H : Heap) (hK : va_K D vwCl (tyC cI) s) (hP : va_P D vwCl (wT cI t x S) H) : ∃ cellB : Cell, H[t]? = some cellB ∧ cellB.vm.isStatics = false ∧ s.vm.findClass C = some cellB.cls := by
  subst hC
  exact va_recv hK hP (ci := 2) (q0 := 0) rfl rfl
end TW
