abbrev CS : Type := MR × (Nat → Nat)
def cS (S : CS) : Nat := S.2 1
def sS (S : CS) : Nat := S.2 2
def le (S S' : CS) : Prop := cS S ≤ cS S' ∧ sS S ≤ sS S'
theorem le_rf {S : CS} : le S S := ⟨Nat.le_refl _, Nat.le_refl _⟩
theorem le_tr {S S1 S2 : CS} (h : le S S1) (h1 : le S1 S2) : le S S2 := ⟨Nat.le_trans h.1 h1.1, Nat.le_trans h.2 h1.2⟩
def rmC (fr lo k n : Nat) : Room := { frames := fr, cells := k, slots := n, locals := lo }
abbrev sfT : Type := (Nat → Prop) → State → Prop
def sfOk (sf : sfT) : Prop := ∀ (A B : Nat → Prop) (s U : State), sf A s → (∀ q, B q → A q) → (s.WarmedH U.vm ∨ s.vm = U.vm) → (∀ q : Nat, q < s.heap.size → ¬ A q → U.heap[q]? = s.heap[q]?) → sf B U
def hX (p : Program) (s : State) (m : MethodId) (args : Array Value) (meth : Method) (c : Code) (cc : ByteArray) (nL : Nat) (own : String) (rt : Option FieldType) (D : va_G) (tys : List (ClassId × FieldType)) (sf : sfT) (A : Nat → Prop) : Prop :=
  gX p s m args meth c cc nL own rt D tys ∧ (∀ q, s.heap.size ≤ q → A q) ∧ sf A s
def hG {ρ : Type} (p : Program) (l : Launch) (e : Env) (Rf : ρ → Room) (s : State) (m : MethodId) (args : Array Value) (below : List Frame) (meth : Method) (c : Code) (nL : Nat) (Z : Heap → List Loc → Prop) (kc ks : Nat) (QQ : ρ → State → Prop) (Lq : ρ → Prop) (pc : Nat) (lv : List (Nat × Value)) (st : List Value) (F : Option ρ) : Prop :=
  (∀ r, F = some r → Lq r) ∧ ∀ r, F = some r → ∀ (H : Heap) (locs : List Loc) (ls : Array Slot), Z H locs → lv_has ls nL lv → W p l e (Rf r) s m args below meth c H locs kc ks (QQ r) (F0 m pc ls st)
section HH
variable {ρ : Type} {p : Program} {l : Launch} {e : Env} {Rf : ρ → Room} {s : State} {m : MethodId} {args : Array Value} {below : List Frame} {meth : Method} {c : Code}
variable {cc : ByteArray} {nL : Nat} {own : String} {rt : Option FieldType} {D : va_G} {tys : List (ClassId × FieldType)} {sf : sfT} {A : Nat → Prop} {Z : Heap → List Loc → Prop} {kc ks : Nat} {QQ : ρ → State → Prop} {Lq : ρ → Prop} {pc : Nat} {lv : List (Nat × Value)} {st : List Value} {F F1 F2 : Option ρ}
theorem h_none : hG p l e Rf s m args below meth c nL Z kc ks QQ Lq pc lv st (none : Option ρ) := ⟨fun r hr => (by cases hr), fun r hr => (by cases hr)⟩
theorem h_pick (kx : List Nat) {lv' : List (Nat × Value)} (h : lv_pick lv kx = lv') (kk : hG p l e Rf s m args below meth c nL Z kc ks QQ Lq pc lv' st F) : hG p l e Rf s m args below meth c nL Z kc ks QQ Lq pc lv st F := ⟨kk.1, fun r hr H locs ls hz hl => kk.2 r hr H locs ls hz (lv_sub hl kx h)⟩
theorem h_ite {P : Prop} [Decidable P] (kt : P → hG p l e Rf s m args below meth c nL Z kc ks QQ Lq pc lv st F1) (kf : ¬ P → hG p l e Rf s m args below meth c nL Z kc ks QQ Lq pc lv st F2) : hG p l e Rf s m args below meth c nL Z kc ks QQ Lq pc lv st (if P then F1 else F2) := by
  by_cases h : P
  · rw [if_pos h]; exact kt h
  · rw [if_neg h]; exact kf h
theorem h_iconst (X : hX p s m args meth c cc nL own rt D tys sf A) {n : Int} {v : Int32} (d : decode cc pc = .ok (.iconst n, 1)) (hv : Int32.ofInt n = v) (kk : hG p l e Rf s m args below meth c nL Z kc ks QQ Lq (pc + 1) lv (.int v :: st) F) : hG p l e Rf s m args below meth c nL Z kc ks QQ Lq pc lv st F := ⟨kk.1, fun r hr H locs ls hz hl => lv_iconst X.1.1 X.1.2.1 d hv (kk.2 r hr H locs ls hz hl)⟩
theorem h_bipush (X : hX p s m args meth c cc nL own rt D tys sf A) {n : Int} {v : Int32} (d : decode cc pc = .ok (.bipush n, 2)) (hv : (Int8.ofInt n).toInt32 = v) (kk : hG p l e Rf s m args below meth c nL Z kc ks QQ Lq (pc + 2) lv (.int v :: st) F) : hG p l e Rf s m args below meth c nL Z kc ks QQ Lq pc lv st F := ⟨kk.1, fun r hr H locs ls hz hl => lv_bipush X.1.1 X.1.2.1 d hv (kk.2 r hr H locs ls hz hl)⟩
theorem h_sipush (X : hX p s m args meth c cc nL own rt D tys sf A) {n : Int} {v : Int32} (d : decode cc pc = .ok (.sipush n, 3)) (hv : (Int16.ofInt n).toInt32 = v) (kk : hG p l e Rf s m args below meth c nL Z kc ks QQ Lq (pc + 3) lv (.int v :: st) F) : hG p l e Rf s m args below meth c nL Z kc ks QQ Lq pc lv st F := ⟨kk.1, fun r hr H locs ls hz hl => lv_sipush X.1.1 X.1.2.1 d hv (kk.2 r hr H locs ls hz hl)⟩
theorem h_lconst (X : hX p s m args meth c cc nL own rt D tys sf A) {n : Fin 2} {v : Int64} (d : decode cc pc = .ok (.lconst n, 1)) (hv : Int64.ofNat (n : Nat) = v) (kk : hG p l e Rf s m args below meth c nL Z kc ks QQ Lq (pc + 1) lv (.long v :: st) F) : hG p l e Rf s m args below meth c nL Z kc ks QQ Lq pc lv st F := ⟨kk.1, fun r hr H locs ls hz hl => lv_lconst X.1.1 X.1.2.1 d hv (kk.2 r hr H locs ls hz hl)⟩
theorem h_ldc (X : hX p s m args meth c cc nL own rt D tys sf A) {ix : Nat} {v : Int32} (hc : Cond.constant own ix v ∈ tt) (d : decode cc pc = .ok (.ldc ix, 2)) (kk : hG p l e Rf s m args below meth c nL Z kc ks QQ Lq (pc + 2) lv (.int v :: st) F) : hG p l e Rf s m args below meth c nL Z kc ks QQ Lq pc lv st F := ⟨kk.1, fun r hr H locs ls hz hl => lv_ldc X.1.1 X.1.2.1 X.1.2.2.2.1 (X.1.2.2.2.2.1 _ hc) d (kk.2 r hr H locs ls hz hl)⟩
theorem h_ldc2 (X : hX p s m args meth c cc nL own rt D tys sf A) {ix : Nat} {v : Int64} (hc : Cond.constantLong own ix v ∈ tt) (d : decode cc pc = .ok (.ldc2_w ix, 3)) (kk : hG p l e Rf s m args below meth c nL Z kc ks QQ Lq (pc + 3) lv (.long v :: st) F) : hG p l e Rf s m args below meth c nL Z kc ks QQ Lq pc lv st F := ⟨kk.1, fun r hr H locs ls hz hl => lv_ldc2 X.1.1 X.1.2.1 X.1.2.2.2.1 (X.1.2.2.2.2.1 _ hc) d (kk.2 r hr H locs ls hz hl)⟩
theorem h_iload_n (X : hX p s m args meth c cc nL own rt D tys sf A) {k : Fin 4} {i : Nat} {x : Int32} (d : decode cc pc = .ok (.iload_n k, 1)) (hi : (k : Nat) = i) (hk : lvg lv i = some (.int x)) (kk : hG p l e Rf s m args below meth c nL Z kc ks QQ Lq (pc + 1) lv (.int x :: st) F) : hG p l e Rf s m args below meth c nL Z kc ks QQ Lq pc lv st F := ⟨kk.1, fun r hr H locs ls hz hl => lv_iload_n X.1.1 X.1.2.1 d hi (lvg_at hl hk) (kk.2 r hr H locs ls hz hl)⟩
theorem h_iload (X : hX p s m args meth c cc nL own rt D tys sf A) {i : Nat} {x : Int32} (d : decode cc pc = .ok (.iload i, 2)) (hk : lvg lv i = some (.int x)) (kk : hG p l e Rf s m args below meth c nL Z kc ks QQ Lq (pc + 2) lv (.int x :: st) F) : hG p l e Rf s m args below meth c nL Z kc ks QQ Lq pc lv st F := ⟨kk.1, fun r hr H locs ls hz hl => lv_iload X.1.1 X.1.2.1 d (lvg_at hl hk) (kk.2 r hr H locs ls hz hl)⟩
theorem h_aload_n (X : hX p s m args meth c cc nL own rt D tys sf A) {k : Fin 4} {i : Nat} {x : Nat} (d : decode cc pc = .ok (.aload_n k, 1)) (hi : (k : Nat) = i) (hk : lvg lv i = some (.ref x)) (kk : hG p l e Rf s m args below meth c nL Z kc ks QQ Lq (pc + 1) lv (.ref x :: st) F) : hG p l e Rf s m args below meth c nL Z kc ks QQ Lq pc lv st F := ⟨kk.1, fun r hr H locs ls hz hl => lv_aload_n X.1.1 X.1.2.1 d hi (lvg_at hl hk) (kk.2 r hr H locs ls hz hl)⟩
theorem h_aload (X : hX p s m args meth c cc nL own rt D tys sf A) {i : Nat} {x : Nat} (d : decode cc pc = .ok (.aload i, 2)) (hk : lvg lv i = some (.ref x)) (kk : hG p l e Rf s m args below meth c nL Z kc ks QQ Lq (pc + 2) lv (.ref x :: st) F) : hG p l e Rf s m args below meth c nL Z kc ks QQ Lq pc lv st F := ⟨kk.1, fun r hr H locs ls hz hl => lv_aload X.1.1 X.1.2.1 d (lvg_at hl hk) (kk.2 r hr H locs ls hz hl)⟩
theorem h_lload_n (X : hX p s m args meth c cc nL own rt D tys sf A) {k : Fin 4} {i : Nat} {x : Int64} (d : decode cc pc = .ok (.lload_n k, 1)) (hi : (k : Nat) = i) (hk : lvg lv i = some (.long x)) (kk : hG p l e Rf s m args below meth c nL Z kc ks QQ Lq (pc + 1) lv (.long x :: st) F) : hG p l e Rf s m args below meth c nL Z kc ks QQ Lq pc lv st F := ⟨kk.1, fun r hr H locs ls hz hl => lv_lload_n X.1.1 X.1.2.1 d hi (lvg_at hl hk) (kk.2 r hr H locs ls hz hl)⟩
theorem h_lload (X : hX p s m args meth c cc nL own rt D tys sf A) {i : Nat} {x : Int64} (d : decode cc pc = .ok (.lload i, 2)) (hk : lvg lv i = some (.long x)) (kk : hG p l e Rf s m args below meth c nL Z kc ks QQ Lq (pc + 2) lv (.long x :: st) F) : hG p l e Rf s m args below meth c nL Z kc ks QQ Lq pc lv st F := ⟨kk.1, fun r hr H locs ls hz hl => lv_lload X.1.1 X.1.2.1 d (lvg_at hl hk) (kk.2 r hr H locs ls hz hl)⟩
theorem h_istore_n (X : hX p s m args meth c cc nL own rt D tys sf A) {k : Fin 4} {i : Nat} {x : Int32} {lv' : List (Nat × Value)} (d : decode cc pc = .ok (.istore_n k, 1)) (hi : (k : Nat) = i) (hn : i < nL) (hl' : (i, Value.int x) :: lv.filter (fun q => !(q.1 == i) && !(q.1 + 1 == i && q.2.category == 2)) = lv') (kk : hG p l e Rf s m args below meth c nL Z kc ks QQ Lq (pc + 1) lv' st F) : hG p l e Rf s m args below meth c nL Z kc ks QQ Lq pc lv (.int x :: st) F := ⟨kk.1, fun r hr H locs ls hz hl => lv_istore_n X.1.1 X.1.2.1 d hi hl hn hl' (fun ls2 h2 => kk.2 r hr H locs ls2 hz h2)⟩
theorem h_istore (X : hX p s m args meth c cc nL own rt D tys sf A) {i : Nat} {x : Int32} {lv' : List (Nat × Value)} (d : decode cc pc = .ok (.istore i, 2)) (hn : i < nL) (hl' : (i, Value.int x) :: lv.filter (fun q => !(q.1 == i) && !(q.1 + 1 == i && q.2.category == 2)) = lv') (kk : hG p l e Rf s m args below meth c nL Z kc ks QQ Lq (pc + 2) lv' st F) : hG p l e Rf s m args below meth c nL Z kc ks QQ Lq pc lv (.int x :: st) F := ⟨kk.1, fun r hr H locs ls hz hl => lv_istore X.1.1 X.1.2.1 d hl hn hl' (fun ls2 h2 => kk.2 r hr H locs ls2 hz h2)⟩
theorem h_astore_n (X : hX p s m args meth c cc nL own rt D tys sf A) {k : Fin 4} {i : Nat} {x : Nat} {lv' : List (Nat × Value)} (d : decode cc pc = .ok (.astore_n k, 1)) (hi : (k : Nat) = i) (hn : i < nL) (hl' : (i, Value.ref x) :: lv.filter (fun q => !(q.1 == i) && !(q.1 + 1 == i && q.2.category == 2)) = lv') (kk : hG p l e Rf s m args below meth c nL Z kc ks QQ Lq (pc + 1) lv' st F) : hG p l e Rf s m args below meth c nL Z kc ks QQ Lq pc lv (.ref x :: st) F := ⟨kk.1, fun r hr H locs ls hz hl => lv_astore_n X.1.1 X.1.2.1 d hi hl hn hl' (fun ls2 h2 => kk.2 r hr H locs ls2 hz h2)⟩
theorem h_astore (X : hX p s m args meth c cc nL own rt D tys sf A) {i : Nat} {x : Nat} {lv' : List (Nat × Value)} (d : decode cc pc = .ok (.astore i, 2)) (hn : i < nL) (hl' : (i, Value.ref x) :: lv.filter (fun q => !(q.1 == i) && !(q.1 + 1 == i && q.2.category == 2)) = lv') (kk : hG p l e Rf s m args below meth c nL Z kc ks QQ Lq (pc + 2) lv' st F) : hG p l e Rf s m args below meth c nL Z kc ks QQ Lq pc lv (.ref x :: st) F := ⟨kk.1, fun r hr H locs ls hz hl => lv_astore X.1.1 X.1.2.1 d hl hn hl' (fun ls2 h2 => kk.2 r hr H locs ls2 hz h2)⟩
theorem h_lstore_n (X : hX p s m args meth c cc nL own rt D tys sf A) {k : Fin 4} {i : Nat} {x : Int64} {lv' : List (Nat × Value)} (d : decode cc pc = .ok (.lstore_n k, 1)) (hi : (k : Nat) = i) (hn : i + 1 < nL) (hl' : (i, Value.long x) :: lv.filter (fun q => !(q.1 == i) && (!(q.1 == i + 1) && !(q.1 + 1 == i && q.2.category == 2))) = lv') (kk : hG p l e Rf s m args below meth c nL Z kc ks QQ Lq (pc + 1) lv' st F) : hG p l e Rf s m args below meth c nL Z kc ks QQ Lq pc lv (.long x :: st) F := ⟨kk.1, fun r hr H locs ls hz hl => lv_lstore_n X.1.1 X.1.2.1 d hi hl hn hl' (fun ls2 h2 => kk.2 r hr H locs ls2 hz h2)⟩
theorem h_iinc (X : hX p s m args meth c cc nL own rt D tys sf A) {i : Nat} {n : Int} {x v : Int32} {lv' : List (Nat × Value)} (d : decode cc pc = .ok (.iinc i n, 3)) (hk : lvg lv i = some (.int x)) (hv : Int32.ofInt n = v) (hn : i < nL) (hl' : (i, Value.int (x + v)) :: lv.filter (fun q => !(q.1 == i) && !(q.1 + 1 == i && q.2.category == 2)) = lv') (kk : hG p l e Rf s m args below meth c nL Z kc ks QQ Lq (pc + 3) lv' st F) : hG p l e Rf s m args below meth c nL Z kc ks QQ Lq pc lv st F := ⟨kk.1, fun r hr H locs ls hz hl => by
  obtain ⟨k, hk2⟩ := List.getElem?_of_mem (lvg_mem hk)
  exact lv_iinc X.1.1 X.1.2.1 d hl hk2 (by rw [hv]) hn hl' (fun ls2 h2 => kk.2 r hr H locs ls2 hz h2)⟩
theorem h_iadd (X : hX p s m args meth c cc nL own rt D tys sf A) {x y : Int32} (d : decode cc pc = .ok (.iadd, 1)) (kk : hG p l e Rf s m args below meth c nL Z kc ks QQ Lq (pc + 1) lv (.int (x + y) :: st) F) : hG p l e Rf s m args below meth c nL Z kc ks QQ Lq pc lv (.int y :: .int x :: st) F := ⟨kk.1, fun r hr H locs ls hz hl => lv_iadd X.1.1 X.1.2.1 d (kk.2 r hr H locs ls hz hl)⟩
theorem h_isub (X : hX p s m args meth c cc nL own rt D tys sf A) {x y : Int32} (d : decode cc pc = .ok (.isub, 1)) (kk : hG p l e Rf s m args below meth c nL Z kc ks QQ Lq (pc + 1) lv (.int (x - y) :: st) F) : hG p l e Rf s m args below meth c nL Z kc ks QQ Lq pc lv (.int y :: .int x :: st) F := ⟨kk.1, fun r hr H locs ls hz hl => lv_isub X.1.1 X.1.2.1 d (kk.2 r hr H locs ls hz hl)⟩
theorem h_imul (X : hX p s m args meth c cc nL own rt D tys sf A) {x y : Int32} (d : decode cc pc = .ok (.imul, 1)) (kk : hG p l e Rf s m args below meth c nL Z kc ks QQ Lq (pc + 1) lv (.int (x * y) :: st) F) : hG p l e Rf s m args below meth c nL Z kc ks QQ Lq pc lv (.int y :: .int x :: st) F := ⟨kk.1, fun r hr H locs ls hz hl => lv_imul X.1.1 X.1.2.1 d (kk.2 r hr H locs ls hz hl)⟩
theorem h_iand (X : hX p s m args meth c cc nL own rt D tys sf A) {x y : Int32} (d : decode cc pc = .ok (.iand, 1)) (kk : hG p l e Rf s m args below meth c nL Z kc ks QQ Lq (pc + 1) lv (.int (x &&& y) :: st) F) : hG p l e Rf s m args below meth c nL Z kc ks QQ Lq pc lv (.int y :: .int x :: st) F := ⟨kk.1, fun r hr H locs ls hz hl => lv_iand X.1.1 X.1.2.1 d (kk.2 r hr H locs ls hz hl)⟩
theorem h_ior (X : hX p s m args meth c cc nL own rt D tys sf A) {x y : Int32} (d : decode cc pc = .ok (.ior, 1)) (kk : hG p l e Rf s m args below meth c nL Z kc ks QQ Lq (pc + 1) lv (.int (x ||| y) :: st) F) : hG p l e Rf s m args below meth c nL Z kc ks QQ Lq pc lv (.int y :: .int x :: st) F := ⟨kk.1, fun r hr H locs ls hz hl => lv_ior X.1.1 X.1.2.1 d (kk.2 r hr H locs ls hz hl)⟩
theorem h_ishl (X : hX p s m args meth c cc nL own rt D tys sf A) {x y : Int32} (d : decode cc pc = .ok (.ishl, 1)) (kk : hG p l e Rf s m args below meth c nL Z kc ks QQ Lq (pc + 1) lv (.int (x <<< (y &&& 31)) :: st) F) : hG p l e Rf s m args below meth c nL Z kc ks QQ Lq pc lv (.int y :: .int x :: st) F := ⟨kk.1, fun r hr H locs ls hz hl => lv_ishl X.1.1 X.1.2.1 d (kk.2 r hr H locs ls hz hl)⟩
theorem h_ishr (X : hX p s m args meth c cc nL own rt D tys sf A) {x y : Int32} (d : decode cc pc = .ok (.ishr, 1)) (kk : hG p l e Rf s m args below meth c nL Z kc ks QQ Lq (pc + 1) lv (.int (x >>> (y &&& 31)) :: st) F) : hG p l e Rf s m args below meth c nL Z kc ks QQ Lq pc lv (.int y :: .int x :: st) F := ⟨kk.1, fun r hr H locs ls hz hl => lv_ishr X.1.1 X.1.2.1 d (kk.2 r hr H locs ls hz hl)⟩
theorem h_iushr (X : hX p s m args meth c cc nL own rt D tys sf A) {x y : Int32} (d : decode cc pc = .ok (.iushr, 1)) (kk : hG p l e Rf s m args below meth c nL Z kc ks QQ Lq (pc + 1) lv (.int ((x.toUInt32 >>> (y.toUInt32 &&& Int32.toUInt32 31)).toInt32) :: st) F) : hG p l e Rf s m args below meth c nL Z kc ks QQ Lq pc lv (.int y :: .int x :: st) F := ⟨kk.1, fun r hr H locs ls hz hl => lv_iushr X.1.1 X.1.2.1 d rfl (kk.2 r hr H locs ls hz hl)⟩
theorem h_land (X : hX p s m args meth c cc nL own rt D tys sf A) {x y : Int64} (d : decode cc pc = .ok (.land, 1)) (kk : hG p l e Rf s m args below meth c nL Z kc ks QQ Lq (pc + 1) lv (.long (x &&& y) :: st) F) : hG p l e Rf s m args below meth c nL Z kc ks QQ Lq pc lv (.long y :: .long x :: st) F := ⟨kk.1, fun r hr H locs ls hz hl => lv_land X.1.1 X.1.2.1 d (kk.2 r hr H locs ls hz hl)⟩
theorem h_lor (X : hX p s m args meth c cc nL own rt D tys sf A) {x y : Int64} (d : decode cc pc = .ok (.lor, 1)) (kk : hG p l e Rf s m args below meth c nL Z kc ks QQ Lq (pc + 1) lv (.long (x ||| y) :: st) F) : hG p l e Rf s m args below meth c nL Z kc ks QQ Lq pc lv (.long y :: .long x :: st) F := ⟨kk.1, fun r hr H locs ls hz hl => lv_lor X.1.1 X.1.2.1 d (kk.2 r hr H locs ls hz hl)⟩
theorem h_lxor (X : hX p s m args meth c cc nL own rt D tys sf A) {x y : Int64} (d : decode cc pc = .ok (.lxor, 1)) (kk : hG p l e Rf s m args below meth c nL Z kc ks QQ Lq (pc + 1) lv (.long (x ^^^ y) :: st) F) : hG p l e Rf s m args below meth c nL Z kc ks QQ Lq pc lv (.long y :: .long x :: st) F := ⟨kk.1, fun r hr H locs ls hz hl => lv_lxor X.1.1 X.1.2.1 d (kk.2 r hr H locs ls hz hl)⟩
theorem h_lshl (X : hX p s m args meth c cc nL own rt D tys sf A) {x : Int64} {y : Int32} (d : decode cc pc = .ok (.lshl, 1)) (kk : hG p l e Rf s m args below meth c nL Z kc ks QQ Lq (pc + 1) lv (.long (x <<< (y.toInt64 &&& 63)) :: st) F) : hG p l e Rf s m args below meth c nL Z kc ks QQ Lq pc lv (.int y :: .long x :: st) F := ⟨kk.1, fun r hr H locs ls hz hl => lv_lshl X.1.1 X.1.2.1 d rfl (kk.2 r hr H locs ls hz hl)⟩
theorem h_lushr (X : hX p s m args meth c cc nL own rt D tys sf A) {x : Int64} {y : Int32} (d : decode cc pc = .ok (.lushr, 1)) (kk : hG p l e Rf s m args below meth c nL Z kc ks QQ Lq (pc + 1) lv (.long ((x.toUInt64 >>> (y.toInt64.toUInt64 &&& Int64.toUInt64 63)).toInt64) :: st) F) : hG p l e Rf s m args below meth c nL Z kc ks QQ Lq pc lv (.int y :: .long x :: st) F := ⟨kk.1, fun r hr H locs ls hz hl => lv_lushr X.1.1 X.1.2.1 d rfl (kk.2 r hr H locs ls hz hl)⟩
theorem h_lcmp (X : hX p s m args meth c cc nL own rt D tys sf A) {x y : Int64} (d : decode cc pc = .ok (.lcmp, 1)) (kk : hG p l e Rf s m args below meth c nL Z kc ks QQ Lq (pc + 1) lv (.int (lg_cmp x y) :: st) F) : hG p l e Rf s m args below meth c nL Z kc ks QQ Lq pc lv (.long y :: .long x :: st) F := ⟨kk.1, fun r hr H locs ls hz hl => W.lcmp X.1.1 X.1.2.1 d (kk.2 r hr H locs ls hz hl)⟩
theorem h_idiv (X : hX p s m args meth c cc nL own rt D tys sf A) {x y : Int32} (d : decode cc pc = .ok (.idiv, 1)) (kk : hG p l e Rf s m args below meth c nL Z kc ks QQ Lq (pc + 1) lv (.int (x / y) :: st) F) : hG p l e Rf s m args below meth c nL Z kc ks QQ Lq pc lv (.int y :: .int x :: st) (if y = 0 then none else F) := h_ite (fun _ => h_none) (fun hne => ⟨kk.1, fun r hr H locs ls hz hl => lv_idiv X.1.1 X.1.2.1 d hne (kk.2 r hr H locs ls hz hl)⟩)
theorem h_dup (X : hX p s m args meth c cc nL own rt D tys sf A) {v : Value} (d : decode cc pc = .ok (.dup, 1)) (hc : v.category = 1) (kk : hG p l e Rf s m args below meth c nL Z kc ks QQ Lq (pc + 1) lv (v :: v :: st) F) : hG p l e Rf s m args below meth c nL Z kc ks QQ Lq pc lv (v :: st) F := ⟨kk.1, fun r hr H locs ls hz hl => lv_dup X.1.1 X.1.2.1 d hc (kk.2 r hr H locs ls hz hl)⟩
theorem h_dup2 (X : hX p s m args meth c cc nL own rt D tys sf A) {v w : Value} (d : decode cc pc = .ok (.dup2, 1)) (hc : v.category = 1) (hw : w.category = 1) (kk : hG p l e Rf s m args below meth c nL Z kc ks QQ Lq (pc + 1) lv (v :: w :: v :: w :: st) F) : hG p l e Rf s m args below meth c nL Z kc ks QQ Lq pc lv (v :: w :: st) F := ⟨kk.1, fun r hr H locs ls hz hl => lv_dup2_11 X.1.1 X.1.2.1 d hc hw (kk.2 r hr H locs ls hz hl)⟩
theorem h_pop (X : hX p s m args meth c cc nL own rt D tys sf A) {v : Value} (d : decode cc pc = .ok (.pop, 1)) (hc : v.category = 1) (kk : hG p l e Rf s m args below meth c nL Z kc ks QQ Lq (pc + 1) lv st F) : hG p l e Rf s m args below meth c nL Z kc ks QQ Lq pc lv (v :: st) F := ⟨kk.1, fun r hr H locs ls hz hl => lv_pop X.1.1 X.1.2.1 d hc (kk.2 r hr H locs ls hz hl)⟩
theorem h_goto (X : hX p s m args meth c cc nL own rt D tys sf A) {off : Int} {tgt : Nat} (d : decode cc pc = .ok (.goto off, 3)) (ht : (pc : Int) + off = (tgt : Int)) (kk : hG p l e Rf s m args below meth c nL Z kc ks QQ Lq tgt lv st F) : hG p l e Rf s m args below meth c nL Z kc ks QQ Lq pc lv st F := ⟨kk.1, fun r hr H locs ls hz hl => lv_goto X.1.1 X.1.2.1 d ht (kk.2 r hr H locs ls hz hl)⟩
theorem h_if_eq (X : hX p s m args meth c cc nL own rt D tys sf A) {x : Int32} {off : Int} {tgt : Nat} (d : decode cc pc = .ok (.ifCond .eq off, 3)) (ht : (pc : Int) + off = (tgt : Int)) (kt : hG p l e Rf s m args below meth c nL Z kc ks QQ Lq tgt lv st F1) (kf : hG p l e Rf s m args below meth c nL Z kc ks QQ Lq (pc + 3) lv st F2) : hG p l e Rf s m args below meth c nL Z kc ks QQ Lq pc lv (.int x :: st) (if x = 0 then F1 else F2) := ⟨fun r hr => by split at hr; exact kt.1 r hr; exact kf.1 r hr, fun r hr H locs ls hz hl => lv_if_eq X.1.1 X.1.2.1 d ht (fun hc => kt.2 r (by rw [if_pos hc] at hr; exact hr) H locs ls hz hl) (fun hc => kf.2 r (by rw [if_neg hc] at hr; exact hr) H locs ls hz hl)⟩
theorem h_icmp_eq (X : hX p s m args meth c cc nL own rt D tys sf A) {x y : Int32} {off : Int} {tgt : Nat} (d : decode cc pc = .ok (.if_icmp .eq off, 3)) (ht : (pc : Int) + off = (tgt : Int)) (kt : hG p l e Rf s m args below meth c nL Z kc ks QQ Lq tgt lv st F1) (kf : hG p l e Rf s m args below meth c nL Z kc ks QQ Lq (pc + 3) lv st F2) : hG p l e Rf s m args below meth c nL Z kc ks QQ Lq pc lv (.int y :: .int x :: st) (if x = y then F1 else F2) := ⟨fun r hr => by split at hr; exact kt.1 r hr; exact kf.1 r hr, fun r hr H locs ls hz hl => lv_icmp_eq X.1.1 X.1.2.1 d ht (fun hc => kt.2 r (by rw [if_pos hc] at hr; exact hr) H locs ls hz hl) (fun hc => kf.2 r (by rw [if_neg hc] at hr; exact hr) H locs ls hz hl)⟩
theorem h_if_ne (X : hX p s m args meth c cc nL own rt D tys sf A) {x : Int32} {off : Int} {tgt : Nat} (d : decode cc pc = .ok (.ifCond .ne off, 3)) (ht : (pc : Int) + off = (tgt : Int)) (kt : hG p l e Rf s m args below meth c nL Z kc ks QQ Lq tgt lv st F1) (kf : hG p l e Rf s m args below meth c nL Z kc ks QQ Lq (pc + 3) lv st F2) : hG p l e Rf s m args below meth c nL Z kc ks QQ Lq pc lv (.int x :: st) (if x = 0 then F2 else F1) := ⟨fun r hr => by split at hr; exact kf.1 r hr; exact kt.1 r hr, fun r hr H locs ls hz hl => lv_if_ne X.1.1 X.1.2.1 d ht (fun hc => kt.2 r (by rw [if_neg hc] at hr; exact hr) H locs ls hz hl) (fun hc => kf.2 r (by rw [if_pos hc] at hr; exact hr) H locs ls hz hl)⟩
theorem h_icmp_ne (X : hX p s m args meth c cc nL own rt D tys sf A) {x y : Int32} {off : Int} {tgt : Nat} (d : decode cc pc = .ok (.if_icmp .ne off, 3)) (ht : (pc : Int) + off = (tgt : Int)) (kt : hG p l e Rf s m args below meth c nL Z kc ks QQ Lq tgt lv st F1) (kf : hG p l e Rf s m args below meth c nL Z kc ks QQ Lq (pc + 3) lv st F2) : hG p l e Rf s m args below meth c nL Z kc ks QQ Lq pc lv (.int y :: .int x :: st) (if x = y then F2 else F1) := ⟨fun r hr => by split at hr; exact kf.1 r hr; exact kt.1 r hr, fun r hr H locs ls hz hl => lv_icmp_ne X.1.1 X.1.2.1 d ht (fun hc => kt.2 r (by rw [if_neg hc] at hr; exact hr) H locs ls hz hl) (fun hc => kf.2 r (by rw [if_pos hc] at hr; exact hr) H locs ls hz hl)⟩
theorem h_if_lt (X : hX p s m args meth c cc nL own rt D tys sf A) {x : Int32} {off : Int} {tgt : Nat} (d : decode cc pc = .ok (.ifCond .lt off, 3)) (ht : (pc : Int) + off = (tgt : Int)) (kt : hG p l e Rf s m args below meth c nL Z kc ks QQ Lq tgt lv st F1) (kf : hG p l e Rf s m args below meth c nL Z kc ks QQ Lq (pc + 3) lv st F2) : hG p l e Rf s m args below meth c nL Z kc ks QQ Lq pc lv (.int x :: st) (if x < 0 then F1 else F2) := ⟨fun r hr => by split at hr; exact kt.1 r hr; exact kf.1 r hr, fun r hr H locs ls hz hl => lv_if_lt X.1.1 X.1.2.1 d ht (fun hc => kt.2 r (by rw [if_pos hc] at hr; exact hr) H locs ls hz hl) (fun hc => kf.2 r (by rw [if_neg hc] at hr; exact hr) H locs ls hz hl)⟩
theorem h_icmp_lt (X : hX p s m args meth c cc nL own rt D tys sf A) {x y : Int32} {off : Int} {tgt : Nat} (d : decode cc pc = .ok (.if_icmp .lt off, 3)) (ht : (pc : Int) + off = (tgt : Int)) (kt : hG p l e Rf s m args below meth c nL Z kc ks QQ Lq tgt lv st F1) (kf : hG p l e Rf s m args below meth c nL Z kc ks QQ Lq (pc + 3) lv st F2) : hG p l e Rf s m args below meth c nL Z kc ks QQ Lq pc lv (.int y :: .int x :: st) (if x < y then F1 else F2) := ⟨fun r hr => by split at hr; exact kt.1 r hr; exact kf.1 r hr, fun r hr H locs ls hz hl => lv_icmp_lt X.1.1 X.1.2.1 d ht (fun hc => kt.2 r (by rw [if_pos hc] at hr; exact hr) H locs ls hz hl) (fun hc => kf.2 r (by rw [if_neg hc] at hr; exact hr) H locs ls hz hl)⟩
theorem h_if_ge (X : hX p s m args meth c cc nL own rt D tys sf A) {x : Int32} {off : Int} {tgt : Nat} (d : decode cc pc = .ok (.ifCond .ge off, 3)) (ht : (pc : Int) + off = (tgt : Int)) (kt : hG p l e Rf s m args below meth c nL Z kc ks QQ Lq tgt lv st F1) (kf : hG p l e Rf s m args below meth c nL Z kc ks QQ Lq (pc + 3) lv st F2) : hG p l e Rf s m args below meth c nL Z kc ks QQ Lq pc lv (.int x :: st) (if 0 ≤ x then F1 else F2) := ⟨fun r hr => by split at hr; exact kt.1 r hr; exact kf.1 r hr, fun r hr H locs ls hz hl => lv_if_ge X.1.1 X.1.2.1 d ht (fun hc => kt.2 r (by rw [if_pos hc] at hr; exact hr) H locs ls hz hl) (fun hc => kf.2 r (by rw [if_neg hc] at hr; exact hr) H locs ls hz hl)⟩
theorem h_icmp_ge (X : hX p s m args meth c cc nL own rt D tys sf A) {x y : Int32} {off : Int} {tgt : Nat} (d : decode cc pc = .ok (.if_icmp .ge off, 3)) (ht : (pc : Int) + off = (tgt : Int)) (kt : hG p l e Rf s m args below meth c nL Z kc ks QQ Lq tgt lv st F1) (kf : hG p l e Rf s m args below meth c nL Z kc ks QQ Lq (pc + 3) lv st F2) : hG p l e Rf s m args below meth c nL Z kc ks QQ Lq pc lv (.int y :: .int x :: st) (if y ≤ x then F1 else F2) := ⟨fun r hr => by split at hr; exact kt.1 r hr; exact kf.1 r hr, fun r hr H locs ls hz hl => lv_icmp_ge X.1.1 X.1.2.1 d ht (fun hc => kt.2 r (by rw [if_pos hc] at hr; exact hr) H locs ls hz hl) (fun hc => kf.2 r (by rw [if_neg hc] at hr; exact hr) H locs ls hz hl)⟩
theorem h_if_gt (X : hX p s m args meth c cc nL own rt D tys sf A) {x : Int32} {off : Int} {tgt : Nat} (d : decode cc pc = .ok (.ifCond .gt off, 3)) (ht : (pc : Int) + off = (tgt : Int)) (kt : hG p l e Rf s m args below meth c nL Z kc ks QQ Lq tgt lv st F1) (kf : hG p l e Rf s m args below meth c nL Z kc ks QQ Lq (pc + 3) lv st F2) : hG p l e Rf s m args below meth c nL Z kc ks QQ Lq pc lv (.int x :: st) (if 0 < x then F1 else F2) := ⟨fun r hr => by split at hr; exact kt.1 r hr; exact kf.1 r hr, fun r hr H locs ls hz hl => lv_if_gt X.1.1 X.1.2.1 d ht (fun hc => kt.2 r (by rw [if_pos hc] at hr; exact hr) H locs ls hz hl) (fun hc => kf.2 r (by rw [if_neg hc] at hr; exact hr) H locs ls hz hl)⟩
theorem h_icmp_gt (X : hX p s m args meth c cc nL own rt D tys sf A) {x y : Int32} {off : Int} {tgt : Nat} (d : decode cc pc = .ok (.if_icmp .gt off, 3)) (ht : (pc : Int) + off = (tgt : Int)) (kt : hG p l e Rf s m args below meth c nL Z kc ks QQ Lq tgt lv st F1) (kf : hG p l e Rf s m args below meth c nL Z kc ks QQ Lq (pc + 3) lv st F2) : hG p l e Rf s m args below meth c nL Z kc ks QQ Lq pc lv (.int y :: .int x :: st) (if y < x then F1 else F2) := ⟨fun r hr => by split at hr; exact kt.1 r hr; exact kf.1 r hr, fun r hr H locs ls hz hl => lv_icmp_gt X.1.1 X.1.2.1 d ht (fun hc => kt.2 r (by rw [if_pos hc] at hr; exact hr) H locs ls hz hl) (fun hc => kf.2 r (by rw [if_neg hc] at hr; exact hr) H locs ls hz hl)⟩
theorem h_if_le (X : hX p s m args meth c cc nL own rt D tys sf A) {x : Int32} {off : Int} {tgt : Nat} (d : decode cc pc = .ok (.ifCond .le off, 3)) (ht : (pc : Int) + off = (tgt : Int)) (kt : hG p l e Rf s m args below meth c nL Z kc ks QQ Lq tgt lv st F1) (kf : hG p l e Rf s m args below meth c nL Z kc ks QQ Lq (pc + 3) lv st F2) : hG p l e Rf s m args below meth c nL Z kc ks QQ Lq pc lv (.int x :: st) (if x ≤ 0 then F1 else F2) := ⟨fun r hr => by split at hr; exact kt.1 r hr; exact kf.1 r hr, fun r hr H locs ls hz hl => lv_if_le X.1.1 X.1.2.1 d ht (fun hc => kt.2 r (by rw [if_pos hc] at hr; exact hr) H locs ls hz hl) (fun hc => kf.2 r (by rw [if_neg hc] at hr; exact hr) H locs ls hz hl)⟩
theorem h_icmp_le (X : hX p s m args meth c cc nL own rt D tys sf A) {x y : Int32} {off : Int} {tgt : Nat} (d : decode cc pc = .ok (.if_icmp .le off, 3)) (ht : (pc : Int) + off = (tgt : Int)) (kt : hG p l e Rf s m args below meth c nL Z kc ks QQ Lq tgt lv st F1) (kf : hG p l e Rf s m args below meth c nL Z kc ks QQ Lq (pc + 3) lv st F2) : hG p l e Rf s m args below meth c nL Z kc ks QQ Lq pc lv (.int y :: .int x :: st) (if x ≤ y then F1 else F2) := ⟨fun r hr => by split at hr; exact kt.1 r hr; exact kf.1 r hr, fun r hr H locs ls hz hl => lv_icmp_le X.1.1 X.1.2.1 d ht (fun hc => kt.2 r (by rw [if_pos hc] at hr; exact hr) H locs ls hz hl) (fun hc => kf.2 r (by rw [if_neg hc] at hr; exact hr) H locs ls hz hl)⟩
theorem h_tOut (X : hX p s m args meth c cc nL own rt D tys sf A) {x : Int32} {df lo hi : Int} {offs : Array Int} {len tgt : Nat} (d : decode cc pc = .ok (.tableswitch df lo hi offs, len)) (h : x.toInt < lo ∨ hi < x.toInt) (ht : (pc : Int) + df = (tgt : Int)) (kk : hG p l e Rf s m args below meth c nL Z kc ks QQ Lq tgt lv st F) : hG p l e Rf s m args below meth c nL Z kc ks QQ Lq pc lv (.int x :: st) F := ⟨kk.1, fun r hr H locs ls hz hl => lv_tableOut X.1.1 X.1.2.1 d h ht (kk.2 r hr H locs ls hz hl)⟩
theorem h_tIn (X : hX p s m args meth c cc nL own rt D tys sf A) {x : Int32} {df lo hi off : Int} {offs : Array Int} {len tgt : Nat} (d : decode cc pc = .ok (.tableswitch df lo hi offs, len)) (h1 : ¬ x.toInt < lo) (h2 : ¬ hi < x.toInt) (ho : offs[(x.toInt - lo).toNat]? = some off) (ht : (pc : Int) + off = (tgt : Int)) (kk : hG p l e Rf s m args below meth c nL Z kc ks QQ Lq tgt lv st F) : hG p l e Rf s m args below meth c nL Z kc ks QQ Lq pc lv (.int x :: st) F := ⟨kk.1, fun r hr H locs ls hz hl => lv_tableIn X.1.1 X.1.2.1 d h1 h2 ho ht (kk.2 r hr H locs ls hz hl)⟩
end HH
/-! worlds with some addresses x that may change, and a state S; contracts over them -/
section WW
variable {α β : Type}
def ZX (D : va_G) (w : α → CS → va_W) (x : α) (A : Nat → Prop) (H0 : Heap) (S0 S : CS) : Heap → List Loc → Prop := fun H locs => le S0 S ∧ va_P D vwCl (w x S) H ∧ va_D A (w x S) ∧ va_S A H0 H locs
def ZW (D : va_G) (w : α → CS → va_W) (A : Nat → Prop) (H0 : Heap) (S0 S : CS) : Heap → List Loc → Prop := fun H locs => ∃ x, ZX D w x A H0 S0 S H locs
def BW (D : va_G) (tys : List (ClassId × FieldType)) (w : α → CS → va_W) (A : Nat → Prop) (S : CS) (t : State) : Prop := ∃ x, va_P D vwCl (w x S) t.heap ∧ va_K D vwCl tys t ∧ va_D A (w x S)
def QWi (D : va_G) (tys : List (ClassId × FieldType)) (w : α → CS → va_W) (A : Nat → Prop) (r : Int32 × CS) : Array Value → State → Outcome → State → Prop := va_Qi (fun (v : Int32) (S : CS) => v = r.1 ∧ S = r.2) (BW D tys w A) A
def QWl (D : va_G) (tys : List (ClassId × FieldType)) (w : α → CS → va_W) (A : Nat → Prop) (r : Int64 × CS) : Array Value → State → Outcome → State → Prop := va_Ql (fun (v : Int64) (S : CS) => v = r.1 ∧ S = r.2) (BW D tys w A) A
def QWv (D : va_G) (tys : List (ClassId × FieldType)) (w : α → CS → va_W) (A : Nat → Prop) (r : Int32 × CS) : Array Value → State → Outcome → State → Prop := va_Qv (fun (S : CS) => S = r.2) (BW D tys w A) A
def PcW (D : va_G) (tys : List (ClassId × FieldType)) (sf : sfT) (w : α → CS → va_W) (x : α) (sz : Nat) (vs : List Value) (S : CS) : Array Value → State → Prop := va_Pc vs (fun U => U.heap.size = sz ∧ va_P D vwCl (w x S) U.heap ∧ va_K D vwCl tys U ∧ va_D (fun _ => True) (w x S) ∧ sf (va_A (w x S) sz) U)
abbrev QkT (α β : Type) : Type := va_G → List (ClassId × FieldType) → (α → CS → va_W) → (Nat → Prop) → β × CS → Array Value → State → Outcome → State → Prop
def MetW (l : Launch) (D : va_G) (tys : List (ClassId × FieldType)) (sf : sfT) (w : α → CS → va_W) (y : MethodName) (b : ByteArray) (nL : Nat) (ret : Option FieldType) (fr lo : Nat) (Qk : QkT α β) (vs : List Value) (S : CS) (F : Option (β × CS)) : Prop :=
  (∀ r, F = some r → le S r.2) ∧ ∀ x sz r, F = some r → Met l y (wsM y b nL ret) (rmC fr lo (cS r.2 - cS S) (sS r.2 - sS S)) (PcW D tys sf w x sz vs S) (Qk D tys w (va_A (w x S) sz) r) (cS r.2 - cS S) (sS r.2 - sS S) (va_A (w x S) sz)
theorem PcW_blind {D : va_G} {tys : List (ClassId × FieldType)} {sf : sfT} (hsf : sfOk sf) {w : α → CS → va_W} {x : α} {sz : Nat} {vs : List Value} {S : CS} : FrameBlind (PcW D tys sf w x sz vs S) := fun a U g mk h => by
  obtain ⟨h0, h1, h2, h3, h4, h5⟩ := h
  exact ⟨h0, h1, h2, va_K.moved (u := U) (U := U.calling g mk a) (Vm.Alike.refl U.vm) h3, h4, hsf _ _ U _ h5 (fun _ h => h) (Or.inr rfl) (fun _ _ _ => rfl)⟩
theorem MetW.of {l : Launch} {D : va_G} {tys : List (ClassId × FieldType)} {sf : sfT} {w : α → CS → va_W} {own : String} {y : MethodName} {b : ByteArray} {nL : Nat} {ret : Option FieldType} {fr lo : Nat} {Qk : QkT α β} {vs : List Value} {S : CS} {F : Option (β × CS)} (hy : plainName y.cls = true) (hcl : y.cls = own) (hlen : (lg_sl vs).length ≤ nL) (hmono : ∀ r, F = some r → le S r.2)
    (body : ∀ (x : α) (p : Program) (e : Env) (s : State) (m : MethodId) (args : Array Value) (below : List Frame) (meth : Method) (c : Code), hX p s m args meth c b nL own ret D tys sf (va_A (w x S) s.heap.size) → hG p l e (fun r => rmC fr lo (cS r.2 - cS S) (sS r.2 - sS S)) s m args below meth c nL (ZX D w x (va_A (w x S) s.heap.size) s.heap S S) (cS S - cS S) (sS S - sS S) (fun r => MQ below (Qk D tys w (va_A (w x S) s.heap.size) r) args s (cS r.2 - cS S) (sS r.2 - sS S) (va_A (w x S) s.heap.size)) (fun r => le S r.2) 0 (lv_args 0 vs) [] F) : MetW l D tys sf w y b nL ret fr lo Qk vs S F := by
  refine ⟨hmono, ?_⟩
  intro x sz r hr
  refine Met.ofW (cc := b) (maxL := nL) (ret := ret) hy rfl ?_
  intro p e s m args below meth c s₁ B hml hv
  obtain ⟨rfl, hsz, hP, hK, hD0, hsf⟩ := hv
  have hts : ∀ w ∈ tt, w.before vs.toArray s = true := fun w hw => atoms_spec (ws := wsM y b nL ret) B.pre w (List.mem_cons_of_mem _ hw)
  have hown : s.vm.findClass own = some m.cls := by rw [← hcl]; exact findClass_of_methodNamed B.named
  subst hsz
  have hD := hD0.self (sz := s.heap.size)
  have hl := lv_entry vs (n := nL) hlen
  rw [lg_entry_eq]
  have h := (body x p e s m _ below meth c ⟨⟨B.exec, B.bytes, hml, hown, hts, hK, B.notSynchronized, B.returns⟩, fun q h => Or.inr h, hsf⟩).2 r hr _ _ _ ⟨le_rf, hP, hD, va_S.rf⟩ hl
  rw [Nat.sub_self, Nat.sub_self] at h
  exact h
end WW
section WR
variable {α β : Type} {p : Program} {l : Launch} {e : Env} {s : State} {m : MethodId} {args : Array Value} {below : List Frame} {meth : Method} {c : Code}
variable {cc : ByteArray} {nL : Nat} {own : String} {rt : Option FieldType} {D : va_G} {tys : List (ClassId × FieldType)} {sf : sfT} {A : Nat → Prop} {w : α → CS → va_W} {x : α} {fr lo : Nat} {S0 S : CS} {pc : Nat} {lv : List (Nat × Value)} {st : List Value}

theorem h_close {ρ : Type} {QQ : ρ × CS → State → Prop} {F : Option (ρ × CS)} (kk : hG p l e (fun r => rmC fr lo (cS r.2 - cS S0) (sS r.2 - sS S0)) s m args below meth c nL (ZW D w A s.heap S0 S) (cS S - cS S0) (sS S - sS S0) QQ (fun r => le S r.2) pc lv st F) : hG p l e (fun r => rmC fr lo (cS r.2 - cS S0) (sS r.2 - sS S0)) s m args below meth c nL (ZX D w x A s.heap S0 S) (cS S - cS S0) (sS S - sS S0) QQ (fun r => le S r.2) pc lv st F := ⟨kk.1, fun r hr H locs ls hz hl => kk.2 r hr H locs ls ⟨x, hz⟩ hl⟩
theorem h_iret {v : Int32} (X : hX p s m args meth c cc nL own (some .int) D tys sf A) (d : decode cc pc = .ok (.ireturn, 1)) : hG p l e (fun r => rmC fr lo (cS r.2 - cS S0) (sS r.2 - sS S0)) s m args below meth c nL (ZW D w A s.heap S0 S) (cS S - cS S0) (sS S - sS S0) (fun r => MQ below (QWi D tys w A r) args s (cS r.2 - cS S0) (sS r.2 - sS S0) A) (fun r => le S r.2) pc lv [.int v] (some (v, S)) := ⟨fun r hr => by cases hr; exact le_rf, fun r hr H locs ls hz hl => by
  cases hr
  obtain ⟨x, h0, hP, hD, hS⟩ := hz
  exact W.iret (v := v) X.1.1 X.1.2.1 X.1.2.2.2.2.2.2.2 (fun t ht hW => ⟨⟨v, S, rfl, ⟨rfl, rfl⟩, x, by rw [ht]; exact hP, va_K.moved hW.alike X.1.2.2.2.2.2.1, hD⟩, hS.F ht⟩) hS.2.2 d X.1.2.2.2.2.2.2.1⟩
theorem h_zret {v : Int32} (X : hX p s m args meth c cc nL own (some .boolean) D tys sf A) (d : decode cc pc = .ok (.ireturn, 1)) : hG p l e (fun r => rmC fr lo (cS r.2 - cS S0) (sS r.2 - sS S0)) s m args below meth c nL (ZW D w A s.heap S0 S) (cS S - cS S0) (sS S - sS S0) (fun r => MQ below (QWi D tys w A r) args s (cS r.2 - cS S0) (sS r.2 - sS S0) A) (fun r => le S r.2) pc lv [.int v] (zt v (some (v, S))) := ⟨fun r hr => by obtain ⟨_, hr⟩ := zt_bo hr; cases hr; exact le_rf, fun r hr H locs ls hz hl => by
  obtain ⟨hb, hr⟩ := zt_bo hr
  cases hr
  obtain ⟨x, h0, hP, hD, hS⟩ := hz
  exact W.zret (v := v) X.1.1 X.1.2.1 X.1.2.2.2.2.2.2.2 (bo_nar hb).1 (fun t ht hW => ⟨⟨v, S, rfl, ⟨rfl, rfl⟩, x, by rw [ht]; exact hP, va_K.moved hW.alike X.1.2.2.2.2.2.1, hD⟩, hS.F ht⟩) hS.2.2 d X.1.2.2.2.2.2.2.1⟩
theorem h_lret {v : Int64} (X : hX p s m args meth c cc nL own (some .long) D tys sf A) (d : decode cc pc = .ok (.lreturn, 1)) : hG p l e (fun r => rmC fr lo (cS r.2 - cS S0) (sS r.2 - sS S0)) s m args below meth c nL (ZW D w A s.heap S0 S) (cS S - cS S0) (sS S - sS S0) (fun r => MQ below (QWl D tys w A r) args s (cS r.2 - cS S0) (sS r.2 - sS S0) A) (fun r => le S r.2) pc lv [.long v] (some (v, S)) := ⟨fun r hr => by cases hr; exact le_rf, fun r hr H locs ls hz hl => by
  cases hr
  obtain ⟨x, h0, hP, hD, hS⟩ := hz
  exact W.lret (v := v) X.1.1 X.1.2.1 X.1.2.2.2.2.2.2.2 (fun t ht hW => ⟨⟨v, S, rfl, ⟨rfl, rfl⟩, x, by rw [ht]; exact hP, va_K.moved hW.alike X.1.2.2.2.2.2.1, hD⟩, hS.F ht⟩) hS.2.2 d X.1.2.2.2.2.2.2.1⟩
theorem h_vret (X : hX p s m args meth c cc nL own (none) D tys sf A) (d : decode cc pc = .ok (.return_, 1)) : hG p l e (fun r => rmC fr lo (cS r.2 - cS S0) (sS r.2 - sS S0)) s m args below meth c nL (ZW D w A s.heap S0 S) (cS S - cS S0) (sS S - sS S0) (fun r => MQ below (QWv D tys w A r) args s (cS r.2 - cS S0) (sS r.2 - sS S0) A) (fun r => le S r.2) pc lv [] (some (0, S)) := ⟨fun r hr => by cases hr; exact le_rf, fun r hr H locs ls hz hl => by
  cases hr
  obtain ⟨x, h0, hP, hD, hS⟩ := hz
  exact W.vret X.1.1 X.1.2.1 X.1.2.2.2.2.2.2.2 (fun t ht hW => ⟨⟨S, rfl, rfl, x, by rw [ht]; exact hP, va_K.moved hW.alike X.1.2.2.2.2.2.1, hD⟩, hS.F ht⟩) hS.2.2 d X.1.2.2.2.2.2.2.1⟩
theorem h_callVi {ρ : Type} {QQ : ρ × CS → State → Prop} (hsf : sfOk sf) (X : hX p s m args meth c cc nL own rt D tys sf A) {y : MethodName} {bb : ByteArray} {nz fz lz n ix : Nat} {C : String} {b : Nat} {ret : Option FieldType} {As rest : List Value} {Fz : Option (Int32 × CS)} {K : Int32 → CS → Option (ρ × CS)} (hM : MetW l D tys sf w y bb nz ret fz lz QWi (.ref b :: As) S Fz) (cw : ∀ a0 b0 mc ms : Nat, CallW (rmC fr lo a0 b0) s args own C ix y bb nz ret (wsM y bb nz ret) (rmC fz lz mc ms) mc ms n) (hrecv : ∀ (x : α) (H : Heap), va_K D vwCl tys s → va_P D vwCl (w x S) H → ∃ cellB : Cell, H[b]? = some cellB ∧ cellB.vm.isStatics = false ∧ s.vm.findClass C = some cellB.cls) (hn : As.length = n) (hst : st = As.reverse ++ .ref b :: rest) (hcat : (rest.map fun v => v.category).sum ≤ 8) (d : decode cc pc = .ok (.invokevirtual ix, 3))
    (kk : ∀ v S1, hG p l e (fun r => rmC fr lo (cS r.2 - cS S0) (sS r.2 - sS S0)) s m args below meth c nL (ZW D w A s.heap S0 S1) (cS S1 - cS S0) (sS S1 - sS S0) QQ (fun r => le S1 r.2) (pc + 3) lv (.int v :: rest) (K v S1)) : hG p l e (fun r => rmC fr lo (cS r.2 - cS S0) (sS r.2 - sS S0)) s m args below meth c nL (ZW D w A s.heap S0 S) (cS S - cS S0) (sS S - sS S0) QQ (fun r => le S r.2) pc lv st (bnd Fz K) := by
  refine ⟨fun r hr => ?_, fun r hr H locs ls hz hl => ?_⟩
  · obtain ⟨a, hF, hr⟩ := bnd_some hr
    exact le_tr (hM.1 a hF) ((kk _ _).1 r hr)
  · obtain ⟨a, hF, hr⟩ := bnd_some hr
    obtain ⟨x, h0, hP, hD, hS⟩ := hz
    have hm1 := hM.1 a hF
    have hm2 := (kk a.1 a.2).1 r hr
    have hfree : ∀ y, va_A (w x S) H.size y → A y := by
      intro y hy
      rcases hy with ⟨k, e, hk⟩ | hy
      · exact hD.2 k (y, e) hk
      · exact X.2.1 y (Nat.le_trans hS.1 hy)
    have e1 : cS S - cS S0 + (cS a.2 - cS S) = cS a.2 - cS S0 := by have := h0.1; have := hm1.1; omega
    have e2 : sS S - sS S0 + (sS a.2 - sS S) = sS a.2 - sS S0 := by have := h0.2; have := hm1.2; omega
    have f1 : cS S - cS S0 + (cS a.2 - cS S) ≤ cS r.2 - cS S0 := by rw [e1]; have := hm2.1; omega
    have f2 : sS S - sS S0 + (sS a.2 - sS S) ≤ sS r.2 - sS S0 := by rw [e2]; have := hm2.2; omega
    refine va_calli (va_runV (As := As) (rest := rest) ⟨X.1.1, X.1.2.1, X.1.2.2.1, X.1.2.2.2.1, X.1.2.2.2.2.1⟩ (hM.2 x H.size a hF) (cw _ _ _ _) ⟨PcW_blind hsf, hrecv x H X.1.2.2.2.2.2.1 hP, fun U hU hW => ⟨rfl, by rw [hU], by rw [hU]; exact hP, va_K.moved hW.alike X.1.2.2.2.2.2.1, hD.weaken (fun _ _ _ _ => trivial), hsf _ _ s U X.2.2 hfree (Or.inl hW) (fun y h1 h2 => by rw [hU]; exact hS.2.1 y h1 h2)⟩⟩ rfl hn hl.1 hst (lv_room hcat) d ⟨f1, f2⟩) hS (fun y _ h => hfree y h) hfree (fun v u t H1 locs1 ht hvm hw hB hz1 hk1 hS1 => ?_)
    obtain ⟨rfl, rfl⟩ := hw
    obtain ⟨x1, hP1, hK1, hD1⟩ := hB
    subst ht
    rw [e1, e2]
    exact (kk _ _).2 r hr _ _ ls ⟨x1, le_tr h0 hm1, hP1, hD1.weaken (fun _ _ _ h => hfree _ h), hS1⟩ hl
theorem h_callVv {ρ : Type} {QQ : ρ × CS → State → Prop} (hsf : sfOk sf) (X : hX p s m args meth c cc nL own rt D tys sf A) {y : MethodName} {bb : ByteArray} {nz fz lz n ix : Nat} {C : String} {b : Nat} {ret : Option FieldType} {As rest : List Value} {Fz : Option (Int32 × CS)} {K : Int32 → CS → Option (ρ × CS)} (hM : MetW l D tys sf w y bb nz ret fz lz QWv (.ref b :: As) S Fz) (cw : ∀ a0 b0 mc ms : Nat, CallW (rmC fr lo a0 b0) s args own C ix y bb nz ret (wsM y bb nz ret) (rmC fz lz mc ms) mc ms n) (hrecv : ∀ (x : α) (H : Heap), va_K D vwCl tys s → va_P D vwCl (w x S) H → ∃ cellB : Cell, H[b]? = some cellB ∧ cellB.vm.isStatics = false ∧ s.vm.findClass C = some cellB.cls) (hn : As.length = n) (hst : st = As.reverse ++ .ref b :: rest) (hcat : (rest.map fun v => v.category).sum ≤ 8) (d : decode cc pc = .ok (.invokevirtual ix, 3))
    (kk : ∀ v S1, hG p l e (fun r => rmC fr lo (cS r.2 - cS S0) (sS r.2 - sS S0)) s m args below meth c nL (ZW D w A s.heap S0 S1) (cS S1 - cS S0) (sS S1 - sS S0) QQ (fun r => le S1 r.2) (pc + 3) lv rest (K v S1)) : hG p l e (fun r => rmC fr lo (cS r.2 - cS S0) (sS r.2 - sS S0)) s m args below meth c nL (ZW D w A s.heap S0 S) (cS S - cS S0) (sS S - sS S0) QQ (fun r => le S r.2) pc lv st (bnd Fz K) := by
  refine ⟨fun r hr => ?_, fun r hr H locs ls hz hl => ?_⟩
  · obtain ⟨a, hF, hr⟩ := bnd_some hr
    exact le_tr (hM.1 a hF) ((kk _ _).1 r hr)
  · obtain ⟨a, hF, hr⟩ := bnd_some hr
    obtain ⟨x, h0, hP, hD, hS⟩ := hz
    have hm1 := hM.1 a hF
    have hm2 := (kk a.1 a.2).1 r hr
    have hfree : ∀ y, va_A (w x S) H.size y → A y := by
      intro y hy
      rcases hy with ⟨k, e, hk⟩ | hy
      · exact hD.2 k (y, e) hk
      · exact X.2.1 y (Nat.le_trans hS.1 hy)
    have e1 : cS S - cS S0 + (cS a.2 - cS S) = cS a.2 - cS S0 := by have := h0.1; have := hm1.1; omega
    have e2 : sS S - sS S0 + (sS a.2 - sS S) = sS a.2 - sS S0 := by have := h0.2; have := hm1.2; omega
    have f1 : cS S - cS S0 + (cS a.2 - cS S) ≤ cS r.2 - cS S0 := by rw [e1]; have := hm2.1; omega
    have f2 : sS S - sS S0 + (sS a.2 - sS S) ≤ sS r.2 - sS S0 := by rw [e2]; have := hm2.2; omega
    refine va_callv (va_runV (As := As) (rest := rest) ⟨X.1.1, X.1.2.1, X.1.2.2.1, X.1.2.2.2.1, X.1.2.2.2.2.1⟩ (hM.2 x H.size a hF) (cw _ _ _ _) ⟨PcW_blind hsf, hrecv x H X.1.2.2.2.2.2.1 hP, fun U hU hW => ⟨rfl, by rw [hU], by rw [hU]; exact hP, va_K.moved hW.alike X.1.2.2.2.2.2.1, hD.weaken (fun _ _ _ _ => trivial), hsf _ _ s U X.2.2 hfree (Or.inl hW) (fun y h1 h2 => by rw [hU]; exact hS.2.1 y h1 h2)⟩⟩ rfl hn hl.1 hst (lv_room hcat) d ⟨f1, f2⟩) hS (fun y _ h => hfree y h) hfree (fun u t H1 locs1 ht hvm hw hB hz1 hk1 hS1 => ?_)
    subst hw
    obtain ⟨x1, hP1, hK1, hD1⟩ := hB
    subst ht
    rw [e1, e2]
    exact (kk _ _).2 r hr _ _ ls ⟨x1, le_tr h0 hm1, hP1, hD1.weaken (fun _ _ _ h => hfree _ h), hS1⟩ hl
theorem h_callVl {ρ : Type} {QQ : ρ × CS → State → Prop} (hsf : sfOk sf) (X : hX p s m args meth c cc nL own rt D tys sf A) {y : MethodName} {bb : ByteArray} {nz fz lz n ix : Nat} {C : String} {b : Nat} {ret : Option FieldType} {As rest : List Value} {Fz : Option (Int64 × CS)} {K : Int64 → CS → Option (ρ × CS)} (hM : MetW l D tys sf w y bb nz ret fz lz QWl (.ref b :: As) S Fz) (cw : ∀ a0 b0 mc ms : Nat, CallW (rmC fr lo a0 b0) s args own C ix y bb nz ret (wsM y bb nz ret) (rmC fz lz mc ms) mc ms n) (hrecv : ∀ (x : α) (H : Heap), va_K D vwCl tys s → va_P D vwCl (w x S) H → ∃ cellB : Cell, H[b]? = some cellB ∧ cellB.vm.isStatics = false ∧ s.vm.findClass C = some cellB.cls) (hn : As.length = n) (hst : st = As.reverse ++ .ref b :: rest) (hcat : (rest.map fun v => v.category).sum ≤ 8) (d : decode cc pc = .ok (.invokevirtual ix, 3))
    (kk : ∀ v S1, hG p l e (fun r => rmC fr lo (cS r.2 - cS S0) (sS r.2 - sS S0)) s m args below meth c nL (ZW D w A s.heap S0 S1) (cS S1 - cS S0) (sS S1 - sS S0) QQ (fun r => le S1 r.2) (pc + 3) lv (.long v :: rest) (K v S1)) : hG p l e (fun r => rmC fr lo (cS r.2 - cS S0) (sS r.2 - sS S0)) s m args below meth c nL (ZW D w A s.heap S0 S) (cS S - cS S0) (sS S - sS S0) QQ (fun r => le S r.2) pc lv st (bnd Fz K) := by
  refine ⟨fun r hr => ?_, fun r hr H locs ls hz hl => ?_⟩
  · obtain ⟨a, hF, hr⟩ := bnd_some hr
    exact le_tr (hM.1 a hF) ((kk _ _).1 r hr)
  · obtain ⟨a, hF, hr⟩ := bnd_some hr
    obtain ⟨x, h0, hP, hD, hS⟩ := hz
    have hm1 := hM.1 a hF
    have hm2 := (kk a.1 a.2).1 r hr
    have hfree : ∀ y, va_A (w x S) H.size y → A y := by
      intro y hy
      rcases hy with ⟨k, e, hk⟩ | hy
      · exact hD.2 k (y, e) hk
      · exact X.2.1 y (Nat.le_trans hS.1 hy)
    have e1 : cS S - cS S0 + (cS a.2 - cS S) = cS a.2 - cS S0 := by have := h0.1; have := hm1.1; omega
    have e2 : sS S - sS S0 + (sS a.2 - sS S) = sS a.2 - sS S0 := by have := h0.2; have := hm1.2; omega
    have f1 : cS S - cS S0 + (cS a.2 - cS S) ≤ cS r.2 - cS S0 := by rw [e1]; have := hm2.1; omega
    have f2 : sS S - sS S0 + (sS a.2 - sS S) ≤ sS r.2 - sS S0 := by rw [e2]; have := hm2.2; omega
    refine va_calll (va_runV (As := As) (rest := rest) ⟨X.1.1, X.1.2.1, X.1.2.2.1, X.1.2.2.2.1, X.1.2.2.2.2.1⟩ (hM.2 x H.size a hF) (cw _ _ _ _) ⟨PcW_blind hsf, hrecv x H X.1.2.2.2.2.2.1 hP, fun U hU hW => ⟨rfl, by rw [hU], by rw [hU]; exact hP, va_K.moved hW.alike X.1.2.2.2.2.2.1, hD.weaken (fun _ _ _ _ => trivial), hsf _ _ s U X.2.2 hfree (Or.inl hW) (fun y h1 h2 => by rw [hU]; exact hS.2.1 y h1 h2)⟩⟩ rfl hn hl.1 hst (lv_room hcat) d ⟨f1, f2⟩) hS (fun y _ h => hfree y h) hfree (fun v u t H1 locs1 ht hvm hw hB hz1 hk1 hS1 => ?_)
    obtain ⟨rfl, rfl⟩ := hw
    obtain ⟨x1, hP1, hK1, hD1⟩ := hB
    subst ht
    rw [e1, e2]
    exact (kk _ _).2 r hr _ _ ls ⟨x1, le_tr h0 hm1, hP1, hD1.weaken (fun _ _ _ h => hfree _ h), hS1⟩ hl
theorem h_callSi {ρ : Type} {QQ : ρ × CS → State → Prop} (hsf : sfOk sf) (X : hX p s m args meth c cc nL own rt D tys sf A) {y : MethodName} {bb : ByteArray} {nz fz lz n ix : Nat} {C : String} {b : Nat} {ret : Option FieldType} {As rest : List Value} {Fz : Option (Int32 × CS)} {K : Int32 → CS → Option (ρ × CS)} (hM : MetW l D tys sf w y bb nz ret fz lz QWi As S Fz) (cw : ∀ a0 b0 mc ms : Nat, CallB (rmC fr lo a0 b0) s args own ix y bb nz ret (wsM y bb nz ret) (rmC fz lz mc ms) mc ms n ∧ (Cond.static y).before args s = true) (hn : As.length = n) (hst : st = As.reverse ++ rest) (hcat : (rest.map fun v => v.category).sum ≤ 8) (d : decode cc pc = .ok (.invokestatic ix, 3))
    (kk : ∀ v S1, hG p l e (fun r => rmC fr lo (cS r.2 - cS S0) (sS r.2 - sS S0)) s m args below meth c nL (ZW D w A s.heap S0 S1) (cS S1 - cS S0) (sS S1 - sS S0) QQ (fun r => le S1 r.2) (pc + 3) lv (.int v :: rest) (K v S1)) : hG p l e (fun r => rmC fr lo (cS r.2 - cS S0) (sS r.2 - sS S0)) s m args below meth c nL (ZW D w A s.heap S0 S) (cS S - cS S0) (sS S - sS S0) QQ (fun r => le S r.2) pc lv st (bnd Fz K) := by
  refine ⟨fun r hr => ?_, fun r hr H locs ls hz hl => ?_⟩
  · obtain ⟨a, hF, hr⟩ := bnd_some hr
    exact le_tr (hM.1 a hF) ((kk _ _).1 r hr)
  · obtain ⟨a, hF, hr⟩ := bnd_some hr
    obtain ⟨x, h0, hP, hD, hS⟩ := hz
    have hm1 := hM.1 a hF
    have hm2 := (kk a.1 a.2).1 r hr
    have hfree : ∀ y, va_A (w x S) H.size y → A y := by
      intro y hy
      rcases hy with ⟨k, e, hk⟩ | hy
      · exact hD.2 k (y, e) hk
      · exact X.2.1 y (Nat.le_trans hS.1 hy)
    have e1 : cS S - cS S0 + (cS a.2 - cS S) = cS a.2 - cS S0 := by have := h0.1; have := hm1.1; omega
    have e2 : sS S - sS S0 + (sS a.2 - sS S) = sS a.2 - sS S0 := by have := h0.2; have := hm1.2; omega
    have f1 : cS S - cS S0 + (cS a.2 - cS S) ≤ cS r.2 - cS S0 := by rw [e1]; have := hm2.1; omega
    have f2 : sS S - sS S0 + (sS a.2 - sS S) ≤ sS r.2 - sS S0 := by rw [e2]; have := hm2.2; omega
    refine va_calli (va_runS (As := As) (rest := rest) ⟨X.1.1, X.1.2.1, X.1.2.2.1, X.1.2.2.2.1, X.1.2.2.2.2.1⟩ (hM.2 x H.size a hF) (cw _ _ _ _) ⟨PcW_blind hsf, fun U hU hW => ⟨rfl, by rw [hU], by rw [hU]; exact hP, va_K.moved hW.alike X.1.2.2.2.2.2.1, hD.weaken (fun _ _ _ _ => trivial), hsf _ _ s U X.2.2 hfree (Or.inl hW) (fun y h1 h2 => by rw [hU]; exact hS.2.1 y h1 h2)⟩⟩ rfl hn hl.1 hst (lv_room hcat) d ⟨f1, f2⟩) hS (fun y _ h => hfree y h) hfree (fun v u t H1 locs1 ht hvm hw hB hz1 hk1 hS1 => ?_)
    obtain ⟨rfl, rfl⟩ := hw
    obtain ⟨x1, hP1, hK1, hD1⟩ := hB
    subst ht
    rw [e1, e2]
    exact (kk _ _).2 r hr _ _ ls ⟨x1, le_tr h0 hm1, hP1, hD1.weaken (fun _ _ _ h => hfree _ h), hS1⟩ hl
theorem h_callSv {ρ : Type} {QQ : ρ × CS → State → Prop} (hsf : sfOk sf) (X : hX p s m args meth c cc nL own rt D tys sf A) {y : MethodName} {bb : ByteArray} {nz fz lz n ix : Nat} {C : String} {b : Nat} {ret : Option FieldType} {As rest : List Value} {Fz : Option (Int32 × CS)} {K : Int32 → CS → Option (ρ × CS)} (hM : MetW l D tys sf w y bb nz ret fz lz QWv As S Fz) (cw : ∀ a0 b0 mc ms : Nat, CallB (rmC fr lo a0 b0) s args own ix y bb nz ret (wsM y bb nz ret) (rmC fz lz mc ms) mc ms n ∧ (Cond.static y).before args s = true) (hn : As.length = n) (hst : st = As.reverse ++ rest) (hcat : (rest.map fun v => v.category).sum ≤ 8) (d : decode cc pc = .ok (.invokestatic ix, 3))
    (kk : ∀ v S1, hG p l e (fun r => rmC fr lo (cS r.2 - cS S0) (sS r.2 - sS S0)) s m args below meth c nL (ZW D w A s.heap S0 S1) (cS S1 - cS S0) (sS S1 - sS S0) QQ (fun r => le S1 r.2) (pc + 3) lv rest (K v S1)) : hG p l e (fun r => rmC fr lo (cS r.2 - cS S0) (sS r.2 - sS S0)) s m args below meth c nL (ZW D w A s.heap S0 S) (cS S - cS S0) (sS S - sS S0) QQ (fun r => le S r.2) pc lv st (bnd Fz K) := by
  refine ⟨fun r hr => ?_, fun r hr H locs ls hz hl => ?_⟩
  · obtain ⟨a, hF, hr⟩ := bnd_some hr
    exact le_tr (hM.1 a hF) ((kk _ _).1 r hr)
  · obtain ⟨a, hF, hr⟩ := bnd_some hr
    obtain ⟨x, h0, hP, hD, hS⟩ := hz
    have hm1 := hM.1 a hF
    have hm2 := (kk a.1 a.2).1 r hr
    have hfree : ∀ y, va_A (w x S) H.size y → A y := by
      intro y hy
      rcases hy with ⟨k, e, hk⟩ | hy
      · exact hD.2 k (y, e) hk
      · exact X.2.1 y (Nat.le_trans hS.1 hy)
    have e1 : cS S - cS S0 + (cS a.2 - cS S) = cS a.2 - cS S0 := by have := h0.1; have := hm1.1; omega
    have e2 : sS S - sS S0 + (sS a.2 - sS S) = sS a.2 - sS S0 := by have := h0.2; have := hm1.2; omega
    have f1 : cS S - cS S0 + (cS a.2 - cS S) ≤ cS r.2 - cS S0 := by rw [e1]; have := hm2.1; omega
    have f2 : sS S - sS S0 + (sS a.2 - sS S) ≤ sS r.2 - sS S0 := by rw [e2]; have := hm2.2; omega
    refine va_callv (va_runS (As := As) (rest := rest) ⟨X.1.1, X.1.2.1, X.1.2.2.1, X.1.2.2.2.1, X.1.2.2.2.2.1⟩ (hM.2 x H.size a hF) (cw _ _ _ _) ⟨PcW_blind hsf, fun U hU hW => ⟨rfl, by rw [hU], by rw [hU]; exact hP, va_K.moved hW.alike X.1.2.2.2.2.2.1, hD.weaken (fun _ _ _ _ => trivial), hsf _ _ s U X.2.2 hfree (Or.inl hW) (fun y h1 h2 => by rw [hU]; exact hS.2.1 y h1 h2)⟩⟩ rfl hn hl.1 hst (lv_room hcat) d ⟨f1, f2⟩) hS (fun y _ h => hfree y h) hfree (fun u t H1 locs1 ht hvm hw hB hz1 hk1 hS1 => ?_)
    subst hw
    obtain ⟨x1, hP1, hK1, hD1⟩ := hB
    subst ht
    rw [e1, e2]
    exact (kk _ _).2 r hr _ _ ls ⟨x1, le_tr h0 hm1, hP1, hD1.weaken (fun _ _ _ h => hfree _ h), hS1⟩ hl
theorem h_callSl {ρ : Type} {QQ : ρ × CS → State → Prop} (hsf : sfOk sf) (X : hX p s m args meth c cc nL own rt D tys sf A) {y : MethodName} {bb : ByteArray} {nz fz lz n ix : Nat} {C : String} {b : Nat} {ret : Option FieldType} {As rest : List Value} {Fz : Option (Int64 × CS)} {K : Int64 → CS → Option (ρ × CS)} (hM : MetW l D tys sf w y bb nz ret fz lz QWl As S Fz) (cw : ∀ a0 b0 mc ms : Nat, CallB (rmC fr lo a0 b0) s args own ix y bb nz ret (wsM y bb nz ret) (rmC fz lz mc ms) mc ms n ∧ (Cond.static y).before args s = true) (hn : As.length = n) (hst : st = As.reverse ++ rest) (hcat : (rest.map fun v => v.category).sum ≤ 8) (d : decode cc pc = .ok (.invokestatic ix, 3))
    (kk : ∀ v S1, hG p l e (fun r => rmC fr lo (cS r.2 - cS S0) (sS r.2 - sS S0)) s m args below meth c nL (ZW D w A s.heap S0 S1) (cS S1 - cS S0) (sS S1 - sS S0) QQ (fun r => le S1 r.2) (pc + 3) lv (.long v :: rest) (K v S1)) : hG p l e (fun r => rmC fr lo (cS r.2 - cS S0) (sS r.2 - sS S0)) s m args below meth c nL (ZW D w A s.heap S0 S) (cS S - cS S0) (sS S - sS S0) QQ (fun r => le S r.2) pc lv st (bnd Fz K) := by
  refine ⟨fun r hr => ?_, fun r hr H locs ls hz hl => ?_⟩
  · obtain ⟨a, hF, hr⟩ := bnd_some hr
    exact le_tr (hM.1 a hF) ((kk _ _).1 r hr)
  · obtain ⟨a, hF, hr⟩ := bnd_some hr
    obtain ⟨x, h0, hP, hD, hS⟩ := hz
    have hm1 := hM.1 a hF
    have hm2 := (kk a.1 a.2).1 r hr
    have hfree : ∀ y, va_A (w x S) H.size y → A y := by
      intro y hy
      rcases hy with ⟨k, e, hk⟩ | hy
      · exact hD.2 k (y, e) hk
      · exact X.2.1 y (Nat.le_trans hS.1 hy)
    have e1 : cS S - cS S0 + (cS a.2 - cS S) = cS a.2 - cS S0 := by have := h0.1; have := hm1.1; omega
    have e2 : sS S - sS S0 + (sS a.2 - sS S) = sS a.2 - sS S0 := by have := h0.2; have := hm1.2; omega
    have f1 : cS S - cS S0 + (cS a.2 - cS S) ≤ cS r.2 - cS S0 := by rw [e1]; have := hm2.1; omega
    have f2 : sS S - sS S0 + (sS a.2 - sS S) ≤ sS r.2 - sS S0 := by rw [e2]; have := hm2.2; omega
    refine va_calll (va_runS (As := As) (rest := rest) ⟨X.1.1, X.1.2.1, X.1.2.2.1, X.1.2.2.2.1, X.1.2.2.2.2.1⟩ (hM.2 x H.size a hF) (cw _ _ _ _) ⟨PcW_blind hsf, fun U hU hW => ⟨rfl, by rw [hU], by rw [hU]; exact hP, va_K.moved hW.alike X.1.2.2.2.2.2.1, hD.weaken (fun _ _ _ _ => trivial), hsf _ _ s U X.2.2 hfree (Or.inl hW) (fun y h1 h2 => by rw [hU]; exact hS.2.1 y h1 h2)⟩⟩ rfl hn hl.1 hst (lv_room hcat) d ⟨f1, f2⟩) hS (fun y _ h => hfree y h) hfree (fun v u t H1 locs1 ht hvm hw hB hz1 hk1 hS1 => ?_)
    obtain ⟨rfl, rfl⟩ := hw
    obtain ⟨x1, hP1, hK1, hD1⟩ := hB
    subst ht
    rw [e1, e2]
    exact (kk _ _).2 r hr _ _ ls ⟨x1, le_tr h0 hm1, hP1, hD1.weaken (fun _ _ _ h => hfree _ h), hS1⟩ hl
theorem h_callSNi {ρ : Type} {QQ : ρ × CS → State → Prop} (hsf : sfOk sf) (X : hX p s m args meth c cc nL own rt D tys sf A) {y : MethodName} {bb : ByteArray} {nz fz lz n ix : Nat} {host : String} {ret : Option FieldType} {As rest : List Value} {Fz : Option (Int32 × CS)} {K : Int32 → CS → Option (ρ × CS)} (hM : MetW l D tys sf w y bb nz ret fz lz QWi As S Fz) (cw : ∀ a0 b0 mc ms : Nat, va_CN (rmC fr lo a0 b0) s args own ix y host bb nz ret (wsM y bb nz ret) (rmC fz lz mc ms) mc ms n ∧ (Cond.static y).before args s = true ∧ True) (hn : As.length = n) (hst : st = As.reverse ++ rest) (hcat : (rest.map fun v => v.category).sum ≤ 8) (d : decode cc pc = .ok (.invokestatic ix, 3))
    (kk : ∀ v S1, hG p l e (fun r => rmC fr lo (cS r.2 - cS S0) (sS r.2 - sS S0)) s m args below meth c nL (ZW D w A s.heap S0 S1) (cS S1 - cS S0) (sS S1 - sS S0) QQ (fun r => le S1 r.2) (pc + 3) lv (.int v :: rest) (K v S1)) : hG p l e (fun r => rmC fr lo (cS r.2 - cS S0) (sS r.2 - sS S0)) s m args below meth c nL (ZW D w A s.heap S0 S) (cS S - cS S0) (sS S - sS S0) QQ (fun r => le S r.2) pc lv st (bnd Fz K) := by
  refine ⟨fun r hr => ?_, fun r hr H locs ls hz hl => ?_⟩
  · obtain ⟨a, hF, hr⟩ := bnd_some hr
    exact le_tr (hM.1 a hF) ((kk _ _).1 r hr)
  · obtain ⟨a, hF, hr⟩ := bnd_some hr
    obtain ⟨x, h0, hP, hD, hS⟩ := hz
    have hm1 := hM.1 a hF
    have hm2 := (kk a.1 a.2).1 r hr
    have hfree : ∀ y, va_A (w x S) H.size y → A y := by
      intro y hy
      rcases hy with ⟨k, e, hk⟩ | hy
      · exact hD.2 k (y, e) hk
      · exact X.2.1 y (Nat.le_trans hS.1 hy)
    have e1 : cS S - cS S0 + (cS a.2 - cS S) = cS a.2 - cS S0 := by have := h0.1; have := hm1.1; omega
    have e2 : sS S - sS S0 + (sS a.2 - sS S) = sS a.2 - sS S0 := by have := h0.2; have := hm1.2; omega
    have f1 : cS S - cS S0 + (cS a.2 - cS S) ≤ cS r.2 - cS S0 := by rw [e1]; have := hm2.1; omega
    have f2 : sS S - sS S0 + (sS a.2 - sS S) ≤ sS r.2 - sS S0 := by rw [e2]; have := hm2.2; omega
    refine va_calli (va_runSN (As := As) (rest := rest) ⟨X.1.1, X.1.2.1, X.1.2.2.1, X.1.2.2.2.1, X.1.2.2.2.2.1⟩ (hM.2 x H.size a hF) (cw _ _ _ _) ⟨PcW_blind hsf, fun U hU hW => ⟨rfl, by rw [hU], by rw [hU]; exact hP, va_K.moved hW.alike X.1.2.2.2.2.2.1, hD.weaken (fun _ _ _ _ => trivial), hsf _ _ s U X.2.2 hfree (Or.inl hW) (fun y h1 h2 => by rw [hU]; exact hS.2.1 y h1 h2)⟩⟩ rfl hn hl.1 hst (lv_room hcat) d ⟨f1, f2⟩) hS (fun y _ h => hfree y h) hfree (fun v u t H1 locs1 ht hvm hw hB hz1 hk1 hS1 => ?_)
    obtain ⟨rfl, rfl⟩ := hw
    obtain ⟨x1, hP1, hK1, hD1⟩ := hB
    subst ht
    rw [e1, e2]
    exact (kk _ _).2 r hr _ _ ls ⟨x1, le_tr h0 hm1, hP1, hD1.weaken (fun _ _ _ h => hfree _ h), hS1⟩ hl
end WR
