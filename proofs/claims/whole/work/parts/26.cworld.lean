def fs_B (q : Nat → Nat) (S : CS) : List Value := [.ref (q 0), .int (S.1 1 0), .ref (q 51), .ref (q 52), .ref (q 53), .ref (q 54), .int (S.1 2 0), .int (S.1 3 0), .int (S.1 4 0), .int (S.1 5 0)]
def fs_RD (q : Nat → Nat) (S : CS) : List Value := [.ref (q 100), .ref (q 101), .int (S.1 6 0), .int (S.1 7 0), .int (S.1 8 0), .int (S.1 9 0), .ref (q 10), .ref (q 11), .ref (q 12), .ref (q 13), .int (S.1 14 0)]
def fs_WK (q : Nat → Nat) (S : CS) : List Value := [.ref (q 53), .ref (q 102), .int (S.1 15 0), .int (S.1 16 0), .int (S.1 17 0), .ref (q 103), .ref (q 104), .ref (q 18), .int (S.1 19 0)]
def fs_IM (q : Nat → Nat) (S : CS) : List Value := [.ref (q 105), .ref (q 106), .ref (q 107), .ref (q 20)]
def wC (cI : ClassId) (q : Nat → Nat) : (Nat → Nat) → CS → va_W := fun qa S => [(q 50, .inr (4, fs_B q S)), (q 0, .inl (cI, 60, .inl (S.1 0))), (q 51, .inr (1, fs_RD q S)), (q 10, .inl (cI, 16, .inl (S.1 10))), (q 11, .inl (cI, 16, .inl (S.1 11))), (q 12, .inl (cI, 60, .inl (S.1 12))), (q 13, .inl (cI, 60, .inl (S.1 13))), (q 52, .inr (3, fs_WK q S)), (q 18, .inl (cI, 60, .inl (S.1 18))), (q 53, .inr (0, fs_IM q S)), (q 20, .inl (cI, 16, .inl (S.1 20))), (q 100, .inr (2, [.int (S.1 50 0), .int (S.1 60 0), .ref (qa 0), .int (S.1 40 0)])), (qa 0, .inl (cI, S.2 10, .inl (S.1 30))), (q 101, .inr (2, [.int (S.1 51 0), .int (S.1 61 0), .ref (qa 1), .int (S.1 41 0)])), (qa 1, .inl (cI, S.2 11, .inl (S.1 31))), (q 102, .inr (2, [.int (S.1 52 0), .int (S.1 62 0), .ref (qa 2), .int (S.1 42 0)])), (qa 2, .inl (cI, S.2 12, .inl (S.1 32))), (q 103, .inr (2, [.int (S.1 53 0), .int (S.1 63 0), .ref (qa 3), .int (S.1 43 0)])), (qa 3, .inl (cI, S.2 13, .inl (S.1 33))), (q 104, .inr (2, [.int (S.1 54 0), .int (S.1 64 0), .ref (qa 4), .int (S.1 44 0)])), (qa 4, .inl (cI, S.2 14, .inl (S.1 34))), (q 105, .inr (2, [.int (S.1 55 0), .int (S.1 65 0), .ref (qa 5), .int (S.1 45 0)])), (qa 5, .inl (cI, S.2 15, .inl (S.1 35))), (q 106, .inr (2, [.int (S.1 56 0), .int (S.1 66 0), .ref (qa 6), .int (S.1 46 0)])), (qa 6, .inl (cI, S.2 16, .inl (S.1 36))), (q 107, .inr (2, [.int (S.1 57 0), .int (S.1 67 0), .ref (qa 7), .int (S.1 47 0)])), (qa 7, .inl (cI, S.2 17, .inl (S.1 37)))]
def tOf (k : Nat) (S : CS) : CS := (fun a b => if a = 0 then S.1 (50 + k) b else if a = 1 then S.1 (60 + k) b else if a = 2 then S.1 (30 + k) b else if a = 3 then S.1 (40 + k) b else 0, fun i => if i = 0 then S.2 (10 + k) else if i = 1 then S.2 1 else if i = 2 then S.2 2 else 0)
def tIn (k : Nat) (S T : CS) : CS := (fun a b => if a = 30 + k then T.1 2 b else if a = 40 + k then T.1 3 b else if a = 50 + k then T.1 0 b else if a = 60 + k then T.1 1 b else S.1 a b, fun i => if i = 10 + k then T.2 0 else if i = 1 then T.2 1 else if i = 2 then T.2 2 else S.2 i)
def bT {α ρ : Type} (k : Nat) (S : CS) (x : Option (α × CS)) (K : α → CS → Option ρ) : Option ρ := match x with
  | none => none
  | some a => K a.1 (tIn k S a.2)
theorem bT_some {α ρ : Type} {k : Nat} {S : CS} {x : Option (α × CS)} {K : α → CS → Option ρ} {r : ρ} (h : bT k S x K = some r) : ∃ a, x = some a ∧ K a.1 (tIn k S a.2) = some r := by
  unfold bT at h
  cases x with
  | none => cases h
  | some a => exact ⟨a, rfl, h⟩
theorem le_in {S T : CS} (k : Nat) (hk : k < 8) (h : le (tOf k S) T) : le S (tIn k S T) := by
  unfold le cS sS at h ⊢
  have e1 : (1 : Nat) ≠ 10 + k := by omega
  have e2 : (2 : Nat) ≠ 10 + k := by omega
  simpa [tOf, tIn, e1, e2] using h
theorem m_bT {β γ : Type} {S : CS} {k : Nat} {x : Option (γ × CS)} {K : γ → CS → Option (β × CS)} (hx : mo (tOf k S) x) (h : ∀ v S1, mo S1 (K v S1)) (hk : k < 8 := by decide) : mo S (bT k S x K) := fun r hr => by
  obtain ⟨a, hF, hr⟩ := bT_some hr
  exact le_tr (le_in k hk (hx a hF)) (h _ _ r hr)
def tkf (j : Nat) : Int32 := [0, 0, 0, 1, 1, 1, 2, 2, 2, 2, 2, 2, 2, 2, 3, 1, 0, 0, 2].getD j 0
def tkr {ρ : Type} (i : Int32) (K : Int32 → Option ρ) : Option ρ := if i < 0 ∨ 19 ≤ i.toNatClampNeg then none else K (tkf i.toNatClampNeg)
theorem m_tkr {β : Type} {S : CS} {i : Int32} {K : Int32 → Option (β × CS)} (h : ∀ v, mo S (K v)) : mo S (tkr i K) := m_ite m_none (h _)
/-- the static row TAKES: where it lies, and what it holds -/
def SF (tk : Nat) : sfT := fun A U => va_Z "EditionBook" "TAKES" "[I" (.ref tk) A U U.heap ∧ va_T .int tk 19 (fun j => .int (tkf j)) A U U.heap ∧ va_Nw (.fieldLinkNest RX1 112 "EditionBook" "TAKES" "[I" "EditionBook") U ∧ va_Nw (.methodLinkNest RX0 46 yX4_isName "EditionBook") U ∧ va_Nw (.methodLinkNest RX1 124 yX4_isName "EditionBook") U
theorem SF_ok (tk : Nat) : sfOk (SF tk) := fun A B s U h hAB hvm hk => by
  have hal : s.vm.Alike U.vm := by
    rcases hvm with h | h
    · exact h.alike
    · rw [h]; exact Vm.Alike.refl _
  refine ⟨((h.1.kept hk).moved hal).narrow hAB, ((h.2.1.kept hk).moved hal).narrow hAB, ?_⟩
  rcases hvm with hv | hv
  · exact ⟨va_Nw.warmF hv h.2.2.1, va_Nw.warmM hv h.2.2.2.1, va_Nw.warmM hv h.2.2.2.2⟩
  · exact ⟨va_Nw.same rfl hv h.2.2.1, va_Nw.same rfl hv h.2.2.2.1, va_Nw.same rfl hv h.2.2.2.2⟩
section CW
variable {ρ : Type} {p : Program} {l : Launch} {e : Env} {s : State} {m : MethodId} {args : Array Value} {below : List Frame} {meth : Method} {c : Code}
variable {cc : ByteArray} {nL : Nat} {own : String} {rt : Option FieldType} {D : va_G} {cI : ClassId} {sf : sfT} {A : Nat → Prop} {q : Nat → Nat} {tk : Nat} {fr lo : Nat} {S0 S : CS} {QQ : ρ × CS → State → Prop} {pc : Nat} {lv : List (Nat × Value)} {st : List Value} {F : Option (ρ × CS)}
theorem c_g_B_tape (X : hX p s m args meth c cc nL own rt D (tyC cI) sf A) {ix : Nat} (hlk : Cond.fieldLink own ix "EditionBook" "tape" "[I" ∈ tt) (d : decode cc pc = .ok (.getfield ix, 3)) (kk : hG p l e (fun r => rmC fr lo (cS r.2 - cS S0) (sS r.2 - sS S0)) s m args below meth c nL (ZW D (wC cI q) A s.heap S0 S) (cS S - cS S0) (sS S - sS S0) QQ (fun r => le S r.2) (pc + 3) lv (.ref (q 0) :: st) F) : hG p l e (fun r => rmC fr lo (cS r.2 - cS S0) (sS r.2 - sS S0)) s m args below meth c nL (ZW D (wC cI q) A s.heap S0 S) (cS S - cS S0) (sS S - sS S0) QQ (fun r => le S r.2) pc lv (.ref (q 50) :: st) F := ⟨kk.1, fun r hr H locs ls hz hl => by
  obtain ⟨qa, h0, hP, hD, hS⟩ := hz
  exact va_get (D := D) (ci := 4) (C := RX4) (T := TX4) (N := 10) X.1.1 X.1.2.1 X.1.2.2.2.2.1 jX_4 X.1.2.2.2.1 X.1.2.2.2.2.2.1 hP 0 rfl rfl 0 (by decide) (X.1.2.2.2.2.1 _ hlk) (fun _ h9 => h9) rfl d (kk.2 r hr H locs ls ⟨qa, h0, hP, hD, hS⟩ hl)⟩
theorem c_g_B_onTape (X : hX p s m args meth c cc nL own rt D (tyC cI) sf A) {ix : Nat} (hlk : Cond.fieldLink own ix "EditionBook" "onTape" "I" ∈ tt) {K : Int32 → Option (ρ × CS)} (d : decode cc pc = .ok (.getfield ix, 3)) (kk : ∀ v, hG p l e (fun r => rmC fr lo (cS r.2 - cS S0) (sS r.2 - sS S0)) s m args below meth c nL (ZW D (wC cI q) A s.heap S0 S) (cS S - cS S0) (sS S - sS S0) QQ (fun r => le S r.2) (pc + 3) lv (.int v :: st) (K v)) : hG p l e (fun r => rmC fr lo (cS r.2 - cS S0) (sS r.2 - sS S0)) s m args below meth c nL (ZW D (wC cI q) A s.heap S0 S) (cS S - cS S0) (sS S - sS S0) QQ (fun r => le S r.2) pc lv (.ref (q 50) :: st) (cg S 1 K) := ⟨fun r hr => (kk _).1 r hr, fun r hr H locs ls hz hl => by
  obtain ⟨qa, h0, hP, hD, hS⟩ := hz
  exact va_get (D := D) (ci := 4) (C := RX4) (T := TX4) (N := 10) X.1.1 X.1.2.1 X.1.2.2.2.2.1 jX_4 X.1.2.2.2.1 X.1.2.2.2.2.2.1 hP 0 rfl rfl 1 (by decide) (X.1.2.2.2.2.1 _ hlk) (fun _ h9 => h9) rfl d ((kk _).2 r hr H locs ls ⟨qa, h0, hP, hD, hS⟩ hl)⟩
theorem c_e_B_onTape (cI : ClassId) (q qa : Nat → Nat) (S : CS) (v : Int32) : (wC cI q qa S).set 0 (q 50, .inr (4, (fs_B q S).set 1 (.int v))) = wC cI q qa (mS S.1 1 0 v, S.2) := rfl
theorem c_p_B_onTape (X : hX p s m args meth c cc nL own rt D (tyC cI) sf A) {ix : Nat} (hlk : Cond.fieldLink own ix "EditionBook" "onTape" "I" ∈ tt) {v : Int32} {K : CS → Option (ρ × CS)} (d : decode cc pc = .ok (.putfield ix, 3)) (kk : ∀ S1, hG p l e (fun r => rmC fr lo (cS r.2 - cS S0) (sS r.2 - sS S0)) s m args below meth c nL (ZW D (wC cI q) A s.heap S0 S1) (cS S1 - cS S0) (sS S1 - sS S0) QQ (fun r => le S1 r.2) (pc + 3) lv st (K S1)) : hG p l e (fun r => rmC fr lo (cS r.2 - cS S0) (sS r.2 - sS S0)) s m args below meth c nL (ZW D (wC cI q) A s.heap S0 S) (cS S - cS S0) (sS S - sS S0) QQ (fun r => le S r.2) pc lv (.int v :: .ref (q 50) :: st) (cp S 1 v K) := ⟨fun r hr => (kk (mS S.1 1 0 v, S.2)).1 r hr, fun r hr H locs ls hz hl => by
  obtain ⟨qa, h0, hP, hD, hS⟩ := hz
  exact va_put (D := D) (ci := 4) (v := .int v) (C := RX4) (T := TX4) (N := 10) X.1.1 X.1.2.1 X.1.2.2.2.2.1 jX_4 tyX4 tyX4_ok nmX4 X.1.2.2.2.1 X.1.2.2.2.2.2.1 hP hD hS 0 rfl rfl 1 (by decide) (X.1.2.2.2.2.1 _ hlk) (fun _ h9 => h9) rfl (tyX4_ok 1 (by decide)) rfl rfl (by show 1 < 10; decide) d (fun H1 locs1 h1 h2 h3 => (kk (mS S.1 1 0 v, S.2)).2 r hr H1 locs1 ls ⟨qa, h0, (c_e_B_onTape cI q qa S v) ▸ h1, (c_e_B_onTape cI q qa S v) ▸ h2, h3⟩ hl)⟩
theorem c_g_B_reader (X : hX p s m args meth c cc nL own rt D (tyC cI) sf A) {ix : Nat} (hlk : Cond.fieldLink own ix "EditionBook" "reader" "LEditionBook$Reader;" ∈ tt) (d : decode cc pc = .ok (.getfield ix, 3)) (kk : hG p l e (fun r => rmC fr lo (cS r.2 - cS S0) (sS r.2 - sS S0)) s m args below meth c nL (ZW D (wC cI q) A s.heap S0 S) (cS S - cS S0) (sS S - sS S0) QQ (fun r => le S r.2) (pc + 3) lv (.ref (q 51) :: st) F) : hG p l e (fun r => rmC fr lo (cS r.2 - cS S0) (sS r.2 - sS S0)) s m args below meth c nL (ZW D (wC cI q) A s.heap S0 S) (cS S - cS S0) (sS S - sS S0) QQ (fun r => le S r.2) pc lv (.ref (q 50) :: st) F := ⟨kk.1, fun r hr H locs ls hz hl => by
  obtain ⟨qa, h0, hP, hD, hS⟩ := hz
  exact va_get (D := D) (ci := 4) (C := RX4) (T := TX4) (N := 10) X.1.1 X.1.2.1 X.1.2.2.2.2.1 jX_4 X.1.2.2.2.1 X.1.2.2.2.2.2.1 hP 0 rfl rfl 2 (by decide) (X.1.2.2.2.2.1 _ hlk) (fun _ h9 => h9) rfl d (kk.2 r hr H locs ls ⟨qa, h0, hP, hD, hS⟩ hl)⟩
theorem c_g_B_worker (X : hX p s m args meth c cc nL own rt D (tyC cI) sf A) {ix : Nat} (hlk : Cond.fieldLink own ix "EditionBook" "worker" "LEditionBook$Worker;" ∈ tt) (d : decode cc pc = .ok (.getfield ix, 3)) (kk : hG p l e (fun r => rmC fr lo (cS r.2 - cS S0) (sS r.2 - sS S0)) s m args below meth c nL (ZW D (wC cI q) A s.heap S0 S) (cS S - cS S0) (sS S - sS S0) QQ (fun r => le S r.2) (pc + 3) lv (.ref (q 52) :: st) F) : hG p l e (fun r => rmC fr lo (cS r.2 - cS S0) (sS r.2 - sS S0)) s m args below meth c nL (ZW D (wC cI q) A s.heap S0 S) (cS S - cS S0) (sS S - sS S0) QQ (fun r => le S r.2) pc lv (.ref (q 50) :: st) F := ⟨kk.1, fun r hr H locs ls hz hl => by
  obtain ⟨qa, h0, hP, hD, hS⟩ := hz
  exact va_get (D := D) (ci := 4) (C := RX4) (T := TX4) (N := 10) X.1.1 X.1.2.1 X.1.2.2.2.2.1 jX_4 X.1.2.2.2.1 X.1.2.2.2.2.2.1 hP 0 rfl rfl 3 (by decide) (X.1.2.2.2.2.1 _ hlk) (fun _ h9 => h9) rfl d (kk.2 r hr H locs ls ⟨qa, h0, hP, hD, hS⟩ hl)⟩
theorem c_g_B_now (X : hX p s m args meth c cc nL own rt D (tyC cI) sf A) {ix : Nat} (hlk : Cond.fieldLink own ix "EditionBook" "now" "LEditionBook$Image;" ∈ tt) (d : decode cc pc = .ok (.getfield ix, 3)) (kk : hG p l e (fun r => rmC fr lo (cS r.2 - cS S0) (sS r.2 - sS S0)) s m args below meth c nL (ZW D (wC cI q) A s.heap S0 S) (cS S - cS S0) (sS S - sS S0) QQ (fun r => le S r.2) (pc + 3) lv (.ref (q 53) :: st) F) : hG p l e (fun r => rmC fr lo (cS r.2 - cS S0) (sS r.2 - sS S0)) s m args below meth c nL (ZW D (wC cI q) A s.heap S0 S) (cS S - cS S0) (sS S - sS S0) QQ (fun r => le S r.2) pc lv (.ref (q 50) :: st) F := ⟨kk.1, fun r hr H locs ls hz hl => by
  obtain ⟨qa, h0, hP, hD, hS⟩ := hz
  exact va_get (D := D) (ci := 4) (C := RX4) (T := TX4) (N := 10) X.1.1 X.1.2.1 X.1.2.2.2.2.1 jX_4 X.1.2.2.2.1 X.1.2.2.2.2.2.1 hP 0 rfl rfl 4 (by decide) (X.1.2.2.2.2.1 _ hlk) (fun _ h9 => h9) rfl d (kk.2 r hr H locs ls ⟨qa, h0, hP, hD, hS⟩ hl)⟩
theorem c_g_B_cameKind (X : hX p s m args meth c cc nL own rt D (tyC cI) sf A) {ix : Nat} (hlk : Cond.fieldLink own ix "EditionBook" "cameKind" "I" ∈ tt) {K : Int32 → Option (ρ × CS)} (d : decode cc pc = .ok (.getfield ix, 3)) (kk : ∀ v, hG p l e (fun r => rmC fr lo (cS r.2 - cS S0) (sS r.2 - sS S0)) s m args below meth c nL (ZW D (wC cI q) A s.heap S0 S) (cS S - cS S0) (sS S - sS S0) QQ (fun r => le S r.2) (pc + 3) lv (.int v :: st) (K v)) : hG p l e (fun r => rmC fr lo (cS r.2 - cS S0) (sS r.2 - sS S0)) s m args below meth c nL (ZW D (wC cI q) A s.heap S0 S) (cS S - cS S0) (sS S - sS S0) QQ (fun r => le S r.2) pc lv (.ref (q 50) :: st) (cg S 2 K) := ⟨fun r hr => (kk _).1 r hr, fun r hr H locs ls hz hl => by
  obtain ⟨qa, h0, hP, hD, hS⟩ := hz
  exact va_get (D := D) (ci := 4) (C := RX4) (T := TX4) (N := 10) X.1.1 X.1.2.1 X.1.2.2.2.2.1 jX_4 X.1.2.2.2.1 X.1.2.2.2.2.2.1 hP 0 rfl rfl 6 (by decide) (X.1.2.2.2.2.1 _ hlk) (fun _ h9 => h9) rfl d ((kk _).2 r hr H locs ls ⟨qa, h0, hP, hD, hS⟩ hl)⟩
theorem c_e_B_cameKind (cI : ClassId) (q qa : Nat → Nat) (S : CS) (v : Int32) : (wC cI q qa S).set 0 (q 50, .inr (4, (fs_B q S).set 6 (.int v))) = wC cI q qa (mS S.1 2 0 v, S.2) := rfl
theorem c_p_B_cameKind (X : hX p s m args meth c cc nL own rt D (tyC cI) sf A) {ix : Nat} (hlk : Cond.fieldLink own ix "EditionBook" "cameKind" "I" ∈ tt) {v : Int32} {K : CS → Option (ρ × CS)} (d : decode cc pc = .ok (.putfield ix, 3)) (kk : ∀ S1, hG p l e (fun r => rmC fr lo (cS r.2 - cS S0) (sS r.2 - sS S0)) s m args below meth c nL (ZW D (wC cI q) A s.heap S0 S1) (cS S1 - cS S0) (sS S1 - sS S0) QQ (fun r => le S1 r.2) (pc + 3) lv st (K S1)) : hG p l e (fun r => rmC fr lo (cS r.2 - cS S0) (sS r.2 - sS S0)) s m args below meth c nL (ZW D (wC cI q) A s.heap S0 S) (cS S - cS S0) (sS S - sS S0) QQ (fun r => le S r.2) pc lv (.int v :: .ref (q 50) :: st) (cp S 2 v K) := ⟨fun r hr => (kk (mS S.1 2 0 v, S.2)).1 r hr, fun r hr H locs ls hz hl => by
  obtain ⟨qa, h0, hP, hD, hS⟩ := hz
  exact va_put (D := D) (ci := 4) (v := .int v) (C := RX4) (T := TX4) (N := 10) X.1.1 X.1.2.1 X.1.2.2.2.2.1 jX_4 tyX4 tyX4_ok nmX4 X.1.2.2.2.1 X.1.2.2.2.2.2.1 hP hD hS 0 rfl rfl 6 (by decide) (X.1.2.2.2.2.1 _ hlk) (fun _ h9 => h9) rfl (tyX4_ok 6 (by decide)) rfl rfl (by show 6 < 10; decide) d (fun H1 locs1 h1 h2 h3 => (kk (mS S.1 2 0 v, S.2)).2 r hr H1 locs1 ls ⟨qa, h0, (c_e_B_cameKind cI q qa S v) ▸ h1, (c_e_B_cameKind cI q qa S v) ▸ h2, h3⟩ hl)⟩
theorem c_g_B_cameNumber (X : hX p s m args meth c cc nL own rt D (tyC cI) sf A) {ix : Nat} (hlk : Cond.fieldLink own ix "EditionBook" "cameNumber" "I" ∈ tt) {K : Int32 → Option (ρ × CS)} (d : decode cc pc = .ok (.getfield ix, 3)) (kk : ∀ v, hG p l e (fun r => rmC fr lo (cS r.2 - cS S0) (sS r.2 - sS S0)) s m args below meth c nL (ZW D (wC cI q) A s.heap S0 S) (cS S - cS S0) (sS S - sS S0) QQ (fun r => le S r.2) (pc + 3) lv (.int v :: st) (K v)) : hG p l e (fun r => rmC fr lo (cS r.2 - cS S0) (sS r.2 - sS S0)) s m args below meth c nL (ZW D (wC cI q) A s.heap S0 S) (cS S - cS S0) (sS S - sS S0) QQ (fun r => le S r.2) pc lv (.ref (q 50) :: st) (cg S 3 K) := ⟨fun r hr => (kk _).1 r hr, fun r hr H locs ls hz hl => by
  obtain ⟨qa, h0, hP, hD, hS⟩ := hz
  exact va_get (D := D) (ci := 4) (C := RX4) (T := TX4) (N := 10) X.1.1 X.1.2.1 X.1.2.2.2.2.1 jX_4 X.1.2.2.2.1 X.1.2.2.2.2.2.1 hP 0 rfl rfl 7 (by decide) (X.1.2.2.2.2.1 _ hlk) (fun _ h9 => h9) rfl d ((kk _).2 r hr H locs ls ⟨qa, h0, hP, hD, hS⟩ hl)⟩
theorem c_e_B_cameNumber (cI : ClassId) (q qa : Nat → Nat) (S : CS) (v : Int32) : (wC cI q qa S).set 0 (q 50, .inr (4, (fs_B q S).set 7 (.int v))) = wC cI q qa (mS S.1 3 0 v, S.2) := rfl
theorem c_p_B_cameNumber (X : hX p s m args meth c cc nL own rt D (tyC cI) sf A) {ix : Nat} (hlk : Cond.fieldLink own ix "EditionBook" "cameNumber" "I" ∈ tt) {v : Int32} {K : CS → Option (ρ × CS)} (d : decode cc pc = .ok (.putfield ix, 3)) (kk : ∀ S1, hG p l e (fun r => rmC fr lo (cS r.2 - cS S0) (sS r.2 - sS S0)) s m args below meth c nL (ZW D (wC cI q) A s.heap S0 S1) (cS S1 - cS S0) (sS S1 - sS S0) QQ (fun r => le S1 r.2) (pc + 3) lv st (K S1)) : hG p l e (fun r => rmC fr lo (cS r.2 - cS S0) (sS r.2 - sS S0)) s m args below meth c nL (ZW D (wC cI q) A s.heap S0 S) (cS S - cS S0) (sS S - sS S0) QQ (fun r => le S r.2) pc lv (.int v :: .ref (q 50) :: st) (cp S 3 v K) := ⟨fun r hr => (kk (mS S.1 3 0 v, S.2)).1 r hr, fun r hr H locs ls hz hl => by
  obtain ⟨qa, h0, hP, hD, hS⟩ := hz
  exact va_put (D := D) (ci := 4) (v := .int v) (C := RX4) (T := TX4) (N := 10) X.1.1 X.1.2.1 X.1.2.2.2.2.1 jX_4 tyX4 tyX4_ok nmX4 X.1.2.2.2.1 X.1.2.2.2.2.2.1 hP hD hS 0 rfl rfl 7 (by decide) (X.1.2.2.2.2.1 _ hlk) (fun _ h9 => h9) rfl (tyX4_ok 7 (by decide)) rfl rfl (by show 7 < 10; decide) d (fun H1 locs1 h1 h2 h3 => (kk (mS S.1 3 0 v, S.2)).2 r hr H1 locs1 ls ⟨qa, h0, (c_e_B_cameNumber cI q qa S v) ▸ h1, (c_e_B_cameNumber cI q qa S v) ▸ h2, h3⟩ hl)⟩
theorem c_g_B_cameFailure (X : hX p s m args meth c cc nL own rt D (tyC cI) sf A) {ix : Nat} (hlk : Cond.fieldLink own ix "EditionBook" "cameFailure" "I" ∈ tt) {K : Int32 → Option (ρ × CS)} (d : decode cc pc = .ok (.getfield ix, 3)) (kk : ∀ v, hG p l e (fun r => rmC fr lo (cS r.2 - cS S0) (sS r.2 - sS S0)) s m args below meth c nL (ZW D (wC cI q) A s.heap S0 S) (cS S - cS S0) (sS S - sS S0) QQ (fun r => le S r.2) (pc + 3) lv (.int v :: st) (K v)) : hG p l e (fun r => rmC fr lo (cS r.2 - cS S0) (sS r.2 - sS S0)) s m args below meth c nL (ZW D (wC cI q) A s.heap S0 S) (cS S - cS S0) (sS S - sS S0) QQ (fun r => le S r.2) pc lv (.ref (q 50) :: st) (cg S 4 K) := ⟨fun r hr => (kk _).1 r hr, fun r hr H locs ls hz hl => by
  obtain ⟨qa, h0, hP, hD, hS⟩ := hz
  exact va_get (D := D) (ci := 4) (C := RX4) (T := TX4) (N := 10) X.1.1 X.1.2.1 X.1.2.2.2.2.1 jX_4 X.1.2.2.2.1 X.1.2.2.2.2.2.1 hP 0 rfl rfl 8 (by decide) (X.1.2.2.2.2.1 _ hlk) (fun _ h9 => h9) rfl d ((kk _).2 r hr H locs ls ⟨qa, h0, hP, hD, hS⟩ hl)⟩
theorem c_e_B_cameFailure (cI : ClassId) (q qa : Nat → Nat) (S : CS) (v : Int32) : (wC cI q qa S).set 0 (q 50, .inr (4, (fs_B q S).set 8 (.int v))) = wC cI q qa (mS S.1 4 0 v, S.2) := rfl
theorem c_p_B_cameFailure (X : hX p s m args meth c cc nL own rt D (tyC cI) sf A) {ix : Nat} (hlk : Cond.fieldLink own ix "EditionBook" "cameFailure" "I" ∈ tt) {v : Int32} {K : CS → Option (ρ × CS)} (d : decode cc pc = .ok (.putfield ix, 3)) (kk : ∀ S1, hG p l e (fun r => rmC fr lo (cS r.2 - cS S0) (sS r.2 - sS S0)) s m args below meth c nL (ZW D (wC cI q) A s.heap S0 S1) (cS S1 - cS S0) (sS S1 - sS S0) QQ (fun r => le S1 r.2) (pc + 3) lv st (K S1)) : hG p l e (fun r => rmC fr lo (cS r.2 - cS S0) (sS r.2 - sS S0)) s m args below meth c nL (ZW D (wC cI q) A s.heap S0 S) (cS S - cS S0) (sS S - sS S0) QQ (fun r => le S r.2) pc lv (.int v :: .ref (q 50) :: st) (cp S 4 v K) := ⟨fun r hr => (kk (mS S.1 4 0 v, S.2)).1 r hr, fun r hr H locs ls hz hl => by
  obtain ⟨qa, h0, hP, hD, hS⟩ := hz
  exact va_put (D := D) (ci := 4) (v := .int v) (C := RX4) (T := TX4) (N := 10) X.1.1 X.1.2.1 X.1.2.2.2.2.1 jX_4 tyX4 tyX4_ok nmX4 X.1.2.2.2.1 X.1.2.2.2.2.2.1 hP hD hS 0 rfl rfl 8 (by decide) (X.1.2.2.2.2.1 _ hlk) (fun _ h9 => h9) rfl (tyX4_ok 8 (by decide)) rfl rfl (by show 8 < 10; decide) d (fun H1 locs1 h1 h2 h3 => (kk (mS S.1 4 0 v, S.2)).2 r hr H1 locs1 ls ⟨qa, h0, (c_e_B_cameFailure cI q qa S v) ▸ h1, (c_e_B_cameFailure cI q qa S v) ▸ h2, h3⟩ hl)⟩
theorem c_g_B_cameSteps (X : hX p s m args meth c cc nL own rt D (tyC cI) sf A) {ix : Nat} (hlk : Cond.fieldLink own ix "EditionBook" "cameSteps" "I" ∈ tt) {K : Int32 → Option (ρ × CS)} (d : decode cc pc = .ok (.getfield ix, 3)) (kk : ∀ v, hG p l e (fun r => rmC fr lo (cS r.2 - cS S0) (sS r.2 - sS S0)) s m args below meth c nL (ZW D (wC cI q) A s.heap S0 S) (cS S - cS S0) (sS S - sS S0) QQ (fun r => le S r.2) (pc + 3) lv (.int v :: st) (K v)) : hG p l e (fun r => rmC fr lo (cS r.2 - cS S0) (sS r.2 - sS S0)) s m args below meth c nL (ZW D (wC cI q) A s.heap S0 S) (cS S - cS S0) (sS S - sS S0) QQ (fun r => le S r.2) pc lv (.ref (q 50) :: st) (cg S 5 K) := ⟨fun r hr => (kk _).1 r hr, fun r hr H locs ls hz hl => by
  obtain ⟨qa, h0, hP, hD, hS⟩ := hz
  exact va_get (D := D) (ci := 4) (C := RX4) (T := TX4) (N := 10) X.1.1 X.1.2.1 X.1.2.2.2.2.1 jX_4 X.1.2.2.2.1 X.1.2.2.2.2.2.1 hP 0 rfl rfl 9 (by decide) (X.1.2.2.2.2.1 _ hlk) (fun _ h9 => h9) rfl d ((kk _).2 r hr H locs ls ⟨qa, h0, hP, hD, hS⟩ hl)⟩
theorem c_e_B_cameSteps (cI : ClassId) (q qa : Nat → Nat) (S : CS) (v : Int32) : (wC cI q qa S).set 0 (q 50, .inr (4, (fs_B q S).set 9 (.int v))) = wC cI q qa (mS S.1 5 0 v, S.2) := rfl
theorem c_p_B_cameSteps (X : hX p s m args meth c cc nL own rt D (tyC cI) sf A) {ix : Nat} (hlk : Cond.fieldLink own ix "EditionBook" "cameSteps" "I" ∈ tt) {v : Int32} {K : CS → Option (ρ × CS)} (d : decode cc pc = .ok (.putfield ix, 3)) (kk : ∀ S1, hG p l e (fun r => rmC fr lo (cS r.2 - cS S0) (sS r.2 - sS S0)) s m args below meth c nL (ZW D (wC cI q) A s.heap S0 S1) (cS S1 - cS S0) (sS S1 - sS S0) QQ (fun r => le S1 r.2) (pc + 3) lv st (K S1)) : hG p l e (fun r => rmC fr lo (cS r.2 - cS S0) (sS r.2 - sS S0)) s m args below meth c nL (ZW D (wC cI q) A s.heap S0 S) (cS S - cS S0) (sS S - sS S0) QQ (fun r => le S r.2) pc lv (.int v :: .ref (q 50) :: st) (cp S 5 v K) := ⟨fun r hr => (kk (mS S.1 5 0 v, S.2)).1 r hr, fun r hr H locs ls hz hl => by
  obtain ⟨qa, h0, hP, hD, hS⟩ := hz
  exact va_put (D := D) (ci := 4) (v := .int v) (C := RX4) (T := TX4) (N := 10) X.1.1 X.1.2.1 X.1.2.2.2.2.1 jX_4 tyX4 tyX4_ok nmX4 X.1.2.2.2.1 X.1.2.2.2.2.2.1 hP hD hS 0 rfl rfl 9 (by decide) (X.1.2.2.2.2.1 _ hlk) (fun _ h9 => h9) rfl (tyX4_ok 9 (by decide)) rfl rfl (by show 9 < 10; decide) d (fun H1 locs1 h1 h2 h3 => (kk (mS S.1 5 0 v, S.2)).2 r hr H1 locs1 ls ⟨qa, h0, (c_e_B_cameSteps cI q qa S v) ▸ h1, (c_e_B_cameSteps cI q qa S v) ▸ h2, h3⟩ hl)⟩
theorem c_g_RD_fields (X : hX p s m args meth c cc nL own rt D (tyC cI) sf A) {ix : Nat} (hlk : Cond.fieldLink own ix "EditionBook$Reader" "fields" "LEditionBook$Table;" ∈ tt) (d : decode cc pc = .ok (.getfield ix, 3)) (kk : hG p l e (fun r => rmC fr lo (cS r.2 - cS S0) (sS r.2 - sS S0)) s m args below meth c nL (ZW D (wC cI q) A s.heap S0 S) (cS S - cS S0) (sS S - sS S0) QQ (fun r => le S r.2) (pc + 3) lv (.ref (q 100) :: st) F) : hG p l e (fun r => rmC fr lo (cS r.2 - cS S0) (sS r.2 - sS S0)) s m args below meth c nL (ZW D (wC cI q) A s.heap S0 S) (cS S - cS S0) (sS S - sS S0) QQ (fun r => le S r.2) pc lv (.ref (q 51) :: st) F := ⟨kk.1, fun r hr H locs ls hz hl => by
  obtain ⟨qa, h0, hP, hD, hS⟩ := hz
  exact va_get (D := D) (ci := 1) (C := RX1) (T := TX1) (N := 11) X.1.1 X.1.2.1 X.1.2.2.2.2.1 jX_1 X.1.2.2.2.1 X.1.2.2.2.2.2.1 hP 2 rfl rfl 0 (by decide) (X.1.2.2.2.2.1 _ hlk) (fun _ h9 => h9) rfl d (kk.2 r hr H locs ls ⟨qa, h0, hP, hD, hS⟩ hl)⟩
theorem c_g_RD_methods (X : hX p s m args meth c cc nL own rt D (tyC cI) sf A) {ix : Nat} (hlk : Cond.fieldLink own ix "EditionBook$Reader" "methods" "LEditionBook$Table;" ∈ tt) (d : decode cc pc = .ok (.getfield ix, 3)) (kk : hG p l e (fun r => rmC fr lo (cS r.2 - cS S0) (sS r.2 - sS S0)) s m args below meth c nL (ZW D (wC cI q) A s.heap S0 S) (cS S - cS S0) (sS S - sS S0) QQ (fun r => le S r.2) (pc + 3) lv (.ref (q 101) :: st) F) : hG p l e (fun r => rmC fr lo (cS r.2 - cS S0) (sS r.2 - sS S0)) s m args below meth c nL (ZW D (wC cI q) A s.heap S0 S) (cS S - cS S0) (sS S - sS S0) QQ (fun r => le S r.2) pc lv (.ref (q 51) :: st) F := ⟨kk.1, fun r hr H locs ls hz hl => by
  obtain ⟨qa, h0, hP, hD, hS⟩ := hz
  exact va_get (D := D) (ci := 1) (C := RX1) (T := TX1) (N := 11) X.1.1 X.1.2.1 X.1.2.2.2.2.1 jX_1 X.1.2.2.2.1 X.1.2.2.2.2.2.1 hP 2 rfl rfl 1 (by decide) (X.1.2.2.2.2.1 _ hlk) (fun _ h9 => h9) rfl d (kk.2 r hr H locs ls ⟨qa, h0, hP, hD, hS⟩ hl)⟩
theorem c_g_RD_length (X : hX p s m args meth c cc nL own rt D (tyC cI) sf A) {ix : Nat} (hlk : Cond.fieldLink own ix "EditionBook$Reader" "length" "I" ∈ tt) {K : Int32 → Option (ρ × CS)} (d : decode cc pc = .ok (.getfield ix, 3)) (kk : ∀ v, hG p l e (fun r => rmC fr lo (cS r.2 - cS S0) (sS r.2 - sS S0)) s m args below meth c nL (ZW D (wC cI q) A s.heap S0 S) (cS S - cS S0) (sS S - sS S0) QQ (fun r => le S r.2) (pc + 3) lv (.int v :: st) (K v)) : hG p l e (fun r => rmC fr lo (cS r.2 - cS S0) (sS r.2 - sS S0)) s m args below meth c nL (ZW D (wC cI q) A s.heap S0 S) (cS S - cS S0) (sS S - sS S0) QQ (fun r => le S r.2) pc lv (.ref (q 51) :: st) (cg S 6 K) := ⟨fun r hr => (kk _).1 r hr, fun r hr H locs ls hz hl => by
  obtain ⟨qa, h0, hP, hD, hS⟩ := hz
  exact va_get (D := D) (ci := 1) (C := RX1) (T := TX1) (N := 11) X.1.1 X.1.2.1 X.1.2.2.2.2.1 jX_1 X.1.2.2.2.1 X.1.2.2.2.2.2.1 hP 2 rfl rfl 2 (by decide) (X.1.2.2.2.2.1 _ hlk) (fun _ h9 => h9) rfl d ((kk _).2 r hr H locs ls ⟨qa, h0, hP, hD, hS⟩ hl)⟩
theorem c_e_RD_length (cI : ClassId) (q qa : Nat → Nat) (S : CS) (v : Int32) : (wC cI q qa S).set 2 (q 51, .inr (1, (fs_RD q S).set 2 (.int v))) = wC cI q qa (mS S.1 6 0 v, S.2) := rfl
theorem c_p_RD_length (X : hX p s m args meth c cc nL own rt D (tyC cI) sf A) {ix : Nat} (hlk : Cond.fieldLink own ix "EditionBook$Reader" "length" "I" ∈ tt) {v : Int32} {K : CS → Option (ρ × CS)} (d : decode cc pc = .ok (.putfield ix, 3)) (kk : ∀ S1, hG p l e (fun r => rmC fr lo (cS r.2 - cS S0) (sS r.2 - sS S0)) s m args below meth c nL (ZW D (wC cI q) A s.heap S0 S1) (cS S1 - cS S0) (sS S1 - sS S0) QQ (fun r => le S1 r.2) (pc + 3) lv st (K S1)) : hG p l e (fun r => rmC fr lo (cS r.2 - cS S0) (sS r.2 - sS S0)) s m args below meth c nL (ZW D (wC cI q) A s.heap S0 S) (cS S - cS S0) (sS S - sS S0) QQ (fun r => le S r.2) pc lv (.int v :: .ref (q 51) :: st) (cp S 6 v K) := ⟨fun r hr => (kk (mS S.1 6 0 v, S.2)).1 r hr, fun r hr H locs ls hz hl => by
  obtain ⟨qa, h0, hP, hD, hS⟩ := hz
  exact va_put (D := D) (ci := 1) (v := .int v) (C := RX1) (T := TX1) (N := 11) X.1.1 X.1.2.1 X.1.2.2.2.2.1 jX_1 tyX1 tyX1_ok nmX1 X.1.2.2.2.1 X.1.2.2.2.2.2.1 hP hD hS 2 rfl rfl 2 (by decide) (X.1.2.2.2.2.1 _ hlk) (fun _ h9 => h9) rfl (tyX1_ok 2 (by decide)) rfl rfl (by show 2 < 11; decide) d (fun H1 locs1 h1 h2 h3 => (kk (mS S.1 6 0 v, S.2)).2 r hr H1 locs1 ls ⟨qa, h0, (c_e_RD_length cI q qa S v) ▸ h1, (c_e_RD_length cI q qa S v) ▸ h2, h3⟩ hl)⟩
theorem c_g_RD_used (X : hX p s m args meth c cc nL own rt D (tyC cI) sf A) {ix : Nat} (hlk : Cond.fieldLink own ix "EditionBook$Reader" "used" "I" ∈ tt) {K : Int32 → Option (ρ × CS)} (d : decode cc pc = .ok (.getfield ix, 3)) (kk : ∀ v, hG p l e (fun r => rmC fr lo (cS r.2 - cS S0) (sS r.2 - sS S0)) s m args below meth c nL (ZW D (wC cI q) A s.heap S0 S) (cS S - cS S0) (sS S - sS S0) QQ (fun r => le S r.2) (pc + 3) lv (.int v :: st) (K v)) : hG p l e (fun r => rmC fr lo (cS r.2 - cS S0) (sS r.2 - sS S0)) s m args below meth c nL (ZW D (wC cI q) A s.heap S0 S) (cS S - cS S0) (sS S - sS S0) QQ (fun r => le S r.2) pc lv (.ref (q 51) :: st) (cg S 7 K) := ⟨fun r hr => (kk _).1 r hr, fun r hr H locs ls hz hl => by
  obtain ⟨qa, h0, hP, hD, hS⟩ := hz
  exact va_get (D := D) (ci := 1) (C := RX1) (T := TX1) (N := 11) X.1.1 X.1.2.1 X.1.2.2.2.2.1 jX_1 X.1.2.2.2.1 X.1.2.2.2.2.2.1 hP 2 rfl rfl 3 (by decide) (X.1.2.2.2.2.1 _ hlk) (fun _ h9 => h9) rfl d ((kk _).2 r hr H locs ls ⟨qa, h0, hP, hD, hS⟩ hl)⟩
theorem c_e_RD_used (cI : ClassId) (q qa : Nat → Nat) (S : CS) (v : Int32) : (wC cI q qa S).set 2 (q 51, .inr (1, (fs_RD q S).set 3 (.int v))) = wC cI q qa (mS S.1 7 0 v, S.2) := rfl
theorem c_p_RD_used (X : hX p s m args meth c cc nL own rt D (tyC cI) sf A) {ix : Nat} (hlk : Cond.fieldLink own ix "EditionBook$Reader" "used" "I" ∈ tt) {v : Int32} {K : CS → Option (ρ × CS)} (d : decode cc pc = .ok (.putfield ix, 3)) (kk : ∀ S1, hG p l e (fun r => rmC fr lo (cS r.2 - cS S0) (sS r.2 - sS S0)) s m args below meth c nL (ZW D (wC cI q) A s.heap S0 S1) (cS S1 - cS S0) (sS S1 - sS S0) QQ (fun r => le S1 r.2) (pc + 3) lv st (K S1)) : hG p l e (fun r => rmC fr lo (cS r.2 - cS S0) (sS r.2 - sS S0)) s m args below meth c nL (ZW D (wC cI q) A s.heap S0 S) (cS S - cS S0) (sS S - sS S0) QQ (fun r => le S r.2) pc lv (.int v :: .ref (q 51) :: st) (cp S 7 v K) := ⟨fun r hr => (kk (mS S.1 7 0 v, S.2)).1 r hr, fun r hr H locs ls hz hl => by
  obtain ⟨qa, h0, hP, hD, hS⟩ := hz
  exact va_put (D := D) (ci := 1) (v := .int v) (C := RX1) (T := TX1) (N := 11) X.1.1 X.1.2.1 X.1.2.2.2.2.1 jX_1 tyX1 tyX1_ok nmX1 X.1.2.2.2.1 X.1.2.2.2.2.2.1 hP hD hS 2 rfl rfl 3 (by decide) (X.1.2.2.2.2.1 _ hlk) (fun _ h9 => h9) rfl (tyX1_ok 3 (by decide)) rfl rfl (by show 3 < 11; decide) d (fun H1 locs1 h1 h2 h3 => (kk (mS S.1 7 0 v, S.2)).2 r hr H1 locs1 ls ⟨qa, h0, (c_e_RD_used cI q qa S v) ▸ h1, (c_e_RD_used cI q qa S v) ▸ h2, h3⟩ hl)⟩
theorem c_g_RD_parent (X : hX p s m args meth c cc nL own rt D (tyC cI) sf A) {ix : Nat} (hlk : Cond.fieldLink own ix "EditionBook$Reader" "parent" "I" ∈ tt) {K : Int32 → Option (ρ × CS)} (d : decode cc pc = .ok (.getfield ix, 3)) (kk : ∀ v, hG p l e (fun r => rmC fr lo (cS r.2 - cS S0) (sS r.2 - sS S0)) s m args below meth c nL (ZW D (wC cI q) A s.heap S0 S) (cS S - cS S0) (sS S - sS S0) QQ (fun r => le S r.2) (pc + 3) lv (.int v :: st) (K v)) : hG p l e (fun r => rmC fr lo (cS r.2 - cS S0) (sS r.2 - sS S0)) s m args below meth c nL (ZW D (wC cI q) A s.heap S0 S) (cS S - cS S0) (sS S - sS S0) QQ (fun r => le S r.2) pc lv (.ref (q 51) :: st) (cg S 8 K) := ⟨fun r hr => (kk _).1 r hr, fun r hr H locs ls hz hl => by
  obtain ⟨qa, h0, hP, hD, hS⟩ := hz
  exact va_get (D := D) (ci := 1) (C := RX1) (T := TX1) (N := 11) X.1.1 X.1.2.1 X.1.2.2.2.2.1 jX_1 X.1.2.2.2.1 X.1.2.2.2.2.2.1 hP 2 rfl rfl 4 (by decide) (X.1.2.2.2.2.1 _ hlk) (fun _ h9 => h9) rfl d ((kk _).2 r hr H locs ls ⟨qa, h0, hP, hD, hS⟩ hl)⟩
theorem c_e_RD_parent (cI : ClassId) (q qa : Nat → Nat) (S : CS) (v : Int32) : (wC cI q qa S).set 2 (q 51, .inr (1, (fs_RD q S).set 4 (.int v))) = wC cI q qa (mS S.1 8 0 v, S.2) := rfl
theorem c_p_RD_parent (X : hX p s m args meth c cc nL own rt D (tyC cI) sf A) {ix : Nat} (hlk : Cond.fieldLink own ix "EditionBook$Reader" "parent" "I" ∈ tt) {v : Int32} {K : CS → Option (ρ × CS)} (d : decode cc pc = .ok (.putfield ix, 3)) (kk : ∀ S1, hG p l e (fun r => rmC fr lo (cS r.2 - cS S0) (sS r.2 - sS S0)) s m args below meth c nL (ZW D (wC cI q) A s.heap S0 S1) (cS S1 - cS S0) (sS S1 - sS S0) QQ (fun r => le S1 r.2) (pc + 3) lv st (K S1)) : hG p l e (fun r => rmC fr lo (cS r.2 - cS S0) (sS r.2 - sS S0)) s m args below meth c nL (ZW D (wC cI q) A s.heap S0 S) (cS S - cS S0) (sS S - sS S0) QQ (fun r => le S r.2) pc lv (.int v :: .ref (q 51) :: st) (cp S 8 v K) := ⟨fun r hr => (kk (mS S.1 8 0 v, S.2)).1 r hr, fun r hr H locs ls hz hl => by
  obtain ⟨qa, h0, hP, hD, hS⟩ := hz
  exact va_put (D := D) (ci := 1) (v := .int v) (C := RX1) (T := TX1) (N := 11) X.1.1 X.1.2.1 X.1.2.2.2.2.1 jX_1 tyX1 tyX1_ok nmX1 X.1.2.2.2.1 X.1.2.2.2.2.2.1 hP hD hS 2 rfl rfl 4 (by decide) (X.1.2.2.2.2.1 _ hlk) (fun _ h9 => h9) rfl (tyX1_ok 4 (by decide)) rfl rfl (by show 4 < 11; decide) d (fun H1 locs1 h1 h2 h3 => (kk (mS S.1 8 0 v, S.2)).2 r hr H1 locs1 ls ⟨qa, h0, (c_e_RD_parent cI q qa S v) ▸ h1, (c_e_RD_parent cI q qa S v) ▸ h2, h3⟩ hl)⟩
theorem c_g_RD_startFrom (X : hX p s m args meth c cc nL own rt D (tyC cI) sf A) {ix : Nat} (hlk : Cond.fieldLink own ix "EditionBook$Reader" "startFrom" "I" ∈ tt) {K : Int32 → Option (ρ × CS)} (d : decode cc pc = .ok (.getfield ix, 3)) (kk : ∀ v, hG p l e (fun r => rmC fr lo (cS r.2 - cS S0) (sS r.2 - sS S0)) s m args below meth c nL (ZW D (wC cI q) A s.heap S0 S) (cS S - cS S0) (sS S - sS S0) QQ (fun r => le S r.2) (pc + 3) lv (.int v :: st) (K v)) : hG p l e (fun r => rmC fr lo (cS r.2 - cS S0) (sS r.2 - sS S0)) s m args below meth c nL (ZW D (wC cI q) A s.heap S0 S) (cS S - cS S0) (sS S - sS S0) QQ (fun r => le S r.2) pc lv (.ref (q 51) :: st) (cg S 9 K) := ⟨fun r hr => (kk _).1 r hr, fun r hr H locs ls hz hl => by
  obtain ⟨qa, h0, hP, hD, hS⟩ := hz
  exact va_get (D := D) (ci := 1) (C := RX1) (T := TX1) (N := 11) X.1.1 X.1.2.1 X.1.2.2.2.2.1 jX_1 X.1.2.2.2.1 X.1.2.2.2.2.2.1 hP 2 rfl rfl 5 (by decide) (X.1.2.2.2.2.1 _ hlk) (fun _ h9 => h9) rfl d ((kk _).2 r hr H locs ls ⟨qa, h0, hP, hD, hS⟩ hl)⟩
theorem c_e_RD_startFrom (cI : ClassId) (q qa : Nat → Nat) (S : CS) (v : Int32) : (wC cI q qa S).set 2 (q 51, .inr (1, (fs_RD q S).set 5 (.int v))) = wC cI q qa (mS S.1 9 0 v, S.2) := rfl
theorem c_p_RD_startFrom (X : hX p s m args meth c cc nL own rt D (tyC cI) sf A) {ix : Nat} (hlk : Cond.fieldLink own ix "EditionBook$Reader" "startFrom" "I" ∈ tt) {v : Int32} {K : CS → Option (ρ × CS)} (d : decode cc pc = .ok (.putfield ix, 3)) (kk : ∀ S1, hG p l e (fun r => rmC fr lo (cS r.2 - cS S0) (sS r.2 - sS S0)) s m args below meth c nL (ZW D (wC cI q) A s.heap S0 S1) (cS S1 - cS S0) (sS S1 - sS S0) QQ (fun r => le S1 r.2) (pc + 3) lv st (K S1)) : hG p l e (fun r => rmC fr lo (cS r.2 - cS S0) (sS r.2 - sS S0)) s m args below meth c nL (ZW D (wC cI q) A s.heap S0 S) (cS S - cS S0) (sS S - sS S0) QQ (fun r => le S r.2) pc lv (.int v :: .ref (q 51) :: st) (cp S 9 v K) := ⟨fun r hr => (kk (mS S.1 9 0 v, S.2)).1 r hr, fun r hr H locs ls hz hl => by
  obtain ⟨qa, h0, hP, hD, hS⟩ := hz
  exact va_put (D := D) (ci := 1) (v := .int v) (C := RX1) (T := TX1) (N := 11) X.1.1 X.1.2.1 X.1.2.2.2.2.1 jX_1 tyX1 tyX1_ok nmX1 X.1.2.2.2.1 X.1.2.2.2.2.2.1 hP hD hS 2 rfl rfl 5 (by decide) (X.1.2.2.2.2.1 _ hlk) (fun _ h9 => h9) rfl (tyX1_ok 5 (by decide)) rfl rfl (by show 5 < 11; decide) d (fun H1 locs1 h1 h2 h3 => (kk (mS S.1 9 0 v, S.2)).2 r hr H1 locs1 ls ⟨qa, h0, (c_e_RD_startFrom cI q qa S v) ▸ h1, (c_e_RD_startFrom cI q qa S v) ▸ h2, h3⟩ hl)⟩
theorem c_g_RD_newest (X : hX p s m args meth c cc nL own rt D (tyC cI) sf A) {ix : Nat} (hlk : Cond.fieldLink own ix "EditionBook$Reader" "newest" "[I" ∈ tt) (d : decode cc pc = .ok (.getfield ix, 3)) (kk : hG p l e (fun r => rmC fr lo (cS r.2 - cS S0) (sS r.2 - sS S0)) s m args below meth c nL (ZW D (wC cI q) A s.heap S0 S) (cS S - cS S0) (sS S - sS S0) QQ (fun r => le S r.2) (pc + 3) lv (.ref (q 10) :: st) F) : hG p l e (fun r => rmC fr lo (cS r.2 - cS S0) (sS r.2 - sS S0)) s m args below meth c nL (ZW D (wC cI q) A s.heap S0 S) (cS S - cS S0) (sS S - sS S0) QQ (fun r => le S r.2) pc lv (.ref (q 51) :: st) F := ⟨kk.1, fun r hr H locs ls hz hl => by
  obtain ⟨qa, h0, hP, hD, hS⟩ := hz
  exact va_get (D := D) (ci := 1) (C := RX1) (T := TX1) (N := 11) X.1.1 X.1.2.1 X.1.2.2.2.2.1 jX_1 X.1.2.2.2.1 X.1.2.2.2.2.2.1 hP 2 rfl rfl 6 (by decide) (X.1.2.2.2.2.1 _ hlk) (fun _ h9 => h9) rfl d (kk.2 r hr H locs ls ⟨qa, h0, hP, hD, hS⟩ hl)⟩
theorem c_g_RD_sorts (X : hX p s m args meth c cc nL own rt D (tyC cI) sf A) {ix : Nat} (hlk : Cond.fieldLink own ix "EditionBook$Reader" "sorts" "[I" ∈ tt) (d : decode cc pc = .ok (.getfield ix, 3)) (kk : hG p l e (fun r => rmC fr lo (cS r.2 - cS S0) (sS r.2 - sS S0)) s m args below meth c nL (ZW D (wC cI q) A s.heap S0 S) (cS S - cS S0) (sS S - sS S0) QQ (fun r => le S r.2) (pc + 3) lv (.ref (q 11) :: st) F) : hG p l e (fun r => rmC fr lo (cS r.2 - cS S0) (sS r.2 - sS S0)) s m args below meth c nL (ZW D (wC cI q) A s.heap S0 S) (cS S - cS S0) (sS S - sS S0) QQ (fun r => le S r.2) pc lv (.ref (q 51) :: st) F := ⟨kk.1, fun r hr H locs ls hz hl => by
  obtain ⟨qa, h0, hP, hD, hS⟩ := hz
  exact va_get (D := D) (ci := 1) (C := RX1) (T := TX1) (N := 11) X.1.1 X.1.2.1 X.1.2.2.2.2.1 jX_1 X.1.2.2.2.1 X.1.2.2.2.2.2.1 hP 2 rfl rfl 7 (by decide) (X.1.2.2.2.2.1 _ hlk) (fun _ h9 => h9) rfl d (kk.2 r hr H locs ls ⟨qa, h0, hP, hD, hS⟩ hl)⟩
theorem c_g_RD_text (X : hX p s m args meth c cc nL own rt D (tyC cI) sf A) {ix : Nat} (hlk : Cond.fieldLink own ix "EditionBook$Reader" "text" "[I" ∈ tt) (d : decode cc pc = .ok (.getfield ix, 3)) (kk : hG p l e (fun r => rmC fr lo (cS r.2 - cS S0) (sS r.2 - sS S0)) s m args below meth c nL (ZW D (wC cI q) A s.heap S0 S) (cS S - cS S0) (sS S - sS S0) QQ (fun r => le S r.2) (pc + 3) lv (.ref (q 12) :: st) F) : hG p l e (fun r => rmC fr lo (cS r.2 - cS S0) (sS r.2 - sS S0)) s m args below meth c nL (ZW D (wC cI q) A s.heap S0 S) (cS S - cS S0) (sS S - sS S0) QQ (fun r => le S r.2) pc lv (.ref (q 51) :: st) F := ⟨kk.1, fun r hr H locs ls hz hl => by
  obtain ⟨qa, h0, hP, hD, hS⟩ := hz
  exact va_get (D := D) (ci := 1) (C := RX1) (T := TX1) (N := 11) X.1.1 X.1.2.1 X.1.2.2.2.2.1 jX_1 X.1.2.2.2.1 X.1.2.2.2.2.2.1 hP 2 rfl rfl 8 (by decide) (X.1.2.2.2.2.1 _ hlk) (fun _ h9 => h9) rfl d (kk.2 r hr H locs ls ⟨qa, h0, hP, hD, hS⟩ hl)⟩
theorem c_g_RD_bound (X : hX p s m args meth c cc nL own rt D (tyC cI) sf A) {ix : Nat} (hlk : Cond.fieldLink own ix "EditionBook$Reader" "bound" "[I" ∈ tt) (d : decode cc pc = .ok (.getfield ix, 3)) (kk : hG p l e (fun r => rmC fr lo (cS r.2 - cS S0) (sS r.2 - sS S0)) s m args below meth c nL (ZW D (wC cI q) A s.heap S0 S) (cS S - cS S0) (sS S - sS S0) QQ (fun r => le S r.2) (pc + 3) lv (.ref (q 13) :: st) F) : hG p l e (fun r => rmC fr lo (cS r.2 - cS S0) (sS r.2 - sS S0)) s m args below meth c nL (ZW D (wC cI q) A s.heap S0 S) (cS S - cS S0) (sS S - sS S0) QQ (fun r => le S r.2) pc lv (.ref (q 51) :: st) F := ⟨kk.1, fun r hr H locs ls hz hl => by
  obtain ⟨qa, h0, hP, hD, hS⟩ := hz
  exact va_get (D := D) (ci := 1) (C := RX1) (T := TX1) (N := 11) X.1.1 X.1.2.1 X.1.2.2.2.2.1 jX_1 X.1.2.2.2.1 X.1.2.2.2.2.2.1 hP 2 rfl rfl 9 (by decide) (X.1.2.2.2.2.1 _ hlk) (fun _ h9 => h9) rfl d (kk.2 r hr H locs ls ⟨qa, h0, hP, hD, hS⟩ hl)⟩
theorem c_g_RD_at (X : hX p s m args meth c cc nL own rt D (tyC cI) sf A) {ix : Nat} (hlk : Cond.fieldLink own ix "EditionBook$Reader" "at" "I" ∈ tt) {K : Int32 → Option (ρ × CS)} (d : decode cc pc = .ok (.getfield ix, 3)) (kk : ∀ v, hG p l e (fun r => rmC fr lo (cS r.2 - cS S0) (sS r.2 - sS S0)) s m args below meth c nL (ZW D (wC cI q) A s.heap S0 S) (cS S - cS S0) (sS S - sS S0) QQ (fun r => le S r.2) (pc + 3) lv (.int v :: st) (K v)) : hG p l e (fun r => rmC fr lo (cS r.2 - cS S0) (sS r.2 - sS S0)) s m args below meth c nL (ZW D (wC cI q) A s.heap S0 S) (cS S - cS S0) (sS S - sS S0) QQ (fun r => le S r.2) pc lv (.ref (q 51) :: st) (cg S 14 K) := ⟨fun r hr => (kk _).1 r hr, fun r hr H locs ls hz hl => by
  obtain ⟨qa, h0, hP, hD, hS⟩ := hz
  exact va_get (D := D) (ci := 1) (C := RX1) (T := TX1) (N := 11) X.1.1 X.1.2.1 X.1.2.2.2.2.1 jX_1 X.1.2.2.2.1 X.1.2.2.2.2.2.1 hP 2 rfl rfl 10 (by decide) (X.1.2.2.2.2.1 _ hlk) (fun _ h9 => h9) rfl d ((kk _).2 r hr H locs ls ⟨qa, h0, hP, hD, hS⟩ hl)⟩
theorem c_e_RD_at (cI : ClassId) (q qa : Nat → Nat) (S : CS) (v : Int32) : (wC cI q qa S).set 2 (q 51, .inr (1, (fs_RD q S).set 10 (.int v))) = wC cI q qa (mS S.1 14 0 v, S.2) := rfl
theorem c_p_RD_at (X : hX p s m args meth c cc nL own rt D (tyC cI) sf A) {ix : Nat} (hlk : Cond.fieldLink own ix "EditionBook$Reader" "at" "I" ∈ tt) {v : Int32} {K : CS → Option (ρ × CS)} (d : decode cc pc = .ok (.putfield ix, 3)) (kk : ∀ S1, hG p l e (fun r => rmC fr lo (cS r.2 - cS S0) (sS r.2 - sS S0)) s m args below meth c nL (ZW D (wC cI q) A s.heap S0 S1) (cS S1 - cS S0) (sS S1 - sS S0) QQ (fun r => le S1 r.2) (pc + 3) lv st (K S1)) : hG p l e (fun r => rmC fr lo (cS r.2 - cS S0) (sS r.2 - sS S0)) s m args below meth c nL (ZW D (wC cI q) A s.heap S0 S) (cS S - cS S0) (sS S - sS S0) QQ (fun r => le S r.2) pc lv (.int v :: .ref (q 51) :: st) (cp S 14 v K) := ⟨fun r hr => (kk (mS S.1 14 0 v, S.2)).1 r hr, fun r hr H locs ls hz hl => by
  obtain ⟨qa, h0, hP, hD, hS⟩ := hz
  exact va_put (D := D) (ci := 1) (v := .int v) (C := RX1) (T := TX1) (N := 11) X.1.1 X.1.2.1 X.1.2.2.2.2.1 jX_1 tyX1 tyX1_ok nmX1 X.1.2.2.2.1 X.1.2.2.2.2.2.1 hP hD hS 2 rfl rfl 10 (by decide) (X.1.2.2.2.2.1 _ hlk) (fun _ h9 => h9) rfl (tyX1_ok 10 (by decide)) rfl rfl (by show 10 < 11; decide) d (fun H1 locs1 h1 h2 h3 => (kk (mS S.1 14 0 v, S.2)).2 r hr H1 locs1 ls ⟨qa, h0, (c_e_RD_at cI q qa S v) ▸ h1, (c_e_RD_at cI q qa S v) ▸ h2, h3⟩ hl)⟩
theorem c_g_WK_book (X : hX p s m args meth c cc nL own rt D (tyC cI) sf A) {ix : Nat} (hlk : Cond.fieldLink own ix "EditionBook$Worker" "book" "LEditionBook$Image;" ∈ tt) (d : decode cc pc = .ok (.getfield ix, 3)) (kk : hG p l e (fun r => rmC fr lo (cS r.2 - cS S0) (sS r.2 - sS S0)) s m args below meth c nL (ZW D (wC cI q) A s.heap S0 S) (cS S - cS S0) (sS S - sS S0) QQ (fun r => le S r.2) (pc + 3) lv (.ref (q 53) :: st) F) : hG p l e (fun r => rmC fr lo (cS r.2 - cS S0) (sS r.2 - sS S0)) s m args below meth c nL (ZW D (wC cI q) A s.heap S0 S) (cS S - cS S0) (sS S - sS S0) QQ (fun r => le S r.2) pc lv (.ref (q 52) :: st) F := ⟨kk.1, fun r hr H locs ls hz hl => by
  obtain ⟨qa, h0, hP, hD, hS⟩ := hz
  exact va_get (D := D) (ci := 3) (C := RX3) (T := TX3) (N := 9) X.1.1 X.1.2.1 X.1.2.2.2.2.1 jX_3 X.1.2.2.2.1 X.1.2.2.2.2.2.1 hP 7 rfl rfl 0 (by decide) (X.1.2.2.2.2.1 _ hlk) (fun _ h9 => h9) rfl d (kk.2 r hr H locs ls ⟨qa, h0, hP, hD, hS⟩ hl)⟩
theorem c_g_WK_written (X : hX p s m args meth c cc nL own rt D (tyC cI) sf A) {ix : Nat} (hlk : Cond.fieldLink own ix "EditionBook$Worker" "written" "LEditionBook$Table;" ∈ tt) (d : decode cc pc = .ok (.getfield ix, 3)) (kk : hG p l e (fun r => rmC fr lo (cS r.2 - cS S0) (sS r.2 - sS S0)) s m args below meth c nL (ZW D (wC cI q) A s.heap S0 S) (cS S - cS S0) (sS S - sS S0) QQ (fun r => le S r.2) (pc + 3) lv (.ref (q 102) :: st) F) : hG p l e (fun r => rmC fr lo (cS r.2 - cS S0) (sS r.2 - sS S0)) s m args below meth c nL (ZW D (wC cI q) A s.heap S0 S) (cS S - cS S0) (sS S - sS S0) QQ (fun r => le S r.2) pc lv (.ref (q 52) :: st) F := ⟨kk.1, fun r hr H locs ls hz hl => by
  obtain ⟨qa, h0, hP, hD, hS⟩ := hz
  exact va_get (D := D) (ci := 3) (C := RX3) (T := TX3) (N := 9) X.1.1 X.1.2.1 X.1.2.2.2.2.1 jX_3 X.1.2.2.2.1 X.1.2.2.2.2.2.1 hP 7 rfl rfl 1 (by decide) (X.1.2.2.2.2.1 _ hlk) (fun _ h9 => h9) rfl d (kk.2 r hr H locs ls ⟨qa, h0, hP, hD, hS⟩ hl)⟩
theorem c_g_WK_wrote (X : hX p s m args meth c cc nL own rt D (tyC cI) sf A) {ix : Nat} (hlk : Cond.fieldLink own ix "EditionBook$Worker" "wrote" "I" ∈ tt) {K : Int32 → Option (ρ × CS)} (d : decode cc pc = .ok (.getfield ix, 3)) (kk : ∀ v, hG p l e (fun r => rmC fr lo (cS r.2 - cS S0) (sS r.2 - sS S0)) s m args below meth c nL (ZW D (wC cI q) A s.heap S0 S) (cS S - cS S0) (sS S - sS S0) QQ (fun r => le S r.2) (pc + 3) lv (.int v :: st) (K v)) : hG p l e (fun r => rmC fr lo (cS r.2 - cS S0) (sS r.2 - sS S0)) s m args below meth c nL (ZW D (wC cI q) A s.heap S0 S) (cS S - cS S0) (sS S - sS S0) QQ (fun r => le S r.2) pc lv (.ref (q 52) :: st) (cg S 15 K) := ⟨fun r hr => (kk _).1 r hr, fun r hr H locs ls hz hl => by
  obtain ⟨qa, h0, hP, hD, hS⟩ := hz
  exact va_get (D := D) (ci := 3) (C := RX3) (T := TX3) (N := 9) X.1.1 X.1.2.1 X.1.2.2.2.2.1 jX_3 X.1.2.2.2.1 X.1.2.2.2.2.2.1 hP 7 rfl rfl 2 (by decide) (X.1.2.2.2.2.1 _ hlk) (fun _ h9 => h9) rfl d ((kk _).2 r hr H locs ls ⟨qa, h0, hP, hD, hS⟩ hl)⟩
theorem c_e_WK_wrote (cI : ClassId) (q qa : Nat → Nat) (S : CS) (v : Int32) : (wC cI q qa S).set 7 (q 52, .inr (3, (fs_WK q S).set 2 (.int v))) = wC cI q qa (mS S.1 15 0 v, S.2) := rfl
theorem c_p_WK_wrote (X : hX p s m args meth c cc nL own rt D (tyC cI) sf A) {ix : Nat} (hlk : Cond.fieldLink own ix "EditionBook$Worker" "wrote" "I" ∈ tt) {v : Int32} {K : CS → Option (ρ × CS)} (d : decode cc pc = .ok (.putfield ix, 3)) (kk : ∀ S1, hG p l e (fun r => rmC fr lo (cS r.2 - cS S0) (sS r.2 - sS S0)) s m args below meth c nL (ZW D (wC cI q) A s.heap S0 S1) (cS S1 - cS S0) (sS S1 - sS S0) QQ (fun r => le S1 r.2) (pc + 3) lv st (K S1)) : hG p l e (fun r => rmC fr lo (cS r.2 - cS S0) (sS r.2 - sS S0)) s m args below meth c nL (ZW D (wC cI q) A s.heap S0 S) (cS S - cS S0) (sS S - sS S0) QQ (fun r => le S r.2) pc lv (.int v :: .ref (q 52) :: st) (cp S 15 v K) := ⟨fun r hr => (kk (mS S.1 15 0 v, S.2)).1 r hr, fun r hr H locs ls hz hl => by
  obtain ⟨qa, h0, hP, hD, hS⟩ := hz
  exact va_put (D := D) (ci := 3) (v := .int v) (C := RX3) (T := TX3) (N := 9) X.1.1 X.1.2.1 X.1.2.2.2.2.1 jX_3 tyX3 tyX3_ok nmX3 X.1.2.2.2.1 X.1.2.2.2.2.2.1 hP hD hS 7 rfl rfl 2 (by decide) (X.1.2.2.2.2.1 _ hlk) (fun _ h9 => h9) rfl (tyX3_ok 2 (by decide)) rfl rfl (by show 2 < 9; decide) d (fun H1 locs1 h1 h2 h3 => (kk (mS S.1 15 0 v, S.2)).2 r hr H1 locs1 ls ⟨qa, h0, (c_e_WK_wrote cI q qa S v) ▸ h1, (c_e_WK_wrote cI q qa S v) ▸ h2, h3⟩ hl)⟩
theorem c_g_WK_steps (X : hX p s m args meth c cc nL own rt D (tyC cI) sf A) {ix : Nat} (hlk : Cond.fieldLink own ix "EditionBook$Worker" "steps" "I" ∈ tt) {K : Int32 → Option (ρ × CS)} (d : decode cc pc = .ok (.getfield ix, 3)) (kk : ∀ v, hG p l e (fun r => rmC fr lo (cS r.2 - cS S0) (sS r.2 - sS S0)) s m args below meth c nL (ZW D (wC cI q) A s.heap S0 S) (cS S - cS S0) (sS S - sS S0) QQ (fun r => le S r.2) (pc + 3) lv (.int v :: st) (K v)) : hG p l e (fun r => rmC fr lo (cS r.2 - cS S0) (sS r.2 - sS S0)) s m args below meth c nL (ZW D (wC cI q) A s.heap S0 S) (cS S - cS S0) (sS S - sS S0) QQ (fun r => le S r.2) pc lv (.ref (q 52) :: st) (cg S 16 K) := ⟨fun r hr => (kk _).1 r hr, fun r hr H locs ls hz hl => by
  obtain ⟨qa, h0, hP, hD, hS⟩ := hz
  exact va_get (D := D) (ci := 3) (C := RX3) (T := TX3) (N := 9) X.1.1 X.1.2.1 X.1.2.2.2.2.1 jX_3 X.1.2.2.2.1 X.1.2.2.2.2.2.1 hP 7 rfl rfl 3 (by decide) (X.1.2.2.2.2.1 _ hlk) (fun _ h9 => h9) rfl d ((kk _).2 r hr H locs ls ⟨qa, h0, hP, hD, hS⟩ hl)⟩
theorem c_e_WK_steps (cI : ClassId) (q qa : Nat → Nat) (S : CS) (v : Int32) : (wC cI q qa S).set 7 (q 52, .inr (3, (fs_WK q S).set 3 (.int v))) = wC cI q qa (mS S.1 16 0 v, S.2) := rfl
theorem c_p_WK_steps (X : hX p s m args meth c cc nL own rt D (tyC cI) sf A) {ix : Nat} (hlk : Cond.fieldLink own ix "EditionBook$Worker" "steps" "I" ∈ tt) {v : Int32} {K : CS → Option (ρ × CS)} (d : decode cc pc = .ok (.putfield ix, 3)) (kk : ∀ S1, hG p l e (fun r => rmC fr lo (cS r.2 - cS S0) (sS r.2 - sS S0)) s m args below meth c nL (ZW D (wC cI q) A s.heap S0 S1) (cS S1 - cS S0) (sS S1 - sS S0) QQ (fun r => le S1 r.2) (pc + 3) lv st (K S1)) : hG p l e (fun r => rmC fr lo (cS r.2 - cS S0) (sS r.2 - sS S0)) s m args below meth c nL (ZW D (wC cI q) A s.heap S0 S) (cS S - cS S0) (sS S - sS S0) QQ (fun r => le S r.2) pc lv (.int v :: .ref (q 52) :: st) (cp S 16 v K) := ⟨fun r hr => (kk (mS S.1 16 0 v, S.2)).1 r hr, fun r hr H locs ls hz hl => by
  obtain ⟨qa, h0, hP, hD, hS⟩ := hz
  exact va_put (D := D) (ci := 3) (v := .int v) (C := RX3) (T := TX3) (N := 9) X.1.1 X.1.2.1 X.1.2.2.2.2.1 jX_3 tyX3 tyX3_ok nmX3 X.1.2.2.2.1 X.1.2.2.2.2.2.1 hP hD hS 7 rfl rfl 3 (by decide) (X.1.2.2.2.2.1 _ hlk) (fun _ h9 => h9) rfl (tyX3_ok 3 (by decide)) rfl rfl (by show 3 < 9; decide) d (fun H1 locs1 h1 h2 h3 => (kk (mS S.1 16 0 v, S.2)).2 r hr H1 locs1 ls ⟨qa, h0, (c_e_WK_steps cI q qa S v) ▸ h1, (c_e_WK_steps cI q qa S v) ▸ h2, h3⟩ hl)⟩
theorem c_g_WK_failure (X : hX p s m args meth c cc nL own rt D (tyC cI) sf A) {ix : Nat} (hlk : Cond.fieldLink own ix "EditionBook$Worker" "failure" "I" ∈ tt) {K : Int32 → Option (ρ × CS)} (d : decode cc pc = .ok (.getfield ix, 3)) (kk : ∀ v, hG p l e (fun r => rmC fr lo (cS r.2 - cS S0) (sS r.2 - sS S0)) s m args below meth c nL (ZW D (wC cI q) A s.heap S0 S) (cS S - cS S0) (sS S - sS S0) QQ (fun r => le S r.2) (pc + 3) lv (.int v :: st) (K v)) : hG p l e (fun r => rmC fr lo (cS r.2 - cS S0) (sS r.2 - sS S0)) s m args below meth c nL (ZW D (wC cI q) A s.heap S0 S) (cS S - cS S0) (sS S - sS S0) QQ (fun r => le S r.2) pc lv (.ref (q 52) :: st) (cg S 17 K) := ⟨fun r hr => (kk _).1 r hr, fun r hr H locs ls hz hl => by
  obtain ⟨qa, h0, hP, hD, hS⟩ := hz
  exact va_get (D := D) (ci := 3) (C := RX3) (T := TX3) (N := 9) X.1.1 X.1.2.1 X.1.2.2.2.2.1 jX_3 X.1.2.2.2.1 X.1.2.2.2.2.2.1 hP 7 rfl rfl 4 (by decide) (X.1.2.2.2.2.1 _ hlk) (fun _ h9 => h9) rfl d ((kk _).2 r hr H locs ls ⟨qa, h0, hP, hD, hS⟩ hl)⟩
theorem c_e_WK_failure (cI : ClassId) (q qa : Nat → Nat) (S : CS) (v : Int32) : (wC cI q qa S).set 7 (q 52, .inr (3, (fs_WK q S).set 4 (.int v))) = wC cI q qa (mS S.1 17 0 v, S.2) := rfl
theorem c_p_WK_failure (X : hX p s m args meth c cc nL own rt D (tyC cI) sf A) {ix : Nat} (hlk : Cond.fieldLink own ix "EditionBook$Worker" "failure" "I" ∈ tt) {v : Int32} {K : CS → Option (ρ × CS)} (d : decode cc pc = .ok (.putfield ix, 3)) (kk : ∀ S1, hG p l e (fun r => rmC fr lo (cS r.2 - cS S0) (sS r.2 - sS S0)) s m args below meth c nL (ZW D (wC cI q) A s.heap S0 S1) (cS S1 - cS S0) (sS S1 - sS S0) QQ (fun r => le S1 r.2) (pc + 3) lv st (K S1)) : hG p l e (fun r => rmC fr lo (cS r.2 - cS S0) (sS r.2 - sS S0)) s m args below meth c nL (ZW D (wC cI q) A s.heap S0 S) (cS S - cS S0) (sS S - sS S0) QQ (fun r => le S r.2) pc lv (.int v :: .ref (q 52) :: st) (cp S 17 v K) := ⟨fun r hr => (kk (mS S.1 17 0 v, S.2)).1 r hr, fun r hr H locs ls hz hl => by
  obtain ⟨qa, h0, hP, hD, hS⟩ := hz
  exact va_put (D := D) (ci := 3) (v := .int v) (C := RX3) (T := TX3) (N := 9) X.1.1 X.1.2.1 X.1.2.2.2.2.1 jX_3 tyX3 tyX3_ok nmX3 X.1.2.2.2.1 X.1.2.2.2.2.2.1 hP hD hS 7 rfl rfl 4 (by decide) (X.1.2.2.2.2.1 _ hlk) (fun _ h9 => h9) rfl (tyX3_ok 4 (by decide)) rfl rfl (by show 4 < 9; decide) d (fun H1 locs1 h1 h2 h3 => (kk (mS S.1 17 0 v, S.2)).2 r hr H1 locs1 ls ⟨qa, h0, (c_e_WK_failure cI q qa S v) ▸ h1, (c_e_WK_failure cI q qa S v) ▸ h2, h3⟩ hl)⟩
theorem c_g_WK_pile (X : hX p s m args meth c cc nL own rt D (tyC cI) sf A) {ix : Nat} (hlk : Cond.fieldLink own ix "EditionBook$Worker" "pile" "LEditionBook$Table;" ∈ tt) (d : decode cc pc = .ok (.getfield ix, 3)) (kk : hG p l e (fun r => rmC fr lo (cS r.2 - cS S0) (sS r.2 - sS S0)) s m args below meth c nL (ZW D (wC cI q) A s.heap S0 S) (cS S - cS S0) (sS S - sS S0) QQ (fun r => le S r.2) (pc + 3) lv (.ref (q 103) :: st) F) : hG p l e (fun r => rmC fr lo (cS r.2 - cS S0) (sS r.2 - sS S0)) s m args below meth c nL (ZW D (wC cI q) A s.heap S0 S) (cS S - cS S0) (sS S - sS S0) QQ (fun r => le S r.2) pc lv (.ref (q 52) :: st) F := ⟨kk.1, fun r hr H locs ls hz hl => by
  obtain ⟨qa, h0, hP, hD, hS⟩ := hz
  exact va_get (D := D) (ci := 3) (C := RX3) (T := TX3) (N := 9) X.1.1 X.1.2.1 X.1.2.2.2.2.1 jX_3 X.1.2.2.2.1 X.1.2.2.2.2.2.1 hP 7 rfl rfl 5 (by decide) (X.1.2.2.2.2.1 _ hlk) (fun _ h9 => h9) rfl d (kk.2 r hr H locs ls ⟨qa, h0, hP, hD, hS⟩ hl)⟩
theorem c_g_WK_frames (X : hX p s m args meth c cc nL own rt D (tyC cI) sf A) {ix : Nat} (hlk : Cond.fieldLink own ix "EditionBook$Worker" "frames" "LEditionBook$Table;" ∈ tt) (d : decode cc pc = .ok (.getfield ix, 3)) (kk : hG p l e (fun r => rmC fr lo (cS r.2 - cS S0) (sS r.2 - sS S0)) s m args below meth c nL (ZW D (wC cI q) A s.heap S0 S) (cS S - cS S0) (sS S - sS S0) QQ (fun r => le S r.2) (pc + 3) lv (.ref (q 104) :: st) F) : hG p l e (fun r => rmC fr lo (cS r.2 - cS S0) (sS r.2 - sS S0)) s m args below meth c nL (ZW D (wC cI q) A s.heap S0 S) (cS S - cS S0) (sS S - sS S0) QQ (fun r => le S r.2) pc lv (.ref (q 52) :: st) F := ⟨kk.1, fun r hr H locs ls hz hl => by
  obtain ⟨qa, h0, hP, hD, hS⟩ := hz
  exact va_get (D := D) (ci := 3) (C := RX3) (T := TX3) (N := 9) X.1.1 X.1.2.1 X.1.2.2.2.2.1 jX_3 X.1.2.2.2.1 X.1.2.2.2.2.2.1 hP 7 rfl rfl 6 (by decide) (X.1.2.2.2.2.1 _ hlk) (fun _ h9 => h9) rfl d (kk.2 r hr H locs ls ⟨qa, h0, hP, hD, hS⟩ hl)⟩
theorem c_g_WK_cellCode (X : hX p s m args meth c cc nL own rt D (tyC cI) sf A) {ix : Nat} (hlk : Cond.fieldLink own ix "EditionBook$Worker" "cellCode" "[I" ∈ tt) (d : decode cc pc = .ok (.getfield ix, 3)) (kk : hG p l e (fun r => rmC fr lo (cS r.2 - cS S0) (sS r.2 - sS S0)) s m args below meth c nL (ZW D (wC cI q) A s.heap S0 S) (cS S - cS S0) (sS S - sS S0) QQ (fun r => le S r.2) (pc + 3) lv (.ref (q 18) :: st) F) : hG p l e (fun r => rmC fr lo (cS r.2 - cS S0) (sS r.2 - sS S0)) s m args below meth c nL (ZW D (wC cI q) A s.heap S0 S) (cS S - cS S0) (sS S - sS S0) QQ (fun r => le S r.2) pc lv (.ref (q 52) :: st) F := ⟨kk.1, fun r hr H locs ls hz hl => by
  obtain ⟨qa, h0, hP, hD, hS⟩ := hz
  exact va_get (D := D) (ci := 3) (C := RX3) (T := TX3) (N := 9) X.1.1 X.1.2.1 X.1.2.2.2.2.1 jX_3 X.1.2.2.2.1 X.1.2.2.2.2.2.1 hP 7 rfl rfl 7 (by decide) (X.1.2.2.2.2.1 _ hlk) (fun _ h9 => h9) rfl d (kk.2 r hr H locs ls ⟨qa, h0, hP, hD, hS⟩ hl)⟩
theorem c_g_WK_cellFrames (X : hX p s m args meth c cc nL own rt D (tyC cI) sf A) {ix : Nat} (hlk : Cond.fieldLink own ix "EditionBook$Worker" "cellFrames" "I" ∈ tt) {K : Int32 → Option (ρ × CS)} (d : decode cc pc = .ok (.getfield ix, 3)) (kk : ∀ v, hG p l e (fun r => rmC fr lo (cS r.2 - cS S0) (sS r.2 - sS S0)) s m args below meth c nL (ZW D (wC cI q) A s.heap S0 S) (cS S - cS S0) (sS S - sS S0) QQ (fun r => le S r.2) (pc + 3) lv (.int v :: st) (K v)) : hG p l e (fun r => rmC fr lo (cS r.2 - cS S0) (sS r.2 - sS S0)) s m args below meth c nL (ZW D (wC cI q) A s.heap S0 S) (cS S - cS S0) (sS S - sS S0) QQ (fun r => le S r.2) pc lv (.ref (q 52) :: st) (cg S 19 K) := ⟨fun r hr => (kk _).1 r hr, fun r hr H locs ls hz hl => by
  obtain ⟨qa, h0, hP, hD, hS⟩ := hz
  exact va_get (D := D) (ci := 3) (C := RX3) (T := TX3) (N := 9) X.1.1 X.1.2.1 X.1.2.2.2.2.1 jX_3 X.1.2.2.2.1 X.1.2.2.2.2.2.1 hP 7 rfl rfl 8 (by decide) (X.1.2.2.2.2.1 _ hlk) (fun _ h9 => h9) rfl d ((kk _).2 r hr H locs ls ⟨qa, h0, hP, hD, hS⟩ hl)⟩
theorem c_e_WK_cellFrames (cI : ClassId) (q qa : Nat → Nat) (S : CS) (v : Int32) : (wC cI q qa S).set 7 (q 52, .inr (3, (fs_WK q S).set 8 (.int v))) = wC cI q qa (mS S.1 19 0 v, S.2) := rfl
theorem c_p_WK_cellFrames (X : hX p s m args meth c cc nL own rt D (tyC cI) sf A) {ix : Nat} (hlk : Cond.fieldLink own ix "EditionBook$Worker" "cellFrames" "I" ∈ tt) {v : Int32} {K : CS → Option (ρ × CS)} (d : decode cc pc = .ok (.putfield ix, 3)) (kk : ∀ S1, hG p l e (fun r => rmC fr lo (cS r.2 - cS S0) (sS r.2 - sS S0)) s m args below meth c nL (ZW D (wC cI q) A s.heap S0 S1) (cS S1 - cS S0) (sS S1 - sS S0) QQ (fun r => le S1 r.2) (pc + 3) lv st (K S1)) : hG p l e (fun r => rmC fr lo (cS r.2 - cS S0) (sS r.2 - sS S0)) s m args below meth c nL (ZW D (wC cI q) A s.heap S0 S) (cS S - cS S0) (sS S - sS S0) QQ (fun r => le S r.2) pc lv (.int v :: .ref (q 52) :: st) (cp S 19 v K) := ⟨fun r hr => (kk (mS S.1 19 0 v, S.2)).1 r hr, fun r hr H locs ls hz hl => by
  obtain ⟨qa, h0, hP, hD, hS⟩ := hz
  exact va_put (D := D) (ci := 3) (v := .int v) (C := RX3) (T := TX3) (N := 9) X.1.1 X.1.2.1 X.1.2.2.2.2.1 jX_3 tyX3 tyX3_ok nmX3 X.1.2.2.2.1 X.1.2.2.2.2.2.1 hP hD hS 7 rfl rfl 8 (by decide) (X.1.2.2.2.2.1 _ hlk) (fun _ h9 => h9) rfl (tyX3_ok 8 (by decide)) rfl rfl (by show 8 < 9; decide) d (fun H1 locs1 h1 h2 h3 => (kk (mS S.1 19 0 v, S.2)).2 r hr H1 locs1 ls ⟨qa, h0, (c_e_WK_cellFrames cI q qa S v) ▸ h1, (c_e_WK_cellFrames cI q qa S v) ▸ h2, h3⟩ hl)⟩
theorem c_g_IM_cells (X : hX p s m args meth c cc nL own rt D (tyC cI) sf A) {ix : Nat} (hlk : Cond.fieldLink own ix "EditionBook$Image" "cells" "LEditionBook$Table;" ∈ tt) (d : decode cc pc = .ok (.getfield ix, 3)) (kk : hG p l e (fun r => rmC fr lo (cS r.2 - cS S0) (sS r.2 - sS S0)) s m args below meth c nL (ZW D (wC cI q) A s.heap S0 S) (cS S - cS S0) (sS S - sS S0) QQ (fun r => le S r.2) (pc + 3) lv (.ref (q 105) :: st) F) : hG p l e (fun r => rmC fr lo (cS r.2 - cS S0) (sS r.2 - sS S0)) s m args below meth c nL (ZW D (wC cI q) A s.heap S0 S) (cS S - cS S0) (sS S - sS S0) QQ (fun r => le S r.2) pc lv (.ref (q 53) :: st) F := ⟨kk.1, fun r hr H locs ls hz hl => by
  obtain ⟨qa, h0, hP, hD, hS⟩ := hz
  exact va_get (D := D) (ci := 0) (C := RX0) (T := TX0) (N := 4) X.1.1 X.1.2.1 X.1.2.2.2.2.1 jX_0 X.1.2.2.2.1 X.1.2.2.2.2.2.1 hP 9 rfl rfl 0 (by decide) (X.1.2.2.2.2.1 _ hlk) (fun _ h9 => h9) rfl d (kk.2 r hr H locs ls ⟨qa, h0, hP, hD, hS⟩ hl)⟩
theorem c_g_IM_editions (X : hX p s m args meth c cc nL own rt D (tyC cI) sf A) {ix : Nat} (hlk : Cond.fieldLink own ix "EditionBook$Image" "editions" "LEditionBook$Table;" ∈ tt) (d : decode cc pc = .ok (.getfield ix, 3)) (kk : hG p l e (fun r => rmC fr lo (cS r.2 - cS S0) (sS r.2 - sS S0)) s m args below meth c nL (ZW D (wC cI q) A s.heap S0 S) (cS S - cS S0) (sS S - sS S0) QQ (fun r => le S r.2) (pc + 3) lv (.ref (q 106) :: st) F) : hG p l e (fun r => rmC fr lo (cS r.2 - cS S0) (sS r.2 - sS S0)) s m args below meth c nL (ZW D (wC cI q) A s.heap S0 S) (cS S - cS S0) (sS S - sS S0) QQ (fun r => le S r.2) pc lv (.ref (q 53) :: st) F := ⟨kk.1, fun r hr H locs ls hz hl => by
  obtain ⟨qa, h0, hP, hD, hS⟩ := hz
  exact va_get (D := D) (ci := 0) (C := RX0) (T := TX0) (N := 4) X.1.1 X.1.2.1 X.1.2.2.2.2.1 jX_0 X.1.2.2.2.1 X.1.2.2.2.2.2.1 hP 9 rfl rfl 1 (by decide) (X.1.2.2.2.2.1 _ hlk) (fun _ h9 => h9) rfl d (kk.2 r hr H locs ls ⟨qa, h0, hP, hD, hS⟩ hl)⟩
theorem c_g_IM_objects (X : hX p s m args meth c cc nL own rt D (tyC cI) sf A) {ix : Nat} (hlk : Cond.fieldLink own ix "EditionBook$Image" "objects" "LEditionBook$Table;" ∈ tt) (d : decode cc pc = .ok (.getfield ix, 3)) (kk : hG p l e (fun r => rmC fr lo (cS r.2 - cS S0) (sS r.2 - sS S0)) s m args below meth c nL (ZW D (wC cI q) A s.heap S0 S) (cS S - cS S0) (sS S - sS S0) QQ (fun r => le S r.2) (pc + 3) lv (.ref (q 107) :: st) F) : hG p l e (fun r => rmC fr lo (cS r.2 - cS S0) (sS r.2 - sS S0)) s m args below meth c nL (ZW D (wC cI q) A s.heap S0 S) (cS S - cS S0) (sS S - sS S0) QQ (fun r => le S r.2) pc lv (.ref (q 53) :: st) F := ⟨kk.1, fun r hr H locs ls hz hl => by
  obtain ⟨qa, h0, hP, hD, hS⟩ := hz
  exact va_get (D := D) (ci := 0) (C := RX0) (T := TX0) (N := 4) X.1.1 X.1.2.1 X.1.2.2.2.2.1 jX_0 X.1.2.2.2.1 X.1.2.2.2.2.2.1 hP 9 rfl rfl 2 (by decide) (X.1.2.2.2.2.1 _ hlk) (fun _ h9 => h9) rfl d (kk.2 r hr H locs ls ⟨qa, h0, hP, hD, hS⟩ hl)⟩
theorem c_g_IM_newestOfName (X : hX p s m args meth c cc nL own rt D (tyC cI) sf A) {ix : Nat} (hlk : Cond.fieldLink own ix "EditionBook$Image" "newestOfName" "[I" ∈ tt) (d : decode cc pc = .ok (.getfield ix, 3)) (kk : hG p l e (fun r => rmC fr lo (cS r.2 - cS S0) (sS r.2 - sS S0)) s m args below meth c nL (ZW D (wC cI q) A s.heap S0 S) (cS S - cS S0) (sS S - sS S0) QQ (fun r => le S r.2) (pc + 3) lv (.ref (q 20) :: st) F) : hG p l e (fun r => rmC fr lo (cS r.2 - cS S0) (sS r.2 - sS S0)) s m args below meth c nL (ZW D (wC cI q) A s.heap S0 S) (cS S - cS S0) (sS S - sS S0) QQ (fun r => le S r.2) pc lv (.ref (q 53) :: st) F := ⟨kk.1, fun r hr H locs ls hz hl => by
  obtain ⟨qa, h0, hP, hD, hS⟩ := hz
  exact va_get (D := D) (ci := 0) (C := RX0) (T := TX0) (N := 4) X.1.1 X.1.2.1 X.1.2.2.2.2.1 jX_0 X.1.2.2.2.1 X.1.2.2.2.2.2.1 hP 9 rfl rfl 3 (by decide) (X.1.2.2.2.2.1 _ hlk) (fun _ h9 => h9) rfl d (kk.2 r hr H locs ls ⟨qa, h0, hP, hD, hS⟩ hl)⟩
theorem c_l_0 (X : hX p s m args meth c cc nL own rt D (tyC cI) sf A) {i : Int32} {K : Int32 → Option (ρ × CS)} (d : decode cc pc = .ok (.iaload, 1)) (kk : ∀ v, hG p l e (fun r => rmC fr lo (cS r.2 - cS S0) (sS r.2 - sS S0)) s m args below meth c nL (ZW D (wC cI q) A s.heap S0 S) (cS S - cS S0) (sS S - sS S0) QQ (fun r => le S r.2) (pc + 1) lv (.int v :: st) (K v)) : hG p l e (fun r => rmC fr lo (cS r.2 - cS S0) (sS r.2 - sS S0)) s m args below meth c nL (ZW D (wC cI q) A s.heap S0 S) (cS S - cS S0) (sS S - sS S0) QQ (fun r => le S r.2) pc lv (.int i :: .ref (q 0) :: st) (cr S 0 60 i K) := h_ite (fun _ => h_none) (fun hin => ⟨fun r hr => (kk _).1 r hr, fun r hr H locs ls hz hl => by
  obtain ⟨qa, h0, hP, hD, hS⟩ := hz
  exact va_iald X.1.1 X.1.2.1 X.1.2.2.2.2.2.1 hP 1 0 rfl rfl hin d ((kk _).2 r hr H locs ls ⟨qa, h0, hP, hD, hS⟩ hl)⟩)
theorem c_f_0 (cI : ClassId) (q qa : Nat → Nat) (S : CS) (i : Nat) (v : Int32) : (wC cI q qa S).set 1 (q 0, .inl (cI, 60, .inl (upd (S.1 0) i v))) = wC cI q qa (mS S.1 0 i v, S.2) := rfl
theorem c_s_0 (X : hX p s m args meth c cc nL own rt D (tyC cI) sf A) {i v : Int32} {K : CS → Option (ρ × CS)} (d : decode cc pc = .ok (.iastore, 1)) (kk : ∀ S1, hG p l e (fun r => rmC fr lo (cS r.2 - cS S0) (sS r.2 - sS S0)) s m args below meth c nL (ZW D (wC cI q) A s.heap S0 S1) (cS S1 - cS S0) (sS S1 - sS S0) QQ (fun r => le S1 r.2) (pc + 1) lv st (K S1)) : hG p l e (fun r => rmC fr lo (cS r.2 - cS S0) (sS r.2 - sS S0)) s m args below meth c nL (ZW D (wC cI q) A s.heap S0 S) (cS S - cS S0) (sS S - sS S0) QQ (fun r => le S r.2) pc lv (.int v :: .int i :: .ref (q 0) :: st) (cw S 0 60 i v K) := h_ite (fun _ => h_none) (fun hin => ⟨fun r hr => (kk (mS S.1 0 i.toNatClampNeg v, S.2)).1 r hr, fun r hr H locs ls hz hl => by
  obtain ⟨qa, h0, hP, hD, hS⟩ := hz
  exact va_iast X.1.1 X.1.2.1 X.1.2.2.2.2.2.1 hP hD hS 1 0 rfl rfl hin d (fun H1 locs1 h1 h2 h3 => (kk (mS S.1 0 i.toNatClampNeg v, S.2)).2 r hr H1 locs1 ls ⟨qa, h0, (c_f_0 cI q qa S _ _) ▸ h1, (c_f_0 cI q qa S _ _) ▸ h2, h3⟩ hl)⟩)
theorem c_l_10 (X : hX p s m args meth c cc nL own rt D (tyC cI) sf A) {i : Int32} {K : Int32 → Option (ρ × CS)} (d : decode cc pc = .ok (.iaload, 1)) (kk : ∀ v, hG p l e (fun r => rmC fr lo (cS r.2 - cS S0) (sS r.2 - sS S0)) s m args below meth c nL (ZW D (wC cI q) A s.heap S0 S) (cS S - cS S0) (sS S - sS S0) QQ (fun r => le S r.2) (pc + 1) lv (.int v :: st) (K v)) : hG p l e (fun r => rmC fr lo (cS r.2 - cS S0) (sS r.2 - sS S0)) s m args below meth c nL (ZW D (wC cI q) A s.heap S0 S) (cS S - cS S0) (sS S - sS S0) QQ (fun r => le S r.2) pc lv (.int i :: .ref (q 10) :: st) (cr S 10 16 i K) := h_ite (fun _ => h_none) (fun hin => ⟨fun r hr => (kk _).1 r hr, fun r hr H locs ls hz hl => by
  obtain ⟨qa, h0, hP, hD, hS⟩ := hz
  exact va_iald X.1.1 X.1.2.1 X.1.2.2.2.2.2.1 hP 3 0 rfl rfl hin d ((kk _).2 r hr H locs ls ⟨qa, h0, hP, hD, hS⟩ hl)⟩)
theorem c_f_10 (cI : ClassId) (q qa : Nat → Nat) (S : CS) (i : Nat) (v : Int32) : (wC cI q qa S).set 3 (q 10, .inl (cI, 16, .inl (upd (S.1 10) i v))) = wC cI q qa (mS S.1 10 i v, S.2) := rfl
theorem c_s_10 (X : hX p s m args meth c cc nL own rt D (tyC cI) sf A) {i v : Int32} {K : CS → Option (ρ × CS)} (d : decode cc pc = .ok (.iastore, 1)) (kk : ∀ S1, hG p l e (fun r => rmC fr lo (cS r.2 - cS S0) (sS r.2 - sS S0)) s m args below meth c nL (ZW D (wC cI q) A s.heap S0 S1) (cS S1 - cS S0) (sS S1 - sS S0) QQ (fun r => le S1 r.2) (pc + 1) lv st (K S1)) : hG p l e (fun r => rmC fr lo (cS r.2 - cS S0) (sS r.2 - sS S0)) s m args below meth c nL (ZW D (wC cI q) A s.heap S0 S) (cS S - cS S0) (sS S - sS S0) QQ (fun r => le S r.2) pc lv (.int v :: .int i :: .ref (q 10) :: st) (cw S 10 16 i v K) := h_ite (fun _ => h_none) (fun hin => ⟨fun r hr => (kk (mS S.1 10 i.toNatClampNeg v, S.2)).1 r hr, fun r hr H locs ls hz hl => by
  obtain ⟨qa, h0, hP, hD, hS⟩ := hz
  exact va_iast X.1.1 X.1.2.1 X.1.2.2.2.2.2.1 hP hD hS 3 0 rfl rfl hin d (fun H1 locs1 h1 h2 h3 => (kk (mS S.1 10 i.toNatClampNeg v, S.2)).2 r hr H1 locs1 ls ⟨qa, h0, (c_f_10 cI q qa S _ _) ▸ h1, (c_f_10 cI q qa S _ _) ▸ h2, h3⟩ hl)⟩)
theorem c_l_11 (X : hX p s m args meth c cc nL own rt D (tyC cI) sf A) {i : Int32} {K : Int32 → Option (ρ × CS)} (d : decode cc pc = .ok (.iaload, 1)) (kk : ∀ v, hG p l e (fun r => rmC fr lo (cS r.2 - cS S0) (sS r.2 - sS S0)) s m args below meth c nL (ZW D (wC cI q) A s.heap S0 S) (cS S - cS S0) (sS S - sS S0) QQ (fun r => le S r.2) (pc + 1) lv (.int v :: st) (K v)) : hG p l e (fun r => rmC fr lo (cS r.2 - cS S0) (sS r.2 - sS S0)) s m args below meth c nL (ZW D (wC cI q) A s.heap S0 S) (cS S - cS S0) (sS S - sS S0) QQ (fun r => le S r.2) pc lv (.int i :: .ref (q 11) :: st) (cr S 11 16 i K) := h_ite (fun _ => h_none) (fun hin => ⟨fun r hr => (kk _).1 r hr, fun r hr H locs ls hz hl => by
  obtain ⟨qa, h0, hP, hD, hS⟩ := hz
  exact va_iald X.1.1 X.1.2.1 X.1.2.2.2.2.2.1 hP 4 0 rfl rfl hin d ((kk _).2 r hr H locs ls ⟨qa, h0, hP, hD, hS⟩ hl)⟩)
theorem c_f_11 (cI : ClassId) (q qa : Nat → Nat) (S : CS) (i : Nat) (v : Int32) : (wC cI q qa S).set 4 (q 11, .inl (cI, 16, .inl (upd (S.1 11) i v))) = wC cI q qa (mS S.1 11 i v, S.2) := rfl
theorem c_s_11 (X : hX p s m args meth c cc nL own rt D (tyC cI) sf A) {i v : Int32} {K : CS → Option (ρ × CS)} (d : decode cc pc = .ok (.iastore, 1)) (kk : ∀ S1, hG p l e (fun r => rmC fr lo (cS r.2 - cS S0) (sS r.2 - sS S0)) s m args below meth c nL (ZW D (wC cI q) A s.heap S0 S1) (cS S1 - cS S0) (sS S1 - sS S0) QQ (fun r => le S1 r.2) (pc + 1) lv st (K S1)) : hG p l e (fun r => rmC fr lo (cS r.2 - cS S0) (sS r.2 - sS S0)) s m args below meth c nL (ZW D (wC cI q) A s.heap S0 S) (cS S - cS S0) (sS S - sS S0) QQ (fun r => le S r.2) pc lv (.int v :: .int i :: .ref (q 11) :: st) (cw S 11 16 i v K) := h_ite (fun _ => h_none) (fun hin => ⟨fun r hr => (kk (mS S.1 11 i.toNatClampNeg v, S.2)).1 r hr, fun r hr H locs ls hz hl => by
  obtain ⟨qa, h0, hP, hD, hS⟩ := hz
  exact va_iast X.1.1 X.1.2.1 X.1.2.2.2.2.2.1 hP hD hS 4 0 rfl rfl hin d (fun H1 locs1 h1 h2 h3 => (kk (mS S.1 11 i.toNatClampNeg v, S.2)).2 r hr H1 locs1 ls ⟨qa, h0, (c_f_11 cI q qa S _ _) ▸ h1, (c_f_11 cI q qa S _ _) ▸ h2, h3⟩ hl)⟩)
theorem c_l_12 (X : hX p s m args meth c cc nL own rt D (tyC cI) sf A) {i : Int32} {K : Int32 → Option (ρ × CS)} (d : decode cc pc = .ok (.iaload, 1)) (kk : ∀ v, hG p l e (fun r => rmC fr lo (cS r.2 - cS S0) (sS r.2 - sS S0)) s m args below meth c nL (ZW D (wC cI q) A s.heap S0 S) (cS S - cS S0) (sS S - sS S0) QQ (fun r => le S r.2) (pc + 1) lv (.int v :: st) (K v)) : hG p l e (fun r => rmC fr lo (cS r.2 - cS S0) (sS r.2 - sS S0)) s m args below meth c nL (ZW D (wC cI q) A s.heap S0 S) (cS S - cS S0) (sS S - sS S0) QQ (fun r => le S r.2) pc lv (.int i :: .ref (q 12) :: st) (cr S 12 60 i K) := h_ite (fun _ => h_none) (fun hin => ⟨fun r hr => (kk _).1 r hr, fun r hr H locs ls hz hl => by
  obtain ⟨qa, h0, hP, hD, hS⟩ := hz
  exact va_iald X.1.1 X.1.2.1 X.1.2.2.2.2.2.1 hP 5 0 rfl rfl hin d ((kk _).2 r hr H locs ls ⟨qa, h0, hP, hD, hS⟩ hl)⟩)
theorem c_f_12 (cI : ClassId) (q qa : Nat → Nat) (S : CS) (i : Nat) (v : Int32) : (wC cI q qa S).set 5 (q 12, .inl (cI, 60, .inl (upd (S.1 12) i v))) = wC cI q qa (mS S.1 12 i v, S.2) := rfl
theorem c_s_12 (X : hX p s m args meth c cc nL own rt D (tyC cI) sf A) {i v : Int32} {K : CS → Option (ρ × CS)} (d : decode cc pc = .ok (.iastore, 1)) (kk : ∀ S1, hG p l e (fun r => rmC fr lo (cS r.2 - cS S0) (sS r.2 - sS S0)) s m args below meth c nL (ZW D (wC cI q) A s.heap S0 S1) (cS S1 - cS S0) (sS S1 - sS S0) QQ (fun r => le S1 r.2) (pc + 1) lv st (K S1)) : hG p l e (fun r => rmC fr lo (cS r.2 - cS S0) (sS r.2 - sS S0)) s m args below meth c nL (ZW D (wC cI q) A s.heap S0 S) (cS S - cS S0) (sS S - sS S0) QQ (fun r => le S r.2) pc lv (.int v :: .int i :: .ref (q 12) :: st) (cw S 12 60 i v K) := h_ite (fun _ => h_none) (fun hin => ⟨fun r hr => (kk (mS S.1 12 i.toNatClampNeg v, S.2)).1 r hr, fun r hr H locs ls hz hl => by
  obtain ⟨qa, h0, hP, hD, hS⟩ := hz
  exact va_iast X.1.1 X.1.2.1 X.1.2.2.2.2.2.1 hP hD hS 5 0 rfl rfl hin d (fun H1 locs1 h1 h2 h3 => (kk (mS S.1 12 i.toNatClampNeg v, S.2)).2 r hr H1 locs1 ls ⟨qa, h0, (c_f_12 cI q qa S _ _) ▸ h1, (c_f_12 cI q qa S _ _) ▸ h2, h3⟩ hl)⟩)
theorem c_l_13 (X : hX p s m args meth c cc nL own rt D (tyC cI) sf A) {i : Int32} {K : Int32 → Option (ρ × CS)} (d : decode cc pc = .ok (.iaload, 1)) (kk : ∀ v, hG p l e (fun r => rmC fr lo (cS r.2 - cS S0) (sS r.2 - sS S0)) s m args below meth c nL (ZW D (wC cI q) A s.heap S0 S) (cS S - cS S0) (sS S - sS S0) QQ (fun r => le S r.2) (pc + 1) lv (.int v :: st) (K v)) : hG p l e (fun r => rmC fr lo (cS r.2 - cS S0) (sS r.2 - sS S0)) s m args below meth c nL (ZW D (wC cI q) A s.heap S0 S) (cS S - cS S0) (sS S - sS S0) QQ (fun r => le S r.2) pc lv (.int i :: .ref (q 13) :: st) (cr S 13 60 i K) := h_ite (fun _ => h_none) (fun hin => ⟨fun r hr => (kk _).1 r hr, fun r hr H locs ls hz hl => by
  obtain ⟨qa, h0, hP, hD, hS⟩ := hz
  exact va_iald X.1.1 X.1.2.1 X.1.2.2.2.2.2.1 hP 6 0 rfl rfl hin d ((kk _).2 r hr H locs ls ⟨qa, h0, hP, hD, hS⟩ hl)⟩)
theorem c_f_13 (cI : ClassId) (q qa : Nat → Nat) (S : CS) (i : Nat) (v : Int32) : (wC cI q qa S).set 6 (q 13, .inl (cI, 60, .inl (upd (S.1 13) i v))) = wC cI q qa (mS S.1 13 i v, S.2) := rfl
theorem c_s_13 (X : hX p s m args meth c cc nL own rt D (tyC cI) sf A) {i v : Int32} {K : CS → Option (ρ × CS)} (d : decode cc pc = .ok (.iastore, 1)) (kk : ∀ S1, hG p l e (fun r => rmC fr lo (cS r.2 - cS S0) (sS r.2 - sS S0)) s m args below meth c nL (ZW D (wC cI q) A s.heap S0 S1) (cS S1 - cS S0) (sS S1 - sS S0) QQ (fun r => le S1 r.2) (pc + 1) lv st (K S1)) : hG p l e (fun r => rmC fr lo (cS r.2 - cS S0) (sS r.2 - sS S0)) s m args below meth c nL (ZW D (wC cI q) A s.heap S0 S) (cS S - cS S0) (sS S - sS S0) QQ (fun r => le S r.2) pc lv (.int v :: .int i :: .ref (q 13) :: st) (cw S 13 60 i v K) := h_ite (fun _ => h_none) (fun hin => ⟨fun r hr => (kk (mS S.1 13 i.toNatClampNeg v, S.2)).1 r hr, fun r hr H locs ls hz hl => by
  obtain ⟨qa, h0, hP, hD, hS⟩ := hz
  exact va_iast X.1.1 X.1.2.1 X.1.2.2.2.2.2.1 hP hD hS 6 0 rfl rfl hin d (fun H1 locs1 h1 h2 h3 => (kk (mS S.1 13 i.toNatClampNeg v, S.2)).2 r hr H1 locs1 ls ⟨qa, h0, (c_f_13 cI q qa S _ _) ▸ h1, (c_f_13 cI q qa S _ _) ▸ h2, h3⟩ hl)⟩)
theorem c_l_18 (X : hX p s m args meth c cc nL own rt D (tyC cI) sf A) {i : Int32} {K : Int32 → Option (ρ × CS)} (d : decode cc pc = .ok (.iaload, 1)) (kk : ∀ v, hG p l e (fun r => rmC fr lo (cS r.2 - cS S0) (sS r.2 - sS S0)) s m args below meth c nL (ZW D (wC cI q) A s.heap S0 S) (cS S - cS S0) (sS S - sS S0) QQ (fun r => le S r.2) (pc + 1) lv (.int v :: st) (K v)) : hG p l e (fun r => rmC fr lo (cS r.2 - cS S0) (sS r.2 - sS S0)) s m args below meth c nL (ZW D (wC cI q) A s.heap S0 S) (cS S - cS S0) (sS S - sS S0) QQ (fun r => le S r.2) pc lv (.int i :: .ref (q 18) :: st) (cr S 18 60 i K) := h_ite (fun _ => h_none) (fun hin => ⟨fun r hr => (kk _).1 r hr, fun r hr H locs ls hz hl => by
  obtain ⟨qa, h0, hP, hD, hS⟩ := hz
  exact va_iald X.1.1 X.1.2.1 X.1.2.2.2.2.2.1 hP 8 0 rfl rfl hin d ((kk _).2 r hr H locs ls ⟨qa, h0, hP, hD, hS⟩ hl)⟩)
theorem c_f_18 (cI : ClassId) (q qa : Nat → Nat) (S : CS) (i : Nat) (v : Int32) : (wC cI q qa S).set 8 (q 18, .inl (cI, 60, .inl (upd (S.1 18) i v))) = wC cI q qa (mS S.1 18 i v, S.2) := rfl
theorem c_s_18 (X : hX p s m args meth c cc nL own rt D (tyC cI) sf A) {i v : Int32} {K : CS → Option (ρ × CS)} (d : decode cc pc = .ok (.iastore, 1)) (kk : ∀ S1, hG p l e (fun r => rmC fr lo (cS r.2 - cS S0) (sS r.2 - sS S0)) s m args below meth c nL (ZW D (wC cI q) A s.heap S0 S1) (cS S1 - cS S0) (sS S1 - sS S0) QQ (fun r => le S1 r.2) (pc + 1) lv st (K S1)) : hG p l e (fun r => rmC fr lo (cS r.2 - cS S0) (sS r.2 - sS S0)) s m args below meth c nL (ZW D (wC cI q) A s.heap S0 S) (cS S - cS S0) (sS S - sS S0) QQ (fun r => le S r.2) pc lv (.int v :: .int i :: .ref (q 18) :: st) (cw S 18 60 i v K) := h_ite (fun _ => h_none) (fun hin => ⟨fun r hr => (kk (mS S.1 18 i.toNatClampNeg v, S.2)).1 r hr, fun r hr H locs ls hz hl => by
  obtain ⟨qa, h0, hP, hD, hS⟩ := hz
  exact va_iast X.1.1 X.1.2.1 X.1.2.2.2.2.2.1 hP hD hS 8 0 rfl rfl hin d (fun H1 locs1 h1 h2 h3 => (kk (mS S.1 18 i.toNatClampNeg v, S.2)).2 r hr H1 locs1 ls ⟨qa, h0, (c_f_18 cI q qa S _ _) ▸ h1, (c_f_18 cI q qa S _ _) ▸ h2, h3⟩ hl)⟩)
theorem c_l_20 (X : hX p s m args meth c cc nL own rt D (tyC cI) sf A) {i : Int32} {K : Int32 → Option (ρ × CS)} (d : decode cc pc = .ok (.iaload, 1)) (kk : ∀ v, hG p l e (fun r => rmC fr lo (cS r.2 - cS S0) (sS r.2 - sS S0)) s m args below meth c nL (ZW D (wC cI q) A s.heap S0 S) (cS S - cS S0) (sS S - sS S0) QQ (fun r => le S r.2) (pc + 1) lv (.int v :: st) (K v)) : hG p l e (fun r => rmC fr lo (cS r.2 - cS S0) (sS r.2 - sS S0)) s m args below meth c nL (ZW D (wC cI q) A s.heap S0 S) (cS S - cS S0) (sS S - sS S0) QQ (fun r => le S r.2) pc lv (.int i :: .ref (q 20) :: st) (cr S 20 16 i K) := h_ite (fun _ => h_none) (fun hin => ⟨fun r hr => (kk _).1 r hr, fun r hr H locs ls hz hl => by
  obtain ⟨qa, h0, hP, hD, hS⟩ := hz
  exact va_iald X.1.1 X.1.2.1 X.1.2.2.2.2.2.1 hP 10 0 rfl rfl hin d ((kk _).2 r hr H locs ls ⟨qa, h0, hP, hD, hS⟩ hl)⟩)
theorem c_f_20 (cI : ClassId) (q qa : Nat → Nat) (S : CS) (i : Nat) (v : Int32) : (wC cI q qa S).set 10 (q 20, .inl (cI, 16, .inl (upd (S.1 20) i v))) = wC cI q qa (mS S.1 20 i v, S.2) := rfl
theorem c_s_20 (X : hX p s m args meth c cc nL own rt D (tyC cI) sf A) {i v : Int32} {K : CS → Option (ρ × CS)} (d : decode cc pc = .ok (.iastore, 1)) (kk : ∀ S1, hG p l e (fun r => rmC fr lo (cS r.2 - cS S0) (sS r.2 - sS S0)) s m args below meth c nL (ZW D (wC cI q) A s.heap S0 S1) (cS S1 - cS S0) (sS S1 - sS S0) QQ (fun r => le S1 r.2) (pc + 1) lv st (K S1)) : hG p l e (fun r => rmC fr lo (cS r.2 - cS S0) (sS r.2 - sS S0)) s m args below meth c nL (ZW D (wC cI q) A s.heap S0 S) (cS S - cS S0) (sS S - sS S0) QQ (fun r => le S r.2) pc lv (.int v :: .int i :: .ref (q 20) :: st) (cw S 20 16 i v K) := h_ite (fun _ => h_none) (fun hin => ⟨fun r hr => (kk (mS S.1 20 i.toNatClampNeg v, S.2)).1 r hr, fun r hr H locs ls hz hl => by
  obtain ⟨qa, h0, hP, hD, hS⟩ := hz
  exact va_iast X.1.1 X.1.2.1 X.1.2.2.2.2.2.1 hP hD hS 10 0 rfl rfl hin d (fun H1 locs1 h1 h2 h3 => (kk (mS S.1 20 i.toNatClampNeg v, S.2)).2 r hr H1 locs1 ls ⟨qa, h0, (c_f_20 cI q qa S _ _) ▸ h1, (c_f_20 cI q qa S _ _) ▸ h2, h3⟩ hl)⟩)
theorem c_takesS (X : hX p s m args meth c cc nL RX1 rt D (tyC cI) (SF tk) A) (d : decode cc pc = .ok (.getstatic 112, 3)) (kk : hG p l e (fun r => rmC fr lo (cS r.2 - cS S0) (sS r.2 - sS S0)) s m args below meth c nL (ZW D (wC cI q) A s.heap S0 S) (cS S - cS S0) (sS S - sS S0) QQ (fun r => le S r.2) (pc + 3) lv (.ref tk :: st) F) : hG p l e (fun r => rmC fr lo (cS r.2 - cS S0) (sS r.2 - sS S0)) s m args below meth c nL (ZW D (wC cI q) A s.heap S0 S) (cS S - cS S0) (sS S - sS S0) QQ (fun r => le S r.2) pc lv st F := ⟨kk.1, fun r hr H locs ls hz hl => by
  obtain ⟨qa, h0, hP, hD, hS⟩ := hz
  exact va_getsN (A := A) X.1.1 X.1.2.1 X.2.2.1 hS X.1.2.2.2.1 (va_Nw.use rfl X.2.2.2.2.1) (fun _ h9 => h9) d (kk.2 r hr H locs ls ⟨qa, h0, hP, hD, hS⟩ hl)⟩
theorem c_tlen (X : hX p s m args meth c cc nL RX1 rt D (tyC cI) (SF tk) A) (d : decode cc pc = .ok (.arraylength, 1)) (kk : hG p l e (fun r => rmC fr lo (cS r.2 - cS S0) (sS r.2 - sS S0)) s m args below meth c nL (ZW D (wC cI q) A s.heap S0 S) (cS S - cS S0) (sS S - sS S0) QQ (fun r => le S r.2) (pc + 1) lv (.int (19 : Int32) :: st) F) : hG p l e (fun r => rmC fr lo (cS r.2 - cS S0) (sS r.2 - sS S0)) s m args below meth c nL (ZW D (wC cI q) A s.heap S0 S) (cS S - cS S0) (sS S - sS S0) QQ (fun r => le S r.2) pc lv (.ref tk :: st) F := ⟨kk.1, fun r hr H locs ls hz hl => by
  obtain ⟨qa, h0, hP, hD, hS⟩ := hz
  exact va_tlen (A := A) X.1.1 X.1.2.1 X.2.2.2.1 hS rfl d (kk.2 r hr H locs ls ⟨qa, h0, hP, hD, hS⟩ hl)⟩
theorem c_tld (X : hX p s m args meth c cc nL RX1 rt D (tyC cI) (SF tk) A) {i : Int32} {K : Int32 → Option (ρ × CS)} (d : decode cc pc = .ok (.iaload, 1)) (kk : ∀ v, hG p l e (fun r => rmC fr lo (cS r.2 - cS S0) (sS r.2 - sS S0)) s m args below meth c nL (ZW D (wC cI q) A s.heap S0 S) (cS S - cS S0) (sS S - sS S0) QQ (fun r => le S r.2) (pc + 1) lv (.int v :: st) (K v)) : hG p l e (fun r => rmC fr lo (cS r.2 - cS S0) (sS r.2 - sS S0)) s m args below meth c nL (ZW D (wC cI q) A s.heap S0 S) (cS S - cS S0) (sS S - sS S0) QQ (fun r => le S r.2) pc lv (.int i :: .ref tk :: st) (tkr i K) := h_ite (fun _ => h_none) (fun hin => ⟨fun r hr => (kk _).1 r hr, fun r hr H locs ls hz hl => by
  obtain ⟨qa, h0, hP, hD, hS⟩ := hz
  exact va_ti (A := A) X.1.1 X.1.2.1 X.2.2.2.1 hS hin rfl d ((kk _).2 r hr H locs ls ⟨qa, h0, hP, hD, hS⟩ hl)⟩)
theorem tw_0 (cI : ClassId) (q qa : Nat → Nat) (S : CS) : [11, 12].map (fun i => (wC cI q qa S)[i]?) = (wT cI (q 100) (qa 0) (tOf 0 S)).map some := rfl
theorem tr_0 (cI : ClassId) (q qa : Nat → Nat) (S : CS) : ([0, 1, 2, 3, 4, 5, 6, 7, 8, 9, 10, 13, 14, 15, 16, 17, 18, 19, 20, 21, 22, 23, 24, 25, 26] : List Nat).map (fun i => (wC cI q qa S)[i]?) = (((wC cI q qa S).eraseIdx 12).eraseIdx 11).map some := rfl
theorem ty_0 (cI : ClassId) (q qa : Nat → Nat) (S T : CS) (a : Nat) : ([0, 1, 2, 3, 4, 5, 6, 7, 8, 9, 10, 25, 26, 11, 12, 13, 14, 15, 16, 17, 18, 19, 20, 21, 22, 23, 24] : List Nat).map (fun i => ((((wC cI q qa S).eraseIdx 12).eraseIdx 11) ++ wT cI (q 100) a T)[i]?) = (wC cI q (va_up qa 0 a) (tIn 0 S T)).map some := rfl
theorem tw_1 (cI : ClassId) (q qa : Nat → Nat) (S : CS) : [13, 14].map (fun i => (wC cI q qa S)[i]?) = (wT cI (q 101) (qa 1) (tOf 1 S)).map some := rfl
theorem tr_1 (cI : ClassId) (q qa : Nat → Nat) (S : CS) : ([0, 1, 2, 3, 4, 5, 6, 7, 8, 9, 10, 11, 12, 15, 16, 17, 18, 19, 20, 21, 22, 23, 24, 25, 26] : List Nat).map (fun i => (wC cI q qa S)[i]?) = (((wC cI q qa S).eraseIdx 14).eraseIdx 13).map some := rfl
theorem ty_1 (cI : ClassId) (q qa : Nat → Nat) (S T : CS) (a : Nat) : ([0, 1, 2, 3, 4, 5, 6, 7, 8, 9, 10, 11, 12, 25, 26, 13, 14, 15, 16, 17, 18, 19, 20, 21, 22, 23, 24] : List Nat).map (fun i => ((((wC cI q qa S).eraseIdx 14).eraseIdx 13) ++ wT cI (q 101) a T)[i]?) = (wC cI q (va_up qa 1 a) (tIn 1 S T)).map some := rfl
theorem tw_2 (cI : ClassId) (q qa : Nat → Nat) (S : CS) : [15, 16].map (fun i => (wC cI q qa S)[i]?) = (wT cI (q 102) (qa 2) (tOf 2 S)).map some := rfl
theorem tr_2 (cI : ClassId) (q qa : Nat → Nat) (S : CS) : ([0, 1, 2, 3, 4, 5, 6, 7, 8, 9, 10, 11, 12, 13, 14, 17, 18, 19, 20, 21, 22, 23, 24, 25, 26] : List Nat).map (fun i => (wC cI q qa S)[i]?) = (((wC cI q qa S).eraseIdx 16).eraseIdx 15).map some := rfl
theorem ty_2 (cI : ClassId) (q qa : Nat → Nat) (S T : CS) (a : Nat) : ([0, 1, 2, 3, 4, 5, 6, 7, 8, 9, 10, 11, 12, 13, 14, 25, 26, 15, 16, 17, 18, 19, 20, 21, 22, 23, 24] : List Nat).map (fun i => ((((wC cI q qa S).eraseIdx 16).eraseIdx 15) ++ wT cI (q 102) a T)[i]?) = (wC cI q (va_up qa 2 a) (tIn 2 S T)).map some := rfl
theorem tw_3 (cI : ClassId) (q qa : Nat → Nat) (S : CS) : [17, 18].map (fun i => (wC cI q qa S)[i]?) = (wT cI (q 103) (qa 3) (tOf 3 S)).map some := rfl
theorem tr_3 (cI : ClassId) (q qa : Nat → Nat) (S : CS) : ([0, 1, 2, 3, 4, 5, 6, 7, 8, 9, 10, 11, 12, 13, 14, 15, 16, 19, 20, 21, 22, 23, 24, 25, 26] : List Nat).map (fun i => (wC cI q qa S)[i]?) = (((wC cI q qa S).eraseIdx 18).eraseIdx 17).map some := rfl
theorem ty_3 (cI : ClassId) (q qa : Nat → Nat) (S T : CS) (a : Nat) : ([0, 1, 2, 3, 4, 5, 6, 7, 8, 9, 10, 11, 12, 13, 14, 15, 16, 25, 26, 17, 18, 19, 20, 21, 22, 23, 24] : List Nat).map (fun i => ((((wC cI q qa S).eraseIdx 18).eraseIdx 17) ++ wT cI (q 103) a T)[i]?) = (wC cI q (va_up qa 3 a) (tIn 3 S T)).map some := rfl
theorem tw_4 (cI : ClassId) (q qa : Nat → Nat) (S : CS) : [19, 20].map (fun i => (wC cI q qa S)[i]?) = (wT cI (q 104) (qa 4) (tOf 4 S)).map some := rfl
theorem tr_4 (cI : ClassId) (q qa : Nat → Nat) (S : CS) : ([0, 1, 2, 3, 4, 5, 6, 7, 8, 9, 10, 11, 12, 13, 14, 15, 16, 17, 18, 21, 22, 23, 24, 25, 26] : List Nat).map (fun i => (wC cI q qa S)[i]?) = (((wC cI q qa S).eraseIdx 20).eraseIdx 19).map some := rfl
theorem ty_4 (cI : ClassId) (q qa : Nat → Nat) (S T : CS) (a : Nat) : ([0, 1, 2, 3, 4, 5, 6, 7, 8, 9, 10, 11, 12, 13, 14, 15, 16, 17, 18, 25, 26, 19, 20, 21, 22, 23, 24] : List Nat).map (fun i => ((((wC cI q qa S).eraseIdx 20).eraseIdx 19) ++ wT cI (q 104) a T)[i]?) = (wC cI q (va_up qa 4 a) (tIn 4 S T)).map some := rfl
theorem tw_5 (cI : ClassId) (q qa : Nat → Nat) (S : CS) : [21, 22].map (fun i => (wC cI q qa S)[i]?) = (wT cI (q 105) (qa 5) (tOf 5 S)).map some := rfl
theorem tr_5 (cI : ClassId) (q qa : Nat → Nat) (S : CS) : ([0, 1, 2, 3, 4, 5, 6, 7, 8, 9, 10, 11, 12, 13, 14, 15, 16, 17, 18, 19, 20, 23, 24, 25, 26] : List Nat).map (fun i => (wC cI q qa S)[i]?) = (((wC cI q qa S).eraseIdx 22).eraseIdx 21).map some := rfl
theorem ty_5 (cI : ClassId) (q qa : Nat → Nat) (S T : CS) (a : Nat) : ([0, 1, 2, 3, 4, 5, 6, 7, 8, 9, 10, 11, 12, 13, 14, 15, 16, 17, 18, 19, 20, 25, 26, 21, 22, 23, 24] : List Nat).map (fun i => ((((wC cI q qa S).eraseIdx 22).eraseIdx 21) ++ wT cI (q 105) a T)[i]?) = (wC cI q (va_up qa 5 a) (tIn 5 S T)).map some := rfl
theorem tw_6 (cI : ClassId) (q qa : Nat → Nat) (S : CS) : [23, 24].map (fun i => (wC cI q qa S)[i]?) = (wT cI (q 106) (qa 6) (tOf 6 S)).map some := rfl
theorem tr_6 (cI : ClassId) (q qa : Nat → Nat) (S : CS) : ([0, 1, 2, 3, 4, 5, 6, 7, 8, 9, 10, 11, 12, 13, 14, 15, 16, 17, 18, 19, 20, 21, 22, 25, 26] : List Nat).map (fun i => (wC cI q qa S)[i]?) = (((wC cI q qa S).eraseIdx 24).eraseIdx 23).map some := rfl
theorem ty_6 (cI : ClassId) (q qa : Nat → Nat) (S T : CS) (a : Nat) : ([0, 1, 2, 3, 4, 5, 6, 7, 8, 9, 10, 11, 12, 13, 14, 15, 16, 17, 18, 19, 20, 21, 22, 25, 26, 23, 24] : List Nat).map (fun i => ((((wC cI q qa S).eraseIdx 24).eraseIdx 23) ++ wT cI (q 106) a T)[i]?) = (wC cI q (va_up qa 6 a) (tIn 6 S T)).map some := rfl
theorem tw_7 (cI : ClassId) (q qa : Nat → Nat) (S : CS) : [25, 26].map (fun i => (wC cI q qa S)[i]?) = (wT cI (q 107) (qa 7) (tOf 7 S)).map some := rfl
theorem tr_7 (cI : ClassId) (q qa : Nat → Nat) (S : CS) : ([0, 1, 2, 3, 4, 5, 6, 7, 8, 9, 10, 11, 12, 13, 14, 15, 16, 17, 18, 19, 20, 21, 22, 23, 24] : List Nat).map (fun i => (wC cI q qa S)[i]?) = (((wC cI q qa S).eraseIdx 26).eraseIdx 25).map some := rfl
theorem ty_7 (cI : ClassId) (q qa : Nat → Nat) (S T : CS) (a : Nat) : ([0, 1, 2, 3, 4, 5, 6, 7, 8, 9, 10, 11, 12, 13, 14, 15, 16, 17, 18, 19, 20, 21, 22, 23, 24, 25, 26] : List Nat).map (fun i => ((((wC cI q qa S).eraseIdx 26).eraseIdx 25) ++ wT cI (q 107) a T)[i]?) = (wC cI q (va_up qa 7 a) (tIn 7 S T)).map some := rfl
theorem pm_P {D : va_G} {cl : List vw_C} {ws ws' : va_W} {H : Heap} (h : va_P D cl ws H) (is : List Nat) (hs : is.map (fun i => ws[i]?) = ws'.map some) : va_P D cl ws' H := by
  refine h.sub is ?_
  have h2 := congrArg (List.filterMap id) hs
  rw [List.filterMap_map, List.filterMap_map] at h2
  simpa [Function.comp_def] using h2
theorem hTi_0 (hsf : sfOk sf) (X : hX p s m args meth c cc nL own rt D (tyC cI) sf A) {y : MethodName} {bb : ByteArray} {nz fz lz n ix : Nat} {ret : Option FieldType} {As rest : List Value} {Fz : Option (Int32 × CS)} {K : Int32 → CS → Option (ρ × CS)} (hM : MetW l D (tyC cI) sf (wT cI (q 100)) y bb nz ret fz lz QWi (.ref (q 100) :: As) (tOf 0 S) Fz) (cw : ∀ a0 b0 mc ms : Nat, CallW (rmC fr lo a0 b0) s args own RX2 ix y bb nz ret (wsM y bb nz ret) (rmC fz lz mc ms) mc ms n) (hn : As.length = n) (hst : st = As.reverse ++ .ref (q 100) :: rest) (hcat : (rest.map fun v => v.category).sum ≤ 8) (d : decode cc pc = .ok (.invokevirtual ix, 3))
    (kk : ∀ v S1, hG p l e (fun r => rmC fr lo (cS r.2 - cS S0) (sS r.2 - sS S0)) s m args below meth c nL (ZW D (wC cI q) A s.heap S0 S1) (cS S1 - cS S0) (sS S1 - sS S0) QQ (fun r => le S1 r.2) (pc + 3) lv (.int v :: rest) (K v S1)) : hG p l e (fun r => rmC fr lo (cS r.2 - cS S0) (sS r.2 - sS S0)) s m args below meth c nL (ZW D (wC cI q) A s.heap S0 S) (cS S - cS S0) (sS S - sS S0) QQ (fun r => le S r.2) pc lv st (bT 0 S Fz K) := by
  refine ⟨fun r hr => ?_, fun r hr H locs ls hz hl => ?_⟩
  · obtain ⟨a, hF, hr⟩ := bT_some hr
    exact le_tr (le_in 0 (by decide) (hM.1 a hF)) ((kk _ _).1 r hr)
  · obtain ⟨a, hF, hr⟩ := bT_some hr
    obtain ⟨qa, h0, hP, hD, hS⟩ := hz
    have hm0 := hM.1 a hF
    have hm1 := le_in 0 (by decide) hm0
    have hm2 := (kk a.1 (tIn 0 S a.2)).1 r hr
    have hPc := pm_P hP [11, 12] (tw_0 cI q qa S)
    have hDc := hD.sub [11, 12] (by decide) (tw_0 cI q qa S)
    have hfree : ∀ y, va_A (wT cI (q 100) (qa 0) (tOf 0 S)) H.size y → A y := by
      intro y hy
      rcases hy with ⟨k, e, hk⟩ | hy
      · exact hDc.2 k (y, e) hk
      · exact X.2.1 y (Nat.le_trans hS.1 hy)
    have q1 : cS (tOf 0 S) = cS S := rfl
    have q2 : sS (tOf 0 S) = sS S := rfl
    have q3 : cS (tIn 0 S a.2) = cS a.2 := rfl
    have q4 : sS (tIn 0 S a.2) = sS a.2 := rfl
    have e1 : cS S - cS S0 + (cS a.2 - cS (tOf 0 S)) = cS (tIn 0 S a.2) - cS S0 := by have := h0.1; have := hm1.1; omega
    have e2 : sS S - sS S0 + (sS a.2 - sS (tOf 0 S)) = sS (tIn 0 S a.2) - sS S0 := by have := h0.2; have := hm1.2; omega
    have f1 : cS S - cS S0 + (cS a.2 - cS (tOf 0 S)) ≤ cS r.2 - cS S0 := by rw [e1]; have := hm2.1; omega
    have f2 : sS S - sS S0 + (sS a.2 - sS (tOf 0 S)) ≤ sS r.2 - sS S0 := by rw [e2]; have := hm2.2; omega
    refine va_calli (va_runV (As := As) (rest := rest) ⟨X.1.1, X.1.2.1, X.1.2.2.1, X.1.2.2.2.1, X.1.2.2.2.2.1⟩ (hM.2 (qa 0) H.size a hF) (cw _ _ _ _) ⟨PcW_blind hsf, va_recv X.1.2.2.2.2.2.1 hPc (ci := 2) (q0 := 0) rfl rfl, fun U hU hW => ⟨rfl, by rw [hU], by rw [hU]; exact hPc, va_K.moved hW.alike X.1.2.2.2.2.2.1, hDc.weaken (fun _ _ _ _ => trivial), hsf _ _ s U X.2.2 hfree (Or.inl hW) (fun y h1 h2 => by rw [hU]; exact hS.2.1 y h1 h2)⟩⟩ rfl hn hl.1 hst (lv_room hcat) d ⟨f1, f2⟩) hS (fun y _ h => hfree y h) hfree (fun v u t H1 locs1 ht hvm hw hB hz1 hk1 hS1 => ?_)
    obtain ⟨rfl, rfl⟩ := hw
    obtain ⟨a1, hP1, hK1, hD1⟩ := hB
    subst ht
    rw [e1, e2]
    obtain ⟨hPj, hDj⟩ := va_join hP hD [11, 12] [0, 1, 2, 3, 4, 5, 6, 7, 8, 9, 10, 13, 14, 15, 16, 17, 18, 19, 20, 21, 22, 23, 24, 25, 26] (tw_0 cI q qa S) (tr_0 cI q qa S) (by decide) (by decide) hk1 hfree hP1 hD1
    exact (kk _ _).2 r hr _ _ ls ⟨va_up qa 0 a1, le_tr h0 hm1, pm_P hPj [0, 1, 2, 3, 4, 5, 6, 7, 8, 9, 10, 25, 26, 11, 12, 13, 14, 15, 16, 17, 18, 19, 20, 21, 22, 23, 24] (ty_0 cI q qa S a.2 a1), hDj.sub [0, 1, 2, 3, 4, 5, 6, 7, 8, 9, 10, 25, 26, 11, 12, 13, 14, 15, 16, 17, 18, 19, 20, 21, 22, 23, 24] (by decide) (ty_0 cI q qa S a.2 a1), hS1⟩ hl
theorem hTv_0 (hsf : sfOk sf) (X : hX p s m args meth c cc nL own rt D (tyC cI) sf A) {y : MethodName} {bb : ByteArray} {nz fz lz n ix : Nat} {ret : Option FieldType} {As rest : List Value} {Fz : Option (Int32 × CS)} {K : Int32 → CS → Option (ρ × CS)} (hM : MetW l D (tyC cI) sf (wT cI (q 100)) y bb nz ret fz lz QWv (.ref (q 100) :: As) (tOf 0 S) Fz) (cw : ∀ a0 b0 mc ms : Nat, CallW (rmC fr lo a0 b0) s args own RX2 ix y bb nz ret (wsM y bb nz ret) (rmC fz lz mc ms) mc ms n) (hn : As.length = n) (hst : st = As.reverse ++ .ref (q 100) :: rest) (hcat : (rest.map fun v => v.category).sum ≤ 8) (d : decode cc pc = .ok (.invokevirtual ix, 3))
    (kk : ∀ v S1, hG p l e (fun r => rmC fr lo (cS r.2 - cS S0) (sS r.2 - sS S0)) s m args below meth c nL (ZW D (wC cI q) A s.heap S0 S1) (cS S1 - cS S0) (sS S1 - sS S0) QQ (fun r => le S1 r.2) (pc + 3) lv rest (K v S1)) : hG p l e (fun r => rmC fr lo (cS r.2 - cS S0) (sS r.2 - sS S0)) s m args below meth c nL (ZW D (wC cI q) A s.heap S0 S) (cS S - cS S0) (sS S - sS S0) QQ (fun r => le S r.2) pc lv st (bT 0 S Fz K) := by
  refine ⟨fun r hr => ?_, fun r hr H locs ls hz hl => ?_⟩
  · obtain ⟨a, hF, hr⟩ := bT_some hr
    exact le_tr (le_in 0 (by decide) (hM.1 a hF)) ((kk _ _).1 r hr)
  · obtain ⟨a, hF, hr⟩ := bT_some hr
    obtain ⟨qa, h0, hP, hD, hS⟩ := hz
    have hm0 := hM.1 a hF
    have hm1 := le_in 0 (by decide) hm0
    have hm2 := (kk a.1 (tIn 0 S a.2)).1 r hr
    have hPc := pm_P hP [11, 12] (tw_0 cI q qa S)
    have hDc := hD.sub [11, 12] (by decide) (tw_0 cI q qa S)
    have hfree : ∀ y, va_A (wT cI (q 100) (qa 0) (tOf 0 S)) H.size y → A y := by
      intro y hy
      rcases hy with ⟨k, e, hk⟩ | hy
      · exact hDc.2 k (y, e) hk
      · exact X.2.1 y (Nat.le_trans hS.1 hy)
    have q1 : cS (tOf 0 S) = cS S := rfl
    have q2 : sS (tOf 0 S) = sS S := rfl
    have q3 : cS (tIn 0 S a.2) = cS a.2 := rfl
    have q4 : sS (tIn 0 S a.2) = sS a.2 := rfl
    have e1 : cS S - cS S0 + (cS a.2 - cS (tOf 0 S)) = cS (tIn 0 S a.2) - cS S0 := by have := h0.1; have := hm1.1; omega
    have e2 : sS S - sS S0 + (sS a.2 - sS (tOf 0 S)) = sS (tIn 0 S a.2) - sS S0 := by have := h0.2; have := hm1.2; omega
    have f1 : cS S - cS S0 + (cS a.2 - cS (tOf 0 S)) ≤ cS r.2 - cS S0 := by rw [e1]; have := hm2.1; omega
    have f2 : sS S - sS S0 + (sS a.2 - sS (tOf 0 S)) ≤ sS r.2 - sS S0 := by rw [e2]; have := hm2.2; omega
    refine va_callv (va_runV (As := As) (rest := rest) ⟨X.1.1, X.1.2.1, X.1.2.2.1, X.1.2.2.2.1, X.1.2.2.2.2.1⟩ (hM.2 (qa 0) H.size a hF) (cw _ _ _ _) ⟨PcW_blind hsf, va_recv X.1.2.2.2.2.2.1 hPc (ci := 2) (q0 := 0) rfl rfl, fun U hU hW => ⟨rfl, by rw [hU], by rw [hU]; exact hPc, va_K.moved hW.alike X.1.2.2.2.2.2.1, hDc.weaken (fun _ _ _ _ => trivial), hsf _ _ s U X.2.2 hfree (Or.inl hW) (fun y h1 h2 => by rw [hU]; exact hS.2.1 y h1 h2)⟩⟩ rfl hn hl.1 hst (lv_room hcat) d ⟨f1, f2⟩) hS (fun y _ h => hfree y h) hfree (fun u t H1 locs1 ht hvm hw hB hz1 hk1 hS1 => ?_)
    subst hw
    obtain ⟨a1, hP1, hK1, hD1⟩ := hB
    subst ht
    rw [e1, e2]
    obtain ⟨hPj, hDj⟩ := va_join hP hD [11, 12] [0, 1, 2, 3, 4, 5, 6, 7, 8, 9, 10, 13, 14, 15, 16, 17, 18, 19, 20, 21, 22, 23, 24, 25, 26] (tw_0 cI q qa S) (tr_0 cI q qa S) (by decide) (by decide) hk1 hfree hP1 hD1
    exact (kk _ _).2 r hr _ _ ls ⟨va_up qa 0 a1, le_tr h0 hm1, pm_P hPj [0, 1, 2, 3, 4, 5, 6, 7, 8, 9, 10, 25, 26, 11, 12, 13, 14, 15, 16, 17, 18, 19, 20, 21, 22, 23, 24] (ty_0 cI q qa S a.2 a1), hDj.sub [0, 1, 2, 3, 4, 5, 6, 7, 8, 9, 10, 25, 26, 11, 12, 13, 14, 15, 16, 17, 18, 19, 20, 21, 22, 23, 24] (by decide) (ty_0 cI q qa S a.2 a1), hS1⟩ hl
theorem hTi_1 (hsf : sfOk sf) (X : hX p s m args meth c cc nL own rt D (tyC cI) sf A) {y : MethodName} {bb : ByteArray} {nz fz lz n ix : Nat} {ret : Option FieldType} {As rest : List Value} {Fz : Option (Int32 × CS)} {K : Int32 → CS → Option (ρ × CS)} (hM : MetW l D (tyC cI) sf (wT cI (q 101)) y bb nz ret fz lz QWi (.ref (q 101) :: As) (tOf 1 S) Fz) (cw : ∀ a0 b0 mc ms : Nat, CallW (rmC fr lo a0 b0) s args own RX2 ix y bb nz ret (wsM y bb nz ret) (rmC fz lz mc ms) mc ms n) (hn : As.length = n) (hst : st = As.reverse ++ .ref (q 101) :: rest) (hcat : (rest.map fun v => v.category).sum ≤ 8) (d : decode cc pc = .ok (.invokevirtual ix, 3))
    (kk : ∀ v S1, hG p l e (fun r => rmC fr lo (cS r.2 - cS S0) (sS r.2 - sS S0)) s m args below meth c nL (ZW D (wC cI q) A s.heap S0 S1) (cS S1 - cS S0) (sS S1 - sS S0) QQ (fun r => le S1 r.2) (pc + 3) lv (.int v :: rest) (K v S1)) : hG p l e (fun r => rmC fr lo (cS r.2 - cS S0) (sS r.2 - sS S0)) s m args below meth c nL (ZW D (wC cI q) A s.heap S0 S) (cS S - cS S0) (sS S - sS S0) QQ (fun r => le S r.2) pc lv st (bT 1 S Fz K) := by
  refine ⟨fun r hr => ?_, fun r hr H locs ls hz hl => ?_⟩
  · obtain ⟨a, hF, hr⟩ := bT_some hr
    exact le_tr (le_in 1 (by decide) (hM.1 a hF)) ((kk _ _).1 r hr)
  · obtain ⟨a, hF, hr⟩ := bT_some hr
    obtain ⟨qa, h0, hP, hD, hS⟩ := hz
    have hm0 := hM.1 a hF
    have hm1 := le_in 1 (by decide) hm0
    have hm2 := (kk a.1 (tIn 1 S a.2)).1 r hr
    have hPc := pm_P hP [13, 14] (tw_1 cI q qa S)
    have hDc := hD.sub [13, 14] (by decide) (tw_1 cI q qa S)
    have hfree : ∀ y, va_A (wT cI (q 101) (qa 1) (tOf 1 S)) H.size y → A y := by
      intro y hy
      rcases hy with ⟨k, e, hk⟩ | hy
      · exact hDc.2 k (y, e) hk
      · exact X.2.1 y (Nat.le_trans hS.1 hy)
    have q1 : cS (tOf 1 S) = cS S := rfl
    have q2 : sS (tOf 1 S) = sS S := rfl
    have q3 : cS (tIn 1 S a.2) = cS a.2 := rfl
    have q4 : sS (tIn 1 S a.2) = sS a.2 := rfl
    have e1 : cS S - cS S0 + (cS a.2 - cS (tOf 1 S)) = cS (tIn 1 S a.2) - cS S0 := by have := h0.1; have := hm1.1; omega
    have e2 : sS S - sS S0 + (sS a.2 - sS (tOf 1 S)) = sS (tIn 1 S a.2) - sS S0 := by have := h0.2; have := hm1.2; omega
    have f1 : cS S - cS S0 + (cS a.2 - cS (tOf 1 S)) ≤ cS r.2 - cS S0 := by rw [e1]; have := hm2.1; omega
    have f2 : sS S - sS S0 + (sS a.2 - sS (tOf 1 S)) ≤ sS r.2 - sS S0 := by rw [e2]; have := hm2.2; omega
    refine va_calli (va_runV (As := As) (rest := rest) ⟨X.1.1, X.1.2.1, X.1.2.2.1, X.1.2.2.2.1, X.1.2.2.2.2.1⟩ (hM.2 (qa 1) H.size a hF) (cw _ _ _ _) ⟨PcW_blind hsf, va_recv X.1.2.2.2.2.2.1 hPc (ci := 2) (q0 := 0) rfl rfl, fun U hU hW => ⟨rfl, by rw [hU], by rw [hU]; exact hPc, va_K.moved hW.alike X.1.2.2.2.2.2.1, hDc.weaken (fun _ _ _ _ => trivial), hsf _ _ s U X.2.2 hfree (Or.inl hW) (fun y h1 h2 => by rw [hU]; exact hS.2.1 y h1 h2)⟩⟩ rfl hn hl.1 hst (lv_room hcat) d ⟨f1, f2⟩) hS (fun y _ h => hfree y h) hfree (fun v u t H1 locs1 ht hvm hw hB hz1 hk1 hS1 => ?_)
    obtain ⟨rfl, rfl⟩ := hw
    obtain ⟨a1, hP1, hK1, hD1⟩ := hB
    subst ht
    rw [e1, e2]
    obtain ⟨hPj, hDj⟩ := va_join hP hD [13, 14] [0, 1, 2, 3, 4, 5, 6, 7, 8, 9, 10, 11, 12, 15, 16, 17, 18, 19, 20, 21, 22, 23, 24, 25, 26] (tw_1 cI q qa S) (tr_1 cI q qa S) (by decide) (by decide) hk1 hfree hP1 hD1
    exact (kk _ _).2 r hr _ _ ls ⟨va_up qa 1 a1, le_tr h0 hm1, pm_P hPj [0, 1, 2, 3, 4, 5, 6, 7, 8, 9, 10, 11, 12, 25, 26, 13, 14, 15, 16, 17, 18, 19, 20, 21, 22, 23, 24] (ty_1 cI q qa S a.2 a1), hDj.sub [0, 1, 2, 3, 4, 5, 6, 7, 8, 9, 10, 11, 12, 25, 26, 13, 14, 15, 16, 17, 18, 19, 20, 21, 22, 23, 24] (by decide) (ty_1 cI q qa S a.2 a1), hS1⟩ hl
theorem hTv_1 (hsf : sfOk sf) (X : hX p s m args meth c cc nL own rt D (tyC cI) sf A) {y : MethodName} {bb : ByteArray} {nz fz lz n ix : Nat} {ret : Option FieldType} {As rest : List Value} {Fz : Option (Int32 × CS)} {K : Int32 → CS → Option (ρ × CS)} (hM : MetW l D (tyC cI) sf (wT cI (q 101)) y bb nz ret fz lz QWv (.ref (q 101) :: As) (tOf 1 S) Fz) (cw : ∀ a0 b0 mc ms : Nat, CallW (rmC fr lo a0 b0) s args own RX2 ix y bb nz ret (wsM y bb nz ret) (rmC fz lz mc ms) mc ms n) (hn : As.length = n) (hst : st = As.reverse ++ .ref (q 101) :: rest) (hcat : (rest.map fun v => v.category).sum ≤ 8) (d : decode cc pc = .ok (.invokevirtual ix, 3))
    (kk : ∀ v S1, hG p l e (fun r => rmC fr lo (cS r.2 - cS S0) (sS r.2 - sS S0)) s m args below meth c nL (ZW D (wC cI q) A s.heap S0 S1) (cS S1 - cS S0) (sS S1 - sS S0) QQ (fun r => le S1 r.2) (pc + 3) lv rest (K v S1)) : hG p l e (fun r => rmC fr lo (cS r.2 - cS S0) (sS r.2 - sS S0)) s m args below meth c nL (ZW D (wC cI q) A s.heap S0 S) (cS S - cS S0) (sS S - sS S0) QQ (fun r => le S r.2) pc lv st (bT 1 S Fz K) := by
  refine ⟨fun r hr => ?_, fun r hr H locs ls hz hl => ?_⟩
  · obtain ⟨a, hF, hr⟩ := bT_some hr
    exact le_tr (le_in 1 (by decide) (hM.1 a hF)) ((kk _ _).1 r hr)
  · obtain ⟨a, hF, hr⟩ := bT_some hr
    obtain ⟨qa, h0, hP, hD, hS⟩ := hz
    have hm0 := hM.1 a hF
    have hm1 := le_in 1 (by decide) hm0
    have hm2 := (kk a.1 (tIn 1 S a.2)).1 r hr
    have hPc := pm_P hP [13, 14] (tw_1 cI q qa S)
    have hDc := hD.sub [13, 14] (by decide) (tw_1 cI q qa S)
    have hfree : ∀ y, va_A (wT cI (q 101) (qa 1) (tOf 1 S)) H.size y → A y := by
      intro y hy
      rcases hy with ⟨k, e, hk⟩ | hy
      · exact hDc.2 k (y, e) hk
      · exact X.2.1 y (Nat.le_trans hS.1 hy)
    have q1 : cS (tOf 1 S) = cS S := rfl
    have q2 : sS (tOf 1 S) = sS S := rfl
    have q3 : cS (tIn 1 S a.2) = cS a.2 := rfl
    have q4 : sS (tIn 1 S a.2) = sS a.2 := rfl
    have e1 : cS S - cS S0 + (cS a.2 - cS (tOf 1 S)) = cS (tIn 1 S a.2) - cS S0 := by have := h0.1; have := hm1.1; omega
    have e2 : sS S - sS S0 + (sS a.2 - sS (tOf 1 S)) = sS (tIn 1 S a.2) - sS S0 := by have := h0.2; have := hm1.2; omega
    have f1 : cS S - cS S0 + (cS a.2 - cS (tOf 1 S)) ≤ cS r.2 - cS S0 := by rw [e1]; have := hm2.1; omega
    have f2 : sS S - sS S0 + (sS a.2 - sS (tOf 1 S)) ≤ sS r.2 - sS S0 := by rw [e2]; have := hm2.2; omega
    refine va_callv (va_runV (As := As) (rest := rest) ⟨X.1.1, X.1.2.1, X.1.2.2.1, X.1.2.2.2.1, X.1.2.2.2.2.1⟩ (hM.2 (qa 1) H.size a hF) (cw _ _ _ _) ⟨PcW_blind hsf, va_recv X.1.2.2.2.2.2.1 hPc (ci := 2) (q0 := 0) rfl rfl, fun U hU hW => ⟨rfl, by rw [hU], by rw [hU]; exact hPc, va_K.moved hW.alike X.1.2.2.2.2.2.1, hDc.weaken (fun _ _ _ _ => trivial), hsf _ _ s U X.2.2 hfree (Or.inl hW) (fun y h1 h2 => by rw [hU]; exact hS.2.1 y h1 h2)⟩⟩ rfl hn hl.1 hst (lv_room hcat) d ⟨f1, f2⟩) hS (fun y _ h => hfree y h) hfree (fun u t H1 locs1 ht hvm hw hB hz1 hk1 hS1 => ?_)
    subst hw
    obtain ⟨a1, hP1, hK1, hD1⟩ := hB
    subst ht
    rw [e1, e2]
    obtain ⟨hPj, hDj⟩ := va_join hP hD [13, 14] [0, 1, 2, 3, 4, 5, 6, 7, 8, 9, 10, 11, 12, 15, 16, 17, 18, 19, 20, 21, 22, 23, 24, 25, 26] (tw_1 cI q qa S) (tr_1 cI q qa S) (by decide) (by decide) hk1 hfree hP1 hD1
    exact (kk _ _).2 r hr _ _ ls ⟨va_up qa 1 a1, le_tr h0 hm1, pm_P hPj [0, 1, 2, 3, 4, 5, 6, 7, 8, 9, 10, 11, 12, 25, 26, 13, 14, 15, 16, 17, 18, 19, 20, 21, 22, 23, 24] (ty_1 cI q qa S a.2 a1), hDj.sub [0, 1, 2, 3, 4, 5, 6, 7, 8, 9, 10, 11, 12, 25, 26, 13, 14, 15, 16, 17, 18, 19, 20, 21, 22, 23, 24] (by decide) (ty_1 cI q qa S a.2 a1), hS1⟩ hl
theorem hTi_2 (hsf : sfOk sf) (X : hX p s m args meth c cc nL own rt D (tyC cI) sf A) {y : MethodName} {bb : ByteArray} {nz fz lz n ix : Nat} {ret : Option FieldType} {As rest : List Value} {Fz : Option (Int32 × CS)} {K : Int32 → CS → Option (ρ × CS)} (hM : MetW l D (tyC cI) sf (wT cI (q 102)) y bb nz ret fz lz QWi (.ref (q 102) :: As) (tOf 2 S) Fz) (cw : ∀ a0 b0 mc ms : Nat, CallW (rmC fr lo a0 b0) s args own RX2 ix y bb nz ret (wsM y bb nz ret) (rmC fz lz mc ms) mc ms n) (hn : As.length = n) (hst : st = As.reverse ++ .ref (q 102) :: rest) (hcat : (rest.map fun v => v.category).sum ≤ 8) (d : decode cc pc = .ok (.invokevirtual ix, 3))
    (kk : ∀ v S1, hG p l e (fun r => rmC fr lo (cS r.2 - cS S0) (sS r.2 - sS S0)) s m args below meth c nL (ZW D (wC cI q) A s.heap S0 S1) (cS S1 - cS S0) (sS S1 - sS S0) QQ (fun r => le S1 r.2) (pc + 3) lv (.int v :: rest) (K v S1)) : hG p l e (fun r => rmC fr lo (cS r.2 - cS S0) (sS r.2 - sS S0)) s m args below meth c nL (ZW D (wC cI q) A s.heap S0 S) (cS S - cS S0) (sS S - sS S0) QQ (fun r => le S r.2) pc lv st (bT 2 S Fz K) := by
  refine ⟨fun r hr => ?_, fun r hr H locs ls hz hl => ?_⟩
  · obtain ⟨a, hF, hr⟩ := bT_some hr
    exact le_tr (le_in 2 (by decide) (hM.1 a hF)) ((kk _ _).1 r hr)
  · obtain ⟨a, hF, hr⟩ := bT_some hr
    obtain ⟨qa, h0, hP, hD, hS⟩ := hz
    have hm0 := hM.1 a hF
    have hm1 := le_in 2 (by decide) hm0
    have hm2 := (kk a.1 (tIn 2 S a.2)).1 r hr
    have hPc := pm_P hP [15, 16] (tw_2 cI q qa S)
    have hDc := hD.sub [15, 16] (by decide) (tw_2 cI q qa S)
    have hfree : ∀ y, va_A (wT cI (q 102) (qa 2) (tOf 2 S)) H.size y → A y := by
      intro y hy
      rcases hy with ⟨k, e, hk⟩ | hy
      · exact hDc.2 k (y, e) hk
      · exact X.2.1 y (Nat.le_trans hS.1 hy)
    have q1 : cS (tOf 2 S) = cS S := rfl
    have q2 : sS (tOf 2 S) = sS S := rfl
    have q3 : cS (tIn 2 S a.2) = cS a.2 := rfl
    have q4 : sS (tIn 2 S a.2) = sS a.2 := rfl
    have e1 : cS S - cS S0 + (cS a.2 - cS (tOf 2 S)) = cS (tIn 2 S a.2) - cS S0 := by have := h0.1; have := hm1.1; omega
    have e2 : sS S - sS S0 + (sS a.2 - sS (tOf 2 S)) = sS (tIn 2 S a.2) - sS S0 := by have := h0.2; have := hm1.2; omega
    have f1 : cS S - cS S0 + (cS a.2 - cS (tOf 2 S)) ≤ cS r.2 - cS S0 := by rw [e1]; have := hm2.1; omega
    have f2 : sS S - sS S0 + (sS a.2 - sS (tOf 2 S)) ≤ sS r.2 - sS S0 := by rw [e2]; have := hm2.2; omega
    refine va_calli (va_runV (As := As) (rest := rest) ⟨X.1.1, X.1.2.1, X.1.2.2.1, X.1.2.2.2.1, X.1.2.2.2.2.1⟩ (hM.2 (qa 2) H.size a hF) (cw _ _ _ _) ⟨PcW_blind hsf, va_recv X.1.2.2.2.2.2.1 hPc (ci := 2) (q0 := 0) rfl rfl, fun U hU hW => ⟨rfl, by rw [hU], by rw [hU]; exact hPc, va_K.moved hW.alike X.1.2.2.2.2.2.1, hDc.weaken (fun _ _ _ _ => trivial), hsf _ _ s U X.2.2 hfree (Or.inl hW) (fun y h1 h2 => by rw [hU]; exact hS.2.1 y h1 h2)⟩⟩ rfl hn hl.1 hst (lv_room hcat) d ⟨f1, f2⟩) hS (fun y _ h => hfree y h) hfree (fun v u t H1 locs1 ht hvm hw hB hz1 hk1 hS1 => ?_)
    obtain ⟨rfl, rfl⟩ := hw
    obtain ⟨a1, hP1, hK1, hD1⟩ := hB
    subst ht
    rw [e1, e2]
    obtain ⟨hPj, hDj⟩ := va_join hP hD [15, 16] [0, 1, 2, 3, 4, 5, 6, 7, 8, 9, 10, 11, 12, 13, 14, 17, 18, 19, 20, 21, 22, 23, 24, 25, 26] (tw_2 cI q qa S) (tr_2 cI q qa S) (by decide) (by decide) hk1 hfree hP1 hD1
    exact (kk _ _).2 r hr _ _ ls ⟨va_up qa 2 a1, le_tr h0 hm1, pm_P hPj [0, 1, 2, 3, 4, 5, 6, 7, 8, 9, 10, 11, 12, 13, 14, 25, 26, 15, 16, 17, 18, 19, 20, 21, 22, 23, 24] (ty_2 cI q qa S a.2 a1), hDj.sub [0, 1, 2, 3, 4, 5, 6, 7, 8, 9, 10, 11, 12, 13, 14, 25, 26, 15, 16, 17, 18, 19, 20, 21, 22, 23, 24] (by decide) (ty_2 cI q qa S a.2 a1), hS1⟩ hl
theorem hTv_2 (hsf : sfOk sf) (X : hX p s m args meth c cc nL own rt D (tyC cI) sf A) {y : MethodName} {bb : ByteArray} {nz fz lz n ix : Nat} {ret : Option FieldType} {As rest : List Value} {Fz : Option (Int32 × CS)} {K : Int32 → CS → Option (ρ × CS)} (hM : MetW l D (tyC cI) sf (wT cI (q 102)) y bb nz ret fz lz QWv (.ref (q 102) :: As) (tOf 2 S) Fz) (cw : ∀ a0 b0 mc ms : Nat, CallW (rmC fr lo a0 b0) s args own RX2 ix y bb nz ret (wsM y bb nz ret) (rmC fz lz mc ms) mc ms n) (hn : As.length = n) (hst : st = As.reverse ++ .ref (q 102) :: rest) (hcat : (rest.map fun v => v.category).sum ≤ 8) (d : decode cc pc = .ok (.invokevirtual ix, 3))
    (kk : ∀ v S1, hG p l e (fun r => rmC fr lo (cS r.2 - cS S0) (sS r.2 - sS S0)) s m args below meth c nL (ZW D (wC cI q) A s.heap S0 S1) (cS S1 - cS S0) (sS S1 - sS S0) QQ (fun r => le S1 r.2) (pc + 3) lv rest (K v S1)) : hG p l e (fun r => rmC fr lo (cS r.2 - cS S0) (sS r.2 - sS S0)) s m args below meth c nL (ZW D (wC cI q) A s.heap S0 S) (cS S - cS S0) (sS S - sS S0) QQ (fun r => le S r.2) pc lv st (bT 2 S Fz K) := by
  refine ⟨fun r hr => ?_, fun r hr H locs ls hz hl => ?_⟩
  · obtain ⟨a, hF, hr⟩ := bT_some hr
    exact le_tr (le_in 2 (by decide) (hM.1 a hF)) ((kk _ _).1 r hr)
  · obtain ⟨a, hF, hr⟩ := bT_some hr
    obtain ⟨qa, h0, hP, hD, hS⟩ := hz
    have hm0 := hM.1 a hF
    have hm1 := le_in 2 (by decide) hm0
    have hm2 := (kk a.1 (tIn 2 S a.2)).1 r hr
    have hPc := pm_P hP [15, 16] (tw_2 cI q qa S)
    have hDc := hD.sub [15, 16] (by decide) (tw_2 cI q qa S)
    have hfree : ∀ y, va_A (wT cI (q 102) (qa 2) (tOf 2 S)) H.size y → A y := by
      intro y hy
      rcases hy with ⟨k, e, hk⟩ | hy
      · exact hDc.2 k (y, e) hk
      · exact X.2.1 y (Nat.le_trans hS.1 hy)
    have q1 : cS (tOf 2 S) = cS S := rfl
    have q2 : sS (tOf 2 S) = sS S := rfl
    have q3 : cS (tIn 2 S a.2) = cS a.2 := rfl
    have q4 : sS (tIn 2 S a.2) = sS a.2 := rfl
    have e1 : cS S - cS S0 + (cS a.2 - cS (tOf 2 S)) = cS (tIn 2 S a.2) - cS S0 := by have := h0.1; have := hm1.1; omega
    have e2 : sS S - sS S0 + (sS a.2 - sS (tOf 2 S)) = sS (tIn 2 S a.2) - sS S0 := by have := h0.2; have := hm1.2; omega
    have f1 : cS S - cS S0 + (cS a.2 - cS (tOf 2 S)) ≤ cS r.2 - cS S0 := by rw [e1]; have := hm2.1; omega
    have f2 : sS S - sS S0 + (sS a.2 - sS (tOf 2 S)) ≤ sS r.2 - sS S0 := by rw [e2]; have := hm2.2; omega
    refine va_callv (va_runV (As := As) (rest := rest) ⟨X.1.1, X.1.2.1, X.1.2.2.1, X.1.2.2.2.1, X.1.2.2.2.2.1⟩ (hM.2 (qa 2) H.size a hF) (cw _ _ _ _) ⟨PcW_blind hsf, va_recv X.1.2.2.2.2.2.1 hPc (ci := 2) (q0 := 0) rfl rfl, fun U hU hW => ⟨rfl, by rw [hU], by rw [hU]; exact hPc, va_K.moved hW.alike X.1.2.2.2.2.2.1, hDc.weaken (fun _ _ _ _ => trivial), hsf _ _ s U X.2.2 hfree (Or.inl hW) (fun y h1 h2 => by rw [hU]; exact hS.2.1 y h1 h2)⟩⟩ rfl hn hl.1 hst (lv_room hcat) d ⟨f1, f2⟩) hS (fun y _ h => hfree y h) hfree (fun u t H1 locs1 ht hvm hw hB hz1 hk1 hS1 => ?_)
    subst hw
    obtain ⟨a1, hP1, hK1, hD1⟩ := hB
    subst ht
    rw [e1, e2]
    obtain ⟨hPj, hDj⟩ := va_join hP hD [15, 16] [0, 1, 2, 3, 4, 5, 6, 7, 8, 9, 10, 11, 12, 13, 14, 17, 18, 19, 20, 21, 22, 23, 24, 25, 26] (tw_2 cI q qa S) (tr_2 cI q qa S) (by decide) (by decide) hk1 hfree hP1 hD1
    exact (kk _ _).2 r hr _ _ ls ⟨va_up qa 2 a1, le_tr h0 hm1, pm_P hPj [0, 1, 2, 3, 4, 5, 6, 7, 8, 9, 10, 11, 12, 13, 14, 25, 26, 15, 16, 17, 18, 19, 20, 21, 22, 23, 24] (ty_2 cI q qa S a.2 a1), hDj.sub [0, 1, 2, 3, 4, 5, 6, 7, 8, 9, 10, 11, 12, 13, 14, 25, 26, 15, 16, 17, 18, 19, 20, 21, 22, 23, 24] (by decide) (ty_2 cI q qa S a.2 a1), hS1⟩ hl
theorem hTi_3 (hsf : sfOk sf) (X : hX p s m args meth c cc nL own rt D (tyC cI) sf A) {y : MethodName} {bb : ByteArray} {nz fz lz n ix : Nat} {ret : Option FieldType} {As rest : List Value} {Fz : Option (Int32 × CS)} {K : Int32 → CS → Option (ρ × CS)} (hM : MetW l D (tyC cI) sf (wT cI (q 103)) y bb nz ret fz lz QWi (.ref (q 103) :: As) (tOf 3 S) Fz) (cw : ∀ a0 b0 mc ms : Nat, CallW (rmC fr lo a0 b0) s args own RX2 ix y bb nz ret (wsM y bb nz ret) (rmC fz lz mc ms) mc ms n) (hn : As.length = n) (hst : st = As.reverse ++ .ref (q 103) :: rest) (hcat : (rest.map fun v => v.category).sum ≤ 8) (d : decode cc pc = .ok (.invokevirtual ix, 3))
    (kk : ∀ v S1, hG p l e (fun r => rmC fr lo (cS r.2 - cS S0) (sS r.2 - sS S0)) s m args below meth c nL (ZW D (wC cI q) A s.heap S0 S1) (cS S1 - cS S0) (sS S1 - sS S0) QQ (fun r => le S1 r.2) (pc + 3) lv (.int v :: rest) (K v S1)) : hG p l e (fun r => rmC fr lo (cS r.2 - cS S0) (sS r.2 - sS S0)) s m args below meth c nL (ZW D (wC cI q) A s.heap S0 S) (cS S - cS S0) (sS S - sS S0) QQ (fun r => le S r.2) pc lv st (bT 3 S Fz K) := by
  refine ⟨fun r hr => ?_, fun r hr H locs ls hz hl => ?_⟩
  · obtain ⟨a, hF, hr⟩ := bT_some hr
    exact le_tr (le_in 3 (by decide) (hM.1 a hF)) ((kk _ _).1 r hr)
  · obtain ⟨a, hF, hr⟩ := bT_some hr
    obtain ⟨qa, h0, hP, hD, hS⟩ := hz
    have hm0 := hM.1 a hF
    have hm1 := le_in 3 (by decide) hm0
    have hm2 := (kk a.1 (tIn 3 S a.2)).1 r hr
    have hPc := pm_P hP [17, 18] (tw_3 cI q qa S)
    have hDc := hD.sub [17, 18] (by decide) (tw_3 cI q qa S)
    have hfree : ∀ y, va_A (wT cI (q 103) (qa 3) (tOf 3 S)) H.size y → A y := by
      intro y hy
      rcases hy with ⟨k, e, hk⟩ | hy
      · exact hDc.2 k (y, e) hk
      · exact X.2.1 y (Nat.le_trans hS.1 hy)
    have q1 : cS (tOf 3 S) = cS S := rfl
    have q2 : sS (tOf 3 S) = sS S := rfl
    have q3 : cS (tIn 3 S a.2) = cS a.2 := rfl
    have q4 : sS (tIn 3 S a.2) = sS a.2 := rfl
    have e1 : cS S - cS S0 + (cS a.2 - cS (tOf 3 S)) = cS (tIn 3 S a.2) - cS S0 := by have := h0.1; have := hm1.1; omega
    have e2 : sS S - sS S0 + (sS a.2 - sS (tOf 3 S)) = sS (tIn 3 S a.2) - sS S0 := by have := h0.2; have := hm1.2; omega
    have f1 : cS S - cS S0 + (cS a.2 - cS (tOf 3 S)) ≤ cS r.2 - cS S0 := by rw [e1]; have := hm2.1; omega
    have f2 : sS S - sS S0 + (sS a.2 - sS (tOf 3 S)) ≤ sS r.2 - sS S0 := by rw [e2]; have := hm2.2; omega
    refine va_calli (va_runV (As := As) (rest := rest) ⟨X.1.1, X.1.2.1, X.1.2.2.1, X.1.2.2.2.1, X.1.2.2.2.2.1⟩ (hM.2 (qa 3) H.size a hF) (cw _ _ _ _) ⟨PcW_blind hsf, va_recv X.1.2.2.2.2.2.1 hPc (ci := 2) (q0 := 0) rfl rfl, fun U hU hW => ⟨rfl, by rw [hU], by rw [hU]; exact hPc, va_K.moved hW.alike X.1.2.2.2.2.2.1, hDc.weaken (fun _ _ _ _ => trivial), hsf _ _ s U X.2.2 hfree (Or.inl hW) (fun y h1 h2 => by rw [hU]; exact hS.2.1 y h1 h2)⟩⟩ rfl hn hl.1 hst (lv_room hcat) d ⟨f1, f2⟩) hS (fun y _ h => hfree y h) hfree (fun v u t H1 locs1 ht hvm hw hB hz1 hk1 hS1 => ?_)
    obtain ⟨rfl, rfl⟩ := hw
    obtain ⟨a1, hP1, hK1, hD1⟩ := hB
    subst ht
    rw [e1, e2]
    obtain ⟨hPj, hDj⟩ := va_join hP hD [17, 18] [0, 1, 2, 3, 4, 5, 6, 7, 8, 9, 10, 11, 12, 13, 14, 15, 16, 19, 20, 21, 22, 23, 24, 25, 26] (tw_3 cI q qa S) (tr_3 cI q qa S) (by decide) (by decide) hk1 hfree hP1 hD1
    exact (kk _ _).2 r hr _ _ ls ⟨va_up qa 3 a1, le_tr h0 hm1, pm_P hPj [0, 1, 2, 3, 4, 5, 6, 7, 8, 9, 10, 11, 12, 13, 14, 15, 16, 25, 26, 17, 18, 19, 20, 21, 22, 23, 24] (ty_3 cI q qa S a.2 a1), hDj.sub [0, 1, 2, 3, 4, 5, 6, 7, 8, 9, 10, 11, 12, 13, 14, 15, 16, 25, 26, 17, 18, 19, 20, 21, 22, 23, 24] (by decide) (ty_3 cI q qa S a.2 a1), hS1⟩ hl
theorem hTv_3 (hsf : sfOk sf) (X : hX p s m args meth c cc nL own rt D (tyC cI) sf A) {y : MethodName} {bb : ByteArray} {nz fz lz n ix : Nat} {ret : Option FieldType} {As rest : List Value} {Fz : Option (Int32 × CS)} {K : Int32 → CS → Option (ρ × CS)} (hM : MetW l D (tyC cI) sf (wT cI (q 103)) y bb nz ret fz lz QWv (.ref (q 103) :: As) (tOf 3 S) Fz) (cw : ∀ a0 b0 mc ms : Nat, CallW (rmC fr lo a0 b0) s args own RX2 ix y bb nz ret (wsM y bb nz ret) (rmC fz lz mc ms) mc ms n) (hn : As.length = n) (hst : st = As.reverse ++ .ref (q 103) :: rest) (hcat : (rest.map fun v => v.category).sum ≤ 8) (d : decode cc pc = .ok (.invokevirtual ix, 3))
    (kk : ∀ v S1, hG p l e (fun r => rmC fr lo (cS r.2 - cS S0) (sS r.2 - sS S0)) s m args below meth c nL (ZW D (wC cI q) A s.heap S0 S1) (cS S1 - cS S0) (sS S1 - sS S0) QQ (fun r => le S1 r.2) (pc + 3) lv rest (K v S1)) : hG p l e (fun r => rmC fr lo (cS r.2 - cS S0) (sS r.2 - sS S0)) s m args below meth c nL (ZW D (wC cI q) A s.heap S0 S) (cS S - cS S0) (sS S - sS S0) QQ (fun r => le S r.2) pc lv st (bT 3 S Fz K) := by
  refine ⟨fun r hr => ?_, fun r hr H locs ls hz hl => ?_⟩
  · obtain ⟨a, hF, hr⟩ := bT_some hr
    exact le_tr (le_in 3 (by decide) (hM.1 a hF)) ((kk _ _).1 r hr)
  · obtain ⟨a, hF, hr⟩ := bT_some hr
    obtain ⟨qa, h0, hP, hD, hS⟩ := hz
    have hm0 := hM.1 a hF
    have hm1 := le_in 3 (by decide) hm0
    have hm2 := (kk a.1 (tIn 3 S a.2)).1 r hr
    have hPc := pm_P hP [17, 18] (tw_3 cI q qa S)
    have hDc := hD.sub [17, 18] (by decide) (tw_3 cI q qa S)
    have hfree : ∀ y, va_A (wT cI (q 103) (qa 3) (tOf 3 S)) H.size y → A y := by
      intro y hy
      rcases hy with ⟨k, e, hk⟩ | hy
      · exact hDc.2 k (y, e) hk
      · exact X.2.1 y (Nat.le_trans hS.1 hy)
    have q1 : cS (tOf 3 S) = cS S := rfl
    have q2 : sS (tOf 3 S) = sS S := rfl
    have q3 : cS (tIn 3 S a.2) = cS a.2 := rfl
    have q4 : sS (tIn 3 S a.2) = sS a.2 := rfl
    have e1 : cS S - cS S0 + (cS a.2 - cS (tOf 3 S)) = cS (tIn 3 S a.2) - cS S0 := by have := h0.1; have := hm1.1; omega
    have e2 : sS S - sS S0 + (sS a.2 - sS (tOf 3 S)) = sS (tIn 3 S a.2) - sS S0 := by have := h0.2; have := hm1.2; omega
    have f1 : cS S - cS S0 + (cS a.2 - cS (tOf 3 S)) ≤ cS r.2 - cS S0 := by rw [e1]; have := hm2.1; omega
    have f2 : sS S - sS S0 + (sS a.2 - sS (tOf 3 S)) ≤ sS r.2 - sS S0 := by rw [e2]; have := hm2.2; omega
    refine va_callv (va_runV (As := As) (rest := rest) ⟨X.1.1, X.1.2.1, X.1.2.2.1, X.1.2.2.2.1, X.1.2.2.2.2.1⟩ (hM.2 (qa 3) H.size a hF) (cw _ _ _ _) ⟨PcW_blind hsf, va_recv X.1.2.2.2.2.2.1 hPc (ci := 2) (q0 := 0) rfl rfl, fun U hU hW => ⟨rfl, by rw [hU], by rw [hU]; exact hPc, va_K.moved hW.alike X.1.2.2.2.2.2.1, hDc.weaken (fun _ _ _ _ => trivial), hsf _ _ s U X.2.2 hfree (Or.inl hW) (fun y h1 h2 => by rw [hU]; exact hS.2.1 y h1 h2)⟩⟩ rfl hn hl.1 hst (lv_room hcat) d ⟨f1, f2⟩) hS (fun y _ h => hfree y h) hfree (fun u t H1 locs1 ht hvm hw hB hz1 hk1 hS1 => ?_)
    subst hw
    obtain ⟨a1, hP1, hK1, hD1⟩ := hB
    subst ht
    rw [e1, e2]
    obtain ⟨hPj, hDj⟩ := va_join hP hD [17, 18] [0, 1, 2, 3, 4, 5, 6, 7, 8, 9, 10, 11, 12, 13, 14, 15, 16, 19, 20, 21, 22, 23, 24, 25, 26] (tw_3 cI q qa S) (tr_3 cI q qa S) (by decide) (by decide) hk1 hfree hP1 hD1
    exact (kk _ _).2 r hr _ _ ls ⟨va_up qa 3 a1, le_tr h0 hm1, pm_P hPj [0, 1, 2, 3, 4, 5, 6, 7, 8, 9, 10, 11, 12, 13, 14, 15, 16, 25, 26, 17, 18, 19, 20, 21, 22, 23, 24] (ty_3 cI q qa S a.2 a1), hDj.sub [0, 1, 2, 3, 4, 5, 6, 7, 8, 9, 10, 11, 12, 13, 14, 15, 16, 25, 26, 17, 18, 19, 20, 21, 22, 23, 24] (by decide) (ty_3 cI q qa S a.2 a1), hS1⟩ hl
theorem hTi_4 (hsf : sfOk sf) (X : hX p s m args meth c cc nL own rt D (tyC cI) sf A) {y : MethodName} {bb : ByteArray} {nz fz lz n ix : Nat} {ret : Option FieldType} {As rest : List Value} {Fz : Option (Int32 × CS)} {K : Int32 → CS → Option (ρ × CS)} (hM : MetW l D (tyC cI) sf (wT cI (q 104)) y bb nz ret fz lz QWi (.ref (q 104) :: As) (tOf 4 S) Fz) (cw : ∀ a0 b0 mc ms : Nat, CallW (rmC fr lo a0 b0) s args own RX2 ix y bb nz ret (wsM y bb nz ret) (rmC fz lz mc ms) mc ms n) (hn : As.length = n) (hst : st = As.reverse ++ .ref (q 104) :: rest) (hcat : (rest.map fun v => v.category).sum ≤ 8) (d : decode cc pc = .ok (.invokevirtual ix, 3))
    (kk : ∀ v S1, hG p l e (fun r => rmC fr lo (cS r.2 - cS S0) (sS r.2 - sS S0)) s m args below meth c nL (ZW D (wC cI q) A s.heap S0 S1) (cS S1 - cS S0) (sS S1 - sS S0) QQ (fun r => le S1 r.2) (pc + 3) lv (.int v :: rest) (K v S1)) : hG p l e (fun r => rmC fr lo (cS r.2 - cS S0) (sS r.2 - sS S0)) s m args below meth c nL (ZW D (wC cI q) A s.heap S0 S) (cS S - cS S0) (sS S - sS S0) QQ (fun r => le S r.2) pc lv st (bT 4 S Fz K) := by
  refine ⟨fun r hr => ?_, fun r hr H locs ls hz hl => ?_⟩
  · obtain ⟨a, hF, hr⟩ := bT_some hr
    exact le_tr (le_in 4 (by decide) (hM.1 a hF)) ((kk _ _).1 r hr)
  · obtain ⟨a, hF, hr⟩ := bT_some hr
    obtain ⟨qa, h0, hP, hD, hS⟩ := hz
    have hm0 := hM.1 a hF
    have hm1 := le_in 4 (by decide) hm0
    have hm2 := (kk a.1 (tIn 4 S a.2)).1 r hr
    have hPc := pm_P hP [19, 20] (tw_4 cI q qa S)
    have hDc := hD.sub [19, 20] (by decide) (tw_4 cI q qa S)
    have hfree : ∀ y, va_A (wT cI (q 104) (qa 4) (tOf 4 S)) H.size y → A y := by
      intro y hy
      rcases hy with ⟨k, e, hk⟩ | hy
      · exact hDc.2 k (y, e) hk
      · exact X.2.1 y (Nat.le_trans hS.1 hy)
    have q1 : cS (tOf 4 S) = cS S := rfl
    have q2 : sS (tOf 4 S) = sS S := rfl
    have q3 : cS (tIn 4 S a.2) = cS a.2 := rfl
    have q4 : sS (tIn 4 S a.2) = sS a.2 := rfl
    have e1 : cS S - cS S0 + (cS a.2 - cS (tOf 4 S)) = cS (tIn 4 S a.2) - cS S0 := by have := h0.1; have := hm1.1; omega
    have e2 : sS S - sS S0 + (sS a.2 - sS (tOf 4 S)) = sS (tIn 4 S a.2) - sS S0 := by have := h0.2; have := hm1.2; omega
    have f1 : cS S - cS S0 + (cS a.2 - cS (tOf 4 S)) ≤ cS r.2 - cS S0 := by rw [e1]; have := hm2.1; omega
    have f2 : sS S - sS S0 + (sS a.2 - sS (tOf 4 S)) ≤ sS r.2 - sS S0 := by rw [e2]; have := hm2.2; omega
    refine va_calli (va_runV (As := As) (rest := rest) ⟨X.1.1, X.1.2.1, X.1.2.2.1, X.1.2.2.2.1, X.1.2.2.2.2.1⟩ (hM.2 (qa 4) H.size a hF) (cw _ _ _ _) ⟨PcW_blind hsf, va_recv X.1.2.2.2.2.2.1 hPc (ci := 2) (q0 := 0) rfl rfl, fun U hU hW => ⟨rfl, by rw [hU], by rw [hU]; exact hPc, va_K.moved hW.alike X.1.2.2.2.2.2.1, hDc.weaken (fun _ _ _ _ => trivial), hsf _ _ s U X.2.2 hfree (Or.inl hW) (fun y h1 h2 => by rw [hU]; exact hS.2.1 y h1 h2)⟩⟩ rfl hn hl.1 hst (lv_room hcat) d ⟨f1, f2⟩) hS (fun y _ h => hfree y h) hfree (fun v u t H1 locs1 ht hvm hw hB hz1 hk1 hS1 => ?_)
    obtain ⟨rfl, rfl⟩ := hw
    obtain ⟨a1, hP1, hK1, hD1⟩ := hB
    subst ht
    rw [e1, e2]
    obtain ⟨hPj, hDj⟩ := va_join hP hD [19, 20] [0, 1, 2, 3, 4, 5, 6, 7, 8, 9, 10, 11, 12, 13, 14, 15, 16, 17, 18, 21, 22, 23, 24, 25, 26] (tw_4 cI q qa S) (tr_4 cI q qa S) (by decide) (by decide) hk1 hfree hP1 hD1
    exact (kk _ _).2 r hr _ _ ls ⟨va_up qa 4 a1, le_tr h0 hm1, pm_P hPj [0, 1, 2, 3, 4, 5, 6, 7, 8, 9, 10, 11, 12, 13, 14, 15, 16, 17, 18, 25, 26, 19, 20, 21, 22, 23, 24] (ty_4 cI q qa S a.2 a1), hDj.sub [0, 1, 2, 3, 4, 5, 6, 7, 8, 9, 10, 11, 12, 13, 14, 15, 16, 17, 18, 25, 26, 19, 20, 21, 22, 23, 24] (by decide) (ty_4 cI q qa S a.2 a1), hS1⟩ hl
theorem hTv_4 (hsf : sfOk sf) (X : hX p s m args meth c cc nL own rt D (tyC cI) sf A) {y : MethodName} {bb : ByteArray} {nz fz lz n ix : Nat} {ret : Option FieldType} {As rest : List Value} {Fz : Option (Int32 × CS)} {K : Int32 → CS → Option (ρ × CS)} (hM : MetW l D (tyC cI) sf (wT cI (q 104)) y bb nz ret fz lz QWv (.ref (q 104) :: As) (tOf 4 S) Fz) (cw : ∀ a0 b0 mc ms : Nat, CallW (rmC fr lo a0 b0) s args own RX2 ix y bb nz ret (wsM y bb nz ret) (rmC fz lz mc ms) mc ms n) (hn : As.length = n) (hst : st = As.reverse ++ .ref (q 104) :: rest) (hcat : (rest.map fun v => v.category).sum ≤ 8) (d : decode cc pc = .ok (.invokevirtual ix, 3))
    (kk : ∀ v S1, hG p l e (fun r => rmC fr lo (cS r.2 - cS S0) (sS r.2 - sS S0)) s m args below meth c nL (ZW D (wC cI q) A s.heap S0 S1) (cS S1 - cS S0) (sS S1 - sS S0) QQ (fun r => le S1 r.2) (pc + 3) lv rest (K v S1)) : hG p l e (fun r => rmC fr lo (cS r.2 - cS S0) (sS r.2 - sS S0)) s m args below meth c nL (ZW D (wC cI q) A s.heap S0 S) (cS S - cS S0) (sS S - sS S0) QQ (fun r => le S r.2) pc lv st (bT 4 S Fz K) := by
  refine ⟨fun r hr => ?_, fun r hr H locs ls hz hl => ?_⟩
  · obtain ⟨a, hF, hr⟩ := bT_some hr
    exact le_tr (le_in 4 (by decide) (hM.1 a hF)) ((kk _ _).1 r hr)
  · obtain ⟨a, hF, hr⟩ := bT_some hr
    obtain ⟨qa, h0, hP, hD, hS⟩ := hz
    have hm0 := hM.1 a hF
    have hm1 := le_in 4 (by decide) hm0
    have hm2 := (kk a.1 (tIn 4 S a.2)).1 r hr
    have hPc := pm_P hP [19, 20] (tw_4 cI q qa S)
    have hDc := hD.sub [19, 20] (by decide) (tw_4 cI q qa S)
    have hfree : ∀ y, va_A (wT cI (q 104) (qa 4) (tOf 4 S)) H.size y → A y := by
      intro y hy
      rcases hy with ⟨k, e, hk⟩ | hy
      · exact hDc.2 k (y, e) hk
      · exact X.2.1 y (Nat.le_trans hS.1 hy)
    have q1 : cS (tOf 4 S) = cS S := rfl
    have q2 : sS (tOf 4 S) = sS S := rfl
    have q3 : cS (tIn 4 S a.2) = cS a.2 := rfl
    have q4 : sS (tIn 4 S a.2) = sS a.2 := rfl
    have e1 : cS S - cS S0 + (cS a.2 - cS (tOf 4 S)) = cS (tIn 4 S a.2) - cS S0 := by have := h0.1; have := hm1.1; omega
    have e2 : sS S - sS S0 + (sS a.2 - sS (tOf 4 S)) = sS (tIn 4 S a.2) - sS S0 := by have := h0.2; have := hm1.2; omega
    have f1 : cS S - cS S0 + (cS a.2 - cS (tOf 4 S)) ≤ cS r.2 - cS S0 := by rw [e1]; have := hm2.1; omega
    have f2 : sS S - sS S0 + (sS a.2 - sS (tOf 4 S)) ≤ sS r.2 - sS S0 := by rw [e2]; have := hm2.2; omega
    refine va_callv (va_runV (As := As) (rest := rest) ⟨X.1.1, X.1.2.1, X.1.2.2.1, X.1.2.2.2.1, X.1.2.2.2.2.1⟩ (hM.2 (qa 4) H.size a hF) (cw _ _ _ _) ⟨PcW_blind hsf, va_recv X.1.2.2.2.2.2.1 hPc (ci := 2) (q0 := 0) rfl rfl, fun U hU hW => ⟨rfl, by rw [hU], by rw [hU]; exact hPc, va_K.moved hW.alike X.1.2.2.2.2.2.1, hDc.weaken (fun _ _ _ _ => trivial), hsf _ _ s U X.2.2 hfree (Or.inl hW) (fun y h1 h2 => by rw [hU]; exact hS.2.1 y h1 h2)⟩⟩ rfl hn hl.1 hst (lv_room hcat) d ⟨f1, f2⟩) hS (fun y _ h => hfree y h) hfree (fun u t H1 locs1 ht hvm hw hB hz1 hk1 hS1 => ?_)
    subst hw
    obtain ⟨a1, hP1, hK1, hD1⟩ := hB
    subst ht
    rw [e1, e2]
    obtain ⟨hPj, hDj⟩ := va_join hP hD [19, 20] [0, 1, 2, 3, 4, 5, 6, 7, 8, 9, 10, 11, 12, 13, 14, 15, 16, 17, 18, 21, 22, 23, 24, 25, 26] (tw_4 cI q qa S) (tr_4 cI q qa S) (by decide) (by decide) hk1 hfree hP1 hD1
    exact (kk _ _).2 r hr _ _ ls ⟨va_up qa 4 a1, le_tr h0 hm1, pm_P hPj [0, 1, 2, 3, 4, 5, 6, 7, 8, 9, 10, 11, 12, 13, 14, 15, 16, 17, 18, 25, 26, 19, 20, 21, 22, 23, 24] (ty_4 cI q qa S a.2 a1), hDj.sub [0, 1, 2, 3, 4, 5, 6, 7, 8, 9, 10, 11, 12, 13, 14, 15, 16, 17, 18, 25, 26, 19, 20, 21, 22, 23, 24] (by decide) (ty_4 cI q qa S a.2 a1), hS1⟩ hl
theorem hTi_5 (hsf : sfOk sf) (X : hX p s m args meth c cc nL own rt D (tyC cI) sf A) {y : MethodName} {bb : ByteArray} {nz fz lz n ix : Nat} {ret : Option FieldType} {As rest : List Value} {Fz : Option (Int32 × CS)} {K : Int32 → CS → Option (ρ × CS)} (hM : MetW l D (tyC cI) sf (wT cI (q 105)) y bb nz ret fz lz QWi (.ref (q 105) :: As) (tOf 5 S) Fz) (cw : ∀ a0 b0 mc ms : Nat, CallW (rmC fr lo a0 b0) s args own RX2 ix y bb nz ret (wsM y bb nz ret) (rmC fz lz mc ms) mc ms n) (hn : As.length = n) (hst : st = As.reverse ++ .ref (q 105) :: rest) (hcat : (rest.map fun v => v.category).sum ≤ 8) (d : decode cc pc = .ok (.invokevirtual ix, 3))
    (kk : ∀ v S1, hG p l e (fun r => rmC fr lo (cS r.2 - cS S0) (sS r.2 - sS S0)) s m args below meth c nL (ZW D (wC cI q) A s.heap S0 S1) (cS S1 - cS S0) (sS S1 - sS S0) QQ (fun r => le S1 r.2) (pc + 3) lv (.int v :: rest) (K v S1)) : hG p l e (fun r => rmC fr lo (cS r.2 - cS S0) (sS r.2 - sS S0)) s m args below meth c nL (ZW D (wC cI q) A s.heap S0 S) (cS S - cS S0) (sS S - sS S0) QQ (fun r => le S r.2) pc lv st (bT 5 S Fz K) := by
  refine ⟨fun r hr => ?_, fun r hr H locs ls hz hl => ?_⟩
  · obtain ⟨a, hF, hr⟩ := bT_some hr
    exact le_tr (le_in 5 (by decide) (hM.1 a hF)) ((kk _ _).1 r hr)
  · obtain ⟨a, hF, hr⟩ := bT_some hr
    obtain ⟨qa, h0, hP, hD, hS⟩ := hz
    have hm0 := hM.1 a hF
    have hm1 := le_in 5 (by decide) hm0
    have hm2 := (kk a.1 (tIn 5 S a.2)).1 r hr
    have hPc := pm_P hP [21, 22] (tw_5 cI q qa S)
    have hDc := hD.sub [21, 22] (by decide) (tw_5 cI q qa S)
    have hfree : ∀ y, va_A (wT cI (q 105) (qa 5) (tOf 5 S)) H.size y → A y := by
      intro y hy
      rcases hy with ⟨k, e, hk⟩ | hy
      · exact hDc.2 k (y, e) hk
      · exact X.2.1 y (Nat.le_trans hS.1 hy)
    have q1 : cS (tOf 5 S) = cS S := rfl
    have q2 : sS (tOf 5 S) = sS S := rfl
    have q3 : cS (tIn 5 S a.2) = cS a.2 := rfl
    have q4 : sS (tIn 5 S a.2) = sS a.2 := rfl
    have e1 : cS S - cS S0 + (cS a.2 - cS (tOf 5 S)) = cS (tIn 5 S a.2) - cS S0 := by have := h0.1; have := hm1.1; omega
    have e2 : sS S - sS S0 + (sS a.2 - sS (tOf 5 S)) = sS (tIn 5 S a.2) - sS S0 := by have := h0.2; have := hm1.2; omega
    have f1 : cS S - cS S0 + (cS a.2 - cS (tOf 5 S)) ≤ cS r.2 - cS S0 := by rw [e1]; have := hm2.1; omega
    have f2 : sS S - sS S0 + (sS a.2 - sS (tOf 5 S)) ≤ sS r.2 - sS S0 := by rw [e2]; have := hm2.2; omega
    refine va_calli (va_runV (As := As) (rest := rest) ⟨X.1.1, X.1.2.1, X.1.2.2.1, X.1.2.2.2.1, X.1.2.2.2.2.1⟩ (hM.2 (qa 5) H.size a hF) (cw _ _ _ _) ⟨PcW_blind hsf, va_recv X.1.2.2.2.2.2.1 hPc (ci := 2) (q0 := 0) rfl rfl, fun U hU hW => ⟨rfl, by rw [hU], by rw [hU]; exact hPc, va_K.moved hW.alike X.1.2.2.2.2.2.1, hDc.weaken (fun _ _ _ _ => trivial), hsf _ _ s U X.2.2 hfree (Or.inl hW) (fun y h1 h2 => by rw [hU]; exact hS.2.1 y h1 h2)⟩⟩ rfl hn hl.1 hst (lv_room hcat) d ⟨f1, f2⟩) hS (fun y _ h => hfree y h) hfree (fun v u t H1 locs1 ht hvm hw hB hz1 hk1 hS1 => ?_)
    obtain ⟨rfl, rfl⟩ := hw
    obtain ⟨a1, hP1, hK1, hD1⟩ := hB
    subst ht
    rw [e1, e2]
    obtain ⟨hPj, hDj⟩ := va_join hP hD [21, 22] [0, 1, 2, 3, 4, 5, 6, 7, 8, 9, 10, 11, 12, 13, 14, 15, 16, 17, 18, 19, 20, 23, 24, 25, 26] (tw_5 cI q qa S) (tr_5 cI q qa S) (by decide) (by decide) hk1 hfree hP1 hD1
    exact (kk _ _).2 r hr _ _ ls ⟨va_up qa 5 a1, le_tr h0 hm1, pm_P hPj [0, 1, 2, 3, 4, 5, 6, 7, 8, 9, 10, 11, 12, 13, 14, 15, 16, 17, 18, 19, 20, 25, 26, 21, 22, 23, 24] (ty_5 cI q qa S a.2 a1), hDj.sub [0, 1, 2, 3, 4, 5, 6, 7, 8, 9, 10, 11, 12, 13, 14, 15, 16, 17, 18, 19, 20, 25, 26, 21, 22, 23, 24] (by decide) (ty_5 cI q qa S a.2 a1), hS1⟩ hl
theorem hTv_5 (hsf : sfOk sf) (X : hX p s m args meth c cc nL own rt D (tyC cI) sf A) {y : MethodName} {bb : ByteArray} {nz fz lz n ix : Nat} {ret : Option FieldType} {As rest : List Value} {Fz : Option (Int32 × CS)} {K : Int32 → CS → Option (ρ × CS)} (hM : MetW l D (tyC cI) sf (wT cI (q 105)) y bb nz ret fz lz QWv (.ref (q 105) :: As) (tOf 5 S) Fz) (cw : ∀ a0 b0 mc ms : Nat, CallW (rmC fr lo a0 b0) s args own RX2 ix y bb nz ret (wsM y bb nz ret) (rmC fz lz mc ms) mc ms n) (hn : As.length = n) (hst : st = As.reverse ++ .ref (q 105) :: rest) (hcat : (rest.map fun v => v.category).sum ≤ 8) (d : decode cc pc = .ok (.invokevirtual ix, 3))
    (kk : ∀ v S1, hG p l e (fun r => rmC fr lo (cS r.2 - cS S0) (sS r.2 - sS S0)) s m args below meth c nL (ZW D (wC cI q) A s.heap S0 S1) (cS S1 - cS S0) (sS S1 - sS S0) QQ (fun r => le S1 r.2) (pc + 3) lv rest (K v S1)) : hG p l e (fun r => rmC fr lo (cS r.2 - cS S0) (sS r.2 - sS S0)) s m args below meth c nL (ZW D (wC cI q) A s.heap S0 S) (cS S - cS S0) (sS S - sS S0) QQ (fun r => le S r.2) pc lv st (bT 5 S Fz K) := by
  refine ⟨fun r hr => ?_, fun r hr H locs ls hz hl => ?_⟩
  · obtain ⟨a, hF, hr⟩ := bT_some hr
    exact le_tr (le_in 5 (by decide) (hM.1 a hF)) ((kk _ _).1 r hr)
  · obtain ⟨a, hF, hr⟩ := bT_some hr
    obtain ⟨qa, h0, hP, hD, hS⟩ := hz
    have hm0 := hM.1 a hF
    have hm1 := le_in 5 (by decide) hm0
    have hm2 := (kk a.1 (tIn 5 S a.2)).1 r hr
    have hPc := pm_P hP [21, 22] (tw_5 cI q qa S)
    have hDc := hD.sub [21, 22] (by decide) (tw_5 cI q qa S)
    have hfree : ∀ y, va_A (wT cI (q 105) (qa 5) (tOf 5 S)) H.size y → A y := by
      intro y hy
      rcases hy with ⟨k, e, hk⟩ | hy
      · exact hDc.2 k (y, e) hk
      · exact X.2.1 y (Nat.le_trans hS.1 hy)
    have q1 : cS (tOf 5 S) = cS S := rfl
    have q2 : sS (tOf 5 S) = sS S := rfl
    have q3 : cS (tIn 5 S a.2) = cS a.2 := rfl
    have q4 : sS (tIn 5 S a.2) = sS a.2 := rfl
    have e1 : cS S - cS S0 + (cS a.2 - cS (tOf 5 S)) = cS (tIn 5 S a.2) - cS S0 := by have := h0.1; have := hm1.1; omega
    have e2 : sS S - sS S0 + (sS a.2 - sS (tOf 5 S)) = sS (tIn 5 S a.2) - sS S0 := by have := h0.2; have := hm1.2; omega
    have f1 : cS S - cS S0 + (cS a.2 - cS (tOf 5 S)) ≤ cS r.2 - cS S0 := by rw [e1]; have := hm2.1; omega
    have f2 : sS S - sS S0 + (sS a.2 - sS (tOf 5 S)) ≤ sS r.2 - sS S0 := by rw [e2]; have := hm2.2; omega
    refine va_callv (va_runV (As := As) (rest := rest) ⟨X.1.1, X.1.2.1, X.1.2.2.1, X.1.2.2.2.1, X.1.2.2.2.2.1⟩ (hM.2 (qa 5) H.size a hF) (cw _ _ _ _) ⟨PcW_blind hsf, va_recv X.1.2.2.2.2.2.1 hPc (ci := 2) (q0 := 0) rfl rfl, fun U hU hW => ⟨rfl, by rw [hU], by rw [hU]; exact hPc, va_K.moved hW.alike X.1.2.2.2.2.2.1, hDc.weaken (fun _ _ _ _ => trivial), hsf _ _ s U X.2.2 hfree (Or.inl hW) (fun y h1 h2 => by rw [hU]; exact hS.2.1 y h1 h2)⟩⟩ rfl hn hl.1 hst (lv_room hcat) d ⟨f1, f2⟩) hS (fun y _ h => hfree y h) hfree (fun u t H1 locs1 ht hvm hw hB hz1 hk1 hS1 => ?_)
    subst hw
    obtain ⟨a1, hP1, hK1, hD1⟩ := hB
    subst ht
    rw [e1, e2]
    obtain ⟨hPj, hDj⟩ := va_join hP hD [21, 22] [0, 1, 2, 3, 4, 5, 6, 7, 8, 9, 10, 11, 12, 13, 14, 15, 16, 17, 18, 19, 20, 23, 24, 25, 26] (tw_5 cI q qa S) (tr_5 cI q qa S) (by decide) (by decide) hk1 hfree hP1 hD1
    exact (kk _ _).2 r hr _ _ ls ⟨va_up qa 5 a1, le_tr h0 hm1, pm_P hPj [0, 1, 2, 3, 4, 5, 6, 7, 8, 9, 10, 11, 12, 13, 14, 15, 16, 17, 18, 19, 20, 25, 26, 21, 22, 23, 24] (ty_5 cI q qa S a.2 a1), hDj.sub [0, 1, 2, 3, 4, 5, 6, 7, 8, 9, 10, 11, 12, 13, 14, 15, 16, 17, 18, 19, 20, 25, 26, 21, 22, 23, 24] (by decide) (ty_5 cI q qa S a.2 a1), hS1⟩ hl
theorem hTi_6 (hsf : sfOk sf) (X : hX p s m args meth c cc nL own rt D (tyC cI) sf A) {y : MethodName} {bb : ByteArray} {nz fz lz n ix : Nat} {ret : Option FieldType} {As rest : List Value} {Fz : Option (Int32 × CS)} {K : Int32 → CS → Option (ρ × CS)} (hM : MetW l D (tyC cI) sf (wT cI (q 106)) y bb nz ret fz lz QWi (.ref (q 106) :: As) (tOf 6 S) Fz) (cw : ∀ a0 b0 mc ms : Nat, CallW (rmC fr lo a0 b0) s args own RX2 ix y bb nz ret (wsM y bb nz ret) (rmC fz lz mc ms) mc ms n) (hn : As.length = n) (hst : st = As.reverse ++ .ref (q 106) :: rest) (hcat : (rest.map fun v => v.category).sum ≤ 8) (d : decode cc pc = .ok (.invokevirtual ix, 3))
    (kk : ∀ v S1, hG p l e (fun r => rmC fr lo (cS r.2 - cS S0) (sS r.2 - sS S0)) s m args below meth c nL (ZW D (wC cI q) A s.heap S0 S1) (cS S1 - cS S0) (sS S1 - sS S0) QQ (fun r => le S1 r.2) (pc + 3) lv (.int v :: rest) (K v S1)) : hG p l e (fun r => rmC fr lo (cS r.2 - cS S0) (sS r.2 - sS S0)) s m args below meth c nL (ZW D (wC cI q) A s.heap S0 S) (cS S - cS S0) (sS S - sS S0) QQ (fun r => le S r.2) pc lv st (bT 6 S Fz K) := by
  refine ⟨fun r hr => ?_, fun r hr H locs ls hz hl => ?_⟩
  · obtain ⟨a, hF, hr⟩ := bT_some hr
    exact le_tr (le_in 6 (by decide) (hM.1 a hF)) ((kk _ _).1 r hr)
  · obtain ⟨a, hF, hr⟩ := bT_some hr
    obtain ⟨qa, h0, hP, hD, hS⟩ := hz
    have hm0 := hM.1 a hF
    have hm1 := le_in 6 (by decide) hm0
    have hm2 := (kk a.1 (tIn 6 S a.2)).1 r hr
    have hPc := pm_P hP [23, 24] (tw_6 cI q qa S)
    have hDc := hD.sub [23, 24] (by decide) (tw_6 cI q qa S)
    have hfree : ∀ y, va_A (wT cI (q 106) (qa 6) (tOf 6 S)) H.size y → A y := by
      intro y hy
      rcases hy with ⟨k, e, hk⟩ | hy
      · exact hDc.2 k (y, e) hk
      · exact X.2.1 y (Nat.le_trans hS.1 hy)
    have q1 : cS (tOf 6 S) = cS S := rfl
    have q2 : sS (tOf 6 S) = sS S := rfl
    have q3 : cS (tIn 6 S a.2) = cS a.2 := rfl
    have q4 : sS (tIn 6 S a.2) = sS a.2 := rfl
    have e1 : cS S - cS S0 + (cS a.2 - cS (tOf 6 S)) = cS (tIn 6 S a.2) - cS S0 := by have := h0.1; have := hm1.1; omega
    have e2 : sS S - sS S0 + (sS a.2 - sS (tOf 6 S)) = sS (tIn 6 S a.2) - sS S0 := by have := h0.2; have := hm1.2; omega
    have f1 : cS S - cS S0 + (cS a.2 - cS (tOf 6 S)) ≤ cS r.2 - cS S0 := by rw [e1]; have := hm2.1; omega
    have f2 : sS S - sS S0 + (sS a.2 - sS (tOf 6 S)) ≤ sS r.2 - sS S0 := by rw [e2]; have := hm2.2; omega
    refine va_calli (va_runV (As := As) (rest := rest) ⟨X.1.1, X.1.2.1, X.1.2.2.1, X.1.2.2.2.1, X.1.2.2.2.2.1⟩ (hM.2 (qa 6) H.size a hF) (cw _ _ _ _) ⟨PcW_blind hsf, va_recv X.1.2.2.2.2.2.1 hPc (ci := 2) (q0 := 0) rfl rfl, fun U hU hW => ⟨rfl, by rw [hU], by rw [hU]; exact hPc, va_K.moved hW.alike X.1.2.2.2.2.2.1, hDc.weaken (fun _ _ _ _ => trivial), hsf _ _ s U X.2.2 hfree (Or.inl hW) (fun y h1 h2 => by rw [hU]; exact hS.2.1 y h1 h2)⟩⟩ rfl hn hl.1 hst (lv_room hcat) d ⟨f1, f2⟩) hS (fun y _ h => hfree y h) hfree (fun v u t H1 locs1 ht hvm hw hB hz1 hk1 hS1 => ?_)
    obtain ⟨rfl, rfl⟩ := hw
    obtain ⟨a1, hP1, hK1, hD1⟩ := hB
    subst ht
    rw [e1, e2]
    obtain ⟨hPj, hDj⟩ := va_join hP hD [23, 24] [0, 1, 2, 3, 4, 5, 6, 7, 8, 9, 10, 11, 12, 13, 14, 15, 16, 17, 18, 19, 20, 21, 22, 25, 26] (tw_6 cI q qa S) (tr_6 cI q qa S) (by decide) (by decide) hk1 hfree hP1 hD1
    exact (kk _ _).2 r hr _ _ ls ⟨va_up qa 6 a1, le_tr h0 hm1, pm_P hPj [0, 1, 2, 3, 4, 5, 6, 7, 8, 9, 10, 11, 12, 13, 14, 15, 16, 17, 18, 19, 20, 21, 22, 25, 26, 23, 24] (ty_6 cI q qa S a.2 a1), hDj.sub [0, 1, 2, 3, 4, 5, 6, 7, 8, 9, 10, 11, 12, 13, 14, 15, 16, 17, 18, 19, 20, 21, 22, 25, 26, 23, 24] (by decide) (ty_6 cI q qa S a.2 a1), hS1⟩ hl
theorem hTv_6 (hsf : sfOk sf) (X : hX p s m args meth c cc nL own rt D (tyC cI) sf A) {y : MethodName} {bb : ByteArray} {nz fz lz n ix : Nat} {ret : Option FieldType} {As rest : List Value} {Fz : Option (Int32 × CS)} {K : Int32 → CS → Option (ρ × CS)} (hM : MetW l D (tyC cI) sf (wT cI (q 106)) y bb nz ret fz lz QWv (.ref (q 106) :: As) (tOf 6 S) Fz) (cw : ∀ a0 b0 mc ms : Nat, CallW (rmC fr lo a0 b0) s args own RX2 ix y bb nz ret (wsM y bb nz ret) (rmC fz lz mc ms) mc ms n) (hn : As.length = n) (hst : st = As.reverse ++ .ref (q 106) :: rest) (hcat : (rest.map fun v => v.category).sum ≤ 8) (d : decode cc pc = .ok (.invokevirtual ix, 3))
    (kk : ∀ v S1, hG p l e (fun r => rmC fr lo (cS r.2 - cS S0) (sS r.2 - sS S0)) s m args below meth c nL (ZW D (wC cI q) A s.heap S0 S1) (cS S1 - cS S0) (sS S1 - sS S0) QQ (fun r => le S1 r.2) (pc + 3) lv rest (K v S1)) : hG p l e (fun r => rmC fr lo (cS r.2 - cS S0) (sS r.2 - sS S0)) s m args below meth c nL (ZW D (wC cI q) A s.heap S0 S) (cS S - cS S0) (sS S - sS S0) QQ (fun r => le S r.2) pc lv st (bT 6 S Fz K) := by
  refine ⟨fun r hr => ?_, fun r hr H locs ls hz hl => ?_⟩
  · obtain ⟨a, hF, hr⟩ := bT_some hr
    exact le_tr (le_in 6 (by decide) (hM.1 a hF)) ((kk _ _).1 r hr)
  · obtain ⟨a, hF, hr⟩ := bT_some hr
    obtain ⟨qa, h0, hP, hD, hS⟩ := hz
    have hm0 := hM.1 a hF
    have hm1 := le_in 6 (by decide) hm0
    have hm2 := (kk a.1 (tIn 6 S a.2)).1 r hr
    have hPc := pm_P hP [23, 24] (tw_6 cI q qa S)
    have hDc := hD.sub [23, 24] (by decide) (tw_6 cI q qa S)
    have hfree : ∀ y, va_A (wT cI (q 106) (qa 6) (tOf 6 S)) H.size y → A y := by
      intro y hy
      rcases hy with ⟨k, e, hk⟩ | hy
      · exact hDc.2 k (y, e) hk
      · exact X.2.1 y (Nat.le_trans hS.1 hy)
    have q1 : cS (tOf 6 S) = cS S := rfl
    have q2 : sS (tOf 6 S) = sS S := rfl
    have q3 : cS (tIn 6 S a.2) = cS a.2 := rfl
    have q4 : sS (tIn 6 S a.2) = sS a.2 := rfl
    have e1 : cS S - cS S0 + (cS a.2 - cS (tOf 6 S)) = cS (tIn 6 S a.2) - cS S0 := by have := h0.1; have := hm1.1; omega
    have e2 : sS S - sS S0 + (sS a.2 - sS (tOf 6 S)) = sS (tIn 6 S a.2) - sS S0 := by have := h0.2; have := hm1.2; omega
    have f1 : cS S - cS S0 + (cS a.2 - cS (tOf 6 S)) ≤ cS r.2 - cS S0 := by rw [e1]; have := hm2.1; omega
    have f2 : sS S - sS S0 + (sS a.2 - sS (tOf 6 S)) ≤ sS r.2 - sS S0 := by rw [e2]; have := hm2.2; omega
    refine va_callv (va_runV (As := As) (rest := rest) ⟨X.1.1, X.1.2.1, X.1.2.2.1, X.1.2.2.2.1, X.1.2.2.2.2.1⟩ (hM.2 (qa 6) H.size a hF) (cw _ _ _ _) ⟨PcW_blind hsf, va_recv X.1.2.2.2.2.2.1 hPc (ci := 2) (q0 := 0) rfl rfl, fun U hU hW => ⟨rfl, by rw [hU], by rw [hU]; exact hPc, va_K.moved hW.alike X.1.2.2.2.2.2.1, hDc.weaken (fun _ _ _ _ => trivial), hsf _ _ s U X.2.2 hfree (Or.inl hW) (fun y h1 h2 => by rw [hU]; exact hS.2.1 y h1 h2)⟩⟩ rfl hn hl.1 hst (lv_room hcat) d ⟨f1, f2⟩) hS (fun y _ h => hfree y h) hfree (fun u t H1 locs1 ht hvm hw hB hz1 hk1 hS1 => ?_)
    subst hw
    obtain ⟨a1, hP1, hK1, hD1⟩ := hB
    subst ht
    rw [e1, e2]
    obtain ⟨hPj, hDj⟩ := va_join hP hD [23, 24] [0, 1, 2, 3, 4, 5, 6, 7, 8, 9, 10, 11, 12, 13, 14, 15, 16, 17, 18, 19, 20, 21, 22, 25, 26] (tw_6 cI q qa S) (tr_6 cI q qa S) (by decide) (by decide) hk1 hfree hP1 hD1
    exact (kk _ _).2 r hr _ _ ls ⟨va_up qa 6 a1, le_tr h0 hm1, pm_P hPj [0, 1, 2, 3, 4, 5, 6, 7, 8, 9, 10, 11, 12, 13, 14, 15, 16, 17, 18, 19, 20, 21, 22, 25, 26, 23, 24] (ty_6 cI q qa S a.2 a1), hDj.sub [0, 1, 2, 3, 4, 5, 6, 7, 8, 9, 10, 11, 12, 13, 14, 15, 16, 17, 18, 19, 20, 21, 22, 25, 26, 23, 24] (by decide) (ty_6 cI q qa S a.2 a1), hS1⟩ hl
theorem hTi_7 (hsf : sfOk sf) (X : hX p s m args meth c cc nL own rt D (tyC cI) sf A) {y : MethodName} {bb : ByteArray} {nz fz lz n ix : Nat} {ret : Option FieldType} {As rest : List Value} {Fz : Option (Int32 × CS)} {K : Int32 → CS → Option (ρ × CS)} (hM : MetW l D (tyC cI) sf (wT cI (q 107)) y bb nz ret fz lz QWi (.ref (q 107) :: As) (tOf 7 S) Fz) (cw : ∀ a0 b0 mc ms : Nat, CallW (rmC fr lo a0 b0) s args own RX2 ix y bb nz ret (wsM y bb nz ret) (rmC fz lz mc ms) mc ms n) (hn : As.length = n) (hst : st = As.reverse ++ .ref (q 107) :: rest) (hcat : (rest.map fun v => v.category).sum ≤ 8) (d : decode cc pc = .ok (.invokevirtual ix, 3))
    (kk : ∀ v S1, hG p l e (fun r => rmC fr lo (cS r.2 - cS S0) (sS r.2 - sS S0)) s m args below meth c nL (ZW D (wC cI q) A s.heap S0 S1) (cS S1 - cS S0) (sS S1 - sS S0) QQ (fun r => le S1 r.2) (pc + 3) lv (.int v :: rest) (K v S1)) : hG p l e (fun r => rmC fr lo (cS r.2 - cS S0) (sS r.2 - sS S0)) s m args below meth c nL (ZW D (wC cI q) A s.heap S0 S) (cS S - cS S0) (sS S - sS S0) QQ (fun r => le S r.2) pc lv st (bT 7 S Fz K) := by
  refine ⟨fun r hr => ?_, fun r hr H locs ls hz hl => ?_⟩
  · obtain ⟨a, hF, hr⟩ := bT_some hr
    exact le_tr (le_in 7 (by decide) (hM.1 a hF)) ((kk _ _).1 r hr)
  · obtain ⟨a, hF, hr⟩ := bT_some hr
    obtain ⟨qa, h0, hP, hD, hS⟩ := hz
    have hm0 := hM.1 a hF
    have hm1 := le_in 7 (by decide) hm0
    have hm2 := (kk a.1 (tIn 7 S a.2)).1 r hr
    have hPc := pm_P hP [25, 26] (tw_7 cI q qa S)
    have hDc := hD.sub [25, 26] (by decide) (tw_7 cI q qa S)
    have hfree : ∀ y, va_A (wT cI (q 107) (qa 7) (tOf 7 S)) H.size y → A y := by
      intro y hy
      rcases hy with ⟨k, e, hk⟩ | hy
      · exact hDc.2 k (y, e) hk
      · exact X.2.1 y (Nat.le_trans hS.1 hy)
    have q1 : cS (tOf 7 S) = cS S := rfl
    have q2 : sS (tOf 7 S) = sS S := rfl
    have q3 : cS (tIn 7 S a.2) = cS a.2 := rfl
    have q4 : sS (tIn 7 S a.2) = sS a.2 := rfl
    have e1 : cS S - cS S0 + (cS a.2 - cS (tOf 7 S)) = cS (tIn 7 S a.2) - cS S0 := by have := h0.1; have := hm1.1; omega
    have e2 : sS S - sS S0 + (sS a.2 - sS (tOf 7 S)) = sS (tIn 7 S a.2) - sS S0 := by have := h0.2; have := hm1.2; omega
    have f1 : cS S - cS S0 + (cS a.2 - cS (tOf 7 S)) ≤ cS r.2 - cS S0 := by rw [e1]; have := hm2.1; omega
    have f2 : sS S - sS S0 + (sS a.2 - sS (tOf 7 S)) ≤ sS r.2 - sS S0 := by rw [e2]; have := hm2.2; omega
    refine va_calli (va_runV (As := As) (rest := rest) ⟨X.1.1, X.1.2.1, X.1.2.2.1, X.1.2.2.2.1, X.1.2.2.2.2.1⟩ (hM.2 (qa 7) H.size a hF) (cw _ _ _ _) ⟨PcW_blind hsf, va_recv X.1.2.2.2.2.2.1 hPc (ci := 2) (q0 := 0) rfl rfl, fun U hU hW => ⟨rfl, by rw [hU], by rw [hU]; exact hPc, va_K.moved hW.alike X.1.2.2.2.2.2.1, hDc.weaken (fun _ _ _ _ => trivial), hsf _ _ s U X.2.2 hfree (Or.inl hW) (fun y h1 h2 => by rw [hU]; exact hS.2.1 y h1 h2)⟩⟩ rfl hn hl.1 hst (lv_room hcat) d ⟨f1, f2⟩) hS (fun y _ h => hfree y h) hfree (fun v u t H1 locs1 ht hvm hw hB hz1 hk1 hS1 => ?_)
    obtain ⟨rfl, rfl⟩ := hw
    obtain ⟨a1, hP1, hK1, hD1⟩ := hB
    subst ht
    rw [e1, e2]
    obtain ⟨hPj, hDj⟩ := va_join hP hD [25, 26] [0, 1, 2, 3, 4, 5, 6, 7, 8, 9, 10, 11, 12, 13, 14, 15, 16, 17, 18, 19, 20, 21, 22, 23, 24] (tw_7 cI q qa S) (tr_7 cI q qa S) (by decide) (by decide) hk1 hfree hP1 hD1
    exact (kk _ _).2 r hr _ _ ls ⟨va_up qa 7 a1, le_tr h0 hm1, pm_P hPj [0, 1, 2, 3, 4, 5, 6, 7, 8, 9, 10, 11, 12, 13, 14, 15, 16, 17, 18, 19, 20, 21, 22, 23, 24, 25, 26] (ty_7 cI q qa S a.2 a1), hDj.sub [0, 1, 2, 3, 4, 5, 6, 7, 8, 9, 10, 11, 12, 13, 14, 15, 16, 17, 18, 19, 20, 21, 22, 23, 24, 25, 26] (by decide) (ty_7 cI q qa S a.2 a1), hS1⟩ hl
theorem hTv_7 (hsf : sfOk sf) (X : hX p s m args meth c cc nL own rt D (tyC cI) sf A) {y : MethodName} {bb : ByteArray} {nz fz lz n ix : Nat} {ret : Option FieldType} {As rest : List Value} {Fz : Option (Int32 × CS)} {K : Int32 → CS → Option (ρ × CS)} (hM : MetW l D (tyC cI) sf (wT cI (q 107)) y bb nz ret fz lz QWv (.ref (q 107) :: As) (tOf 7 S) Fz) (cw : ∀ a0 b0 mc ms : Nat, CallW (rmC fr lo a0 b0) s args own RX2 ix y bb nz ret (wsM y bb nz ret) (rmC fz lz mc ms) mc ms n) (hn : As.length = n) (hst : st = As.reverse ++ .ref (q 107) :: rest) (hcat : (rest.map fun v => v.category).sum ≤ 8) (d : decode cc pc = .ok (.invokevirtual ix, 3))
    (kk : ∀ v S1, hG p l e (fun r => rmC fr lo (cS r.2 - cS S0) (sS r.2 - sS S0)) s m args below meth c nL (ZW D (wC cI q) A s.heap S0 S1) (cS S1 - cS S0) (sS S1 - sS S0) QQ (fun r => le S1 r.2) (pc + 3) lv rest (K v S1)) : hG p l e (fun r => rmC fr lo (cS r.2 - cS S0) (sS r.2 - sS S0)) s m args below meth c nL (ZW D (wC cI q) A s.heap S0 S) (cS S - cS S0) (sS S - sS S0) QQ (fun r => le S r.2) pc lv st (bT 7 S Fz K) := by
  refine ⟨fun r hr => ?_, fun r hr H locs ls hz hl => ?_⟩
  · obtain ⟨a, hF, hr⟩ := bT_some hr
    exact le_tr (le_in 7 (by decide) (hM.1 a hF)) ((kk _ _).1 r hr)
  · obtain ⟨a, hF, hr⟩ := bT_some hr
    obtain ⟨qa, h0, hP, hD, hS⟩ := hz
    have hm0 := hM.1 a hF
    have hm1 := le_in 7 (by decide) hm0
    have hm2 := (kk a.1 (tIn 7 S a.2)).1 r hr
    have hPc := pm_P hP [25, 26] (tw_7 cI q qa S)
    have hDc := hD.sub [25, 26] (by decide) (tw_7 cI q qa S)
    have hfree : ∀ y, va_A (wT cI (q 107) (qa 7) (tOf 7 S)) H.size y → A y := by
      intro y hy
      rcases hy with ⟨k, e, hk⟩ | hy
      · exact hDc.2 k (y, e) hk
      · exact X.2.1 y (Nat.le_trans hS.1 hy)
    have q1 : cS (tOf 7 S) = cS S := rfl
    have q2 : sS (tOf 7 S) = sS S := rfl
    have q3 : cS (tIn 7 S a.2) = cS a.2 := rfl
    have q4 : sS (tIn 7 S a.2) = sS a.2 := rfl
    have e1 : cS S - cS S0 + (cS a.2 - cS (tOf 7 S)) = cS (tIn 7 S a.2) - cS S0 := by have := h0.1; have := hm1.1; omega
    have e2 : sS S - sS S0 + (sS a.2 - sS (tOf 7 S)) = sS (tIn 7 S a.2) - sS S0 := by have := h0.2; have := hm1.2; omega
    have f1 : cS S - cS S0 + (cS a.2 - cS (tOf 7 S)) ≤ cS r.2 - cS S0 := by rw [e1]; have := hm2.1; omega
    have f2 : sS S - sS S0 + (sS a.2 - sS (tOf 7 S)) ≤ sS r.2 - sS S0 := by rw [e2]; have := hm2.2; omega
    refine va_callv (va_runV (As := As) (rest := rest) ⟨X.1.1, X.1.2.1, X.1.2.2.1, X.1.2.2.2.1, X.1.2.2.2.2.1⟩ (hM.2 (qa 7) H.size a hF) (cw _ _ _ _) ⟨PcW_blind hsf, va_recv X.1.2.2.2.2.2.1 hPc (ci := 2) (q0 := 0) rfl rfl, fun U hU hW => ⟨rfl, by rw [hU], by rw [hU]; exact hPc, va_K.moved hW.alike X.1.2.2.2.2.2.1, hDc.weaken (fun _ _ _ _ => trivial), hsf _ _ s U X.2.2 hfree (Or.inl hW) (fun y h1 h2 => by rw [hU]; exact hS.2.1 y h1 h2)⟩⟩ rfl hn hl.1 hst (lv_room hcat) d ⟨f1, f2⟩) hS (fun y _ h => hfree y h) hfree (fun u t H1 locs1 ht hvm hw hB hz1 hk1 hS1 => ?_)
    subst hw
    obtain ⟨a1, hP1, hK1, hD1⟩ := hB
    subst ht
    rw [e1, e2]
    obtain ⟨hPj, hDj⟩ := va_join hP hD [25, 26] [0, 1, 2, 3, 4, 5, 6, 7, 8, 9, 10, 11, 12, 13, 14, 15, 16, 17, 18, 19, 20, 21, 22, 23, 24] (tw_7 cI q qa S) (tr_7 cI q qa S) (by decide) (by decide) hk1 hfree hP1 hD1
    exact (kk _ _).2 r hr _ _ ls ⟨va_up qa 7 a1, le_tr h0 hm1, pm_P hPj [0, 1, 2, 3, 4, 5, 6, 7, 8, 9, 10, 11, 12, 13, 14, 15, 16, 17, 18, 19, 20, 21, 22, 23, 24, 25, 26] (ty_7 cI q qa S a.2 a1), hDj.sub [0, 1, 2, 3, 4, 5, 6, 7, 8, 9, 10, 11, 12, 13, 14, 15, 16, 17, 18, 19, 20, 21, 22, 23, 24, 25, 26] (by decide) (ty_7 cI q qa S a.2 a1), hS1⟩ hl
end CW
