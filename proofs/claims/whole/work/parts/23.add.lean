def cpf (T : CS) : Nat → Int32 := va_cpy (T.1 2) (fun _ => 0) 0 0 (T.2 0)
abbrev wQ (cI : ClassId) (a a' : Nat) (T : CS) (N : Nat) : va_W := [(a, .inl (cI, T.2 0, .inl (T.1 2))), (a', .inl (cI, N, .inl (cpf T)))]
theorem ofn_nn {k : Nat} (h : k < 134217728) : ¬ Int32.ofNat k < 0 := nI_pos (by omega)
theorem ofn_cl {k : Nat} (h : k < 134217728) : (Int32.ofNat k).toNatClampNeg = k := nI_clamp (by omega)
theorem c_copyOf {sf : sfT} (l : Launch) (D : va_G) (cI : ClassId) (a : Nat) (T : CS) (n : Int32) (hgt : Int32.ofNat (T.2 0) < n) (hb1 : n.toNatClampNeg < 134217728) (hb2 : T.2 0 < 134217728) (sz : Nat) : Met l yJ7_copyOf_59c91 (wsM yJ7_copyOf_59c91 cJ7_copyOf_59c91 3 (some (.array .int))) (rmC 1 20 1 n.toNatClampNeg) (PcW D (tyC cI) sf (wA cI a) () sz [.ref a, .int n] T) (va_Qr (fun _ : Unit => True) (fun _ a' t => va_P D vwCl (wQ cI a a' T n.toNatClampNeg) t.heap ∧ va_K D vwCl (tyC cI) t ∧ va_D (va_A (wA cI a () T) sz) (wQ cI a a' T n.toNatClampNeg)) (va_A (wA cI a () T) sz)) 1 n.toNatClampNeg (va_A (wA cI a () T) sz) := by
  refine Met.ofW (cc := cJ7_copyOf_59c91) (maxL := 3) (ret := some (.array .int)) (by decide) rfl ?_
  intro p e s m args below meth c s₁ B hml hv
  obtain ⟨rfl, hsz, hP, hK, hD0, hsf⟩ := hv
  have hx := B.exec
  have hb := B.bytes
  have hr := B.returns
  have hts : ∀ w ∈ tt, w.before [Value.ref a, .int n].toArray s = true := fun w hw => atoms_spec (ws := wsM yJ7_copyOf_59c91 cJ7_copyOf_59c91 3 (some (.array .int))) B.pre w (List.mem_cons_of_mem _ hw)
  have hown : s.vm.findClass RJ7 = some m.cls := findClass_of_methodNamed B.named
  have hlocks := B.notSynchronized
  subst hsz
  have hD := hD0.self (sz := s.heap.size)
  generalize hAe : va_A (wA cI a () T) s.heap.size = A at hD ⊢
  have hA : ∀ q : Nat, s.heap.size ≤ q → A q := fun q h => by rw [← hAe]; exact Or.inr h
  have hS : va_S A s.heap s.heap [] := va_S.rf
  have hn0 : ¬ n < 0 := by
    have h1 := ofn_nn hb2
    exact fun h => h1 (Int32.lt_trans hgt h)
  have hl := lv_entry [.ref a, .int n] (n := 3) (Nat.le_of_ble_eq_true rfl)
  rw [lg_entry_eq]
  generalize (lg_sl ([Value.ref a, .int n]) ++ List.replicate (3 - (lg_sl ([Value.ref a, .int n])).length) Slot.unset).toArray = ls at hl ⊢
  have hl : lv_has ls 3 [(0, .ref a), (1, .int n)] := hl
  have hP : va_P D vwCl [(a, .inl (cI, T.2 0, .inl (T.1 2)))] s.heap := hP
  have hD : va_D A [(a, .inl (cI, T.2 0, .inl (T.1 2)))] := hD
  refine lv_iload_n hx hb dJ7_copyOf_59c91_0 rfl (lvg_at hl (i := 1) rfl) ?_
  refine lv_aload_n hx hb dJ7_copyOf_59c91_1 rfl (lvg_at hl (i := 0) rfl) ?_
  refine va_alen hx hb hK hP 0 0 rfl rfl rfl dJ7_copyOf_59c91_2 ?_
  refine lv_icmp_ne (tgt := 14) hx hb dJ7_copyOf_59c91_3 (by decide) (fun _ => ?_) (fun h => absurd hgt (by have h2 : n = Int32.ofNat (T.2 0) := h; rw [h2]; exact Int32.lt_irrefl))
  refine lv_iload_n hx hb dJ7_copyOf_59c91_14 rfl (lvg_at hl (i := 1) rfl) ?_
  refine va_newa (atype := .int) (ty := .int) (N' := n.toNatClampNeg) (a0 := (n.toNatClampNeg, .inl (fun _ => 0))) hx hb (hts _ tarr_I) rfl hK hP hD hS hA (fun _ => rfl) hn0 rfl (by show _ * 4 ≤ _; omega) (by show 0 + 1 ≤ 1; omega) (by show 0 + _ ≤ _; exact Nat.le_of_eq (Nat.zero_add _)) dJ7_copyOf_59c91_15 (fun a' cA H hK hP hD hS => ?_)
  have hcA : cA = cI := Option.some.inj ((hK.2 1 _ rfl).2.symm.trans (hK.2 0 _ rfl).2)
  subst hcA
  have hP : va_P D vwCl [(a, .inl (cA, T.2 0, .inl (T.1 2))), (a', .inl (cA, n.toNatClampNeg, .inl (fun _ => 0)))] H := hP
  have hD : va_D A [(a, .inl (cA, T.2 0, .inl (T.1 2))), (a', .inl (cA, n.toNatClampNeg, .inl (fun _ => 0)))] := hD
  refine lv_astore_n (lv' := [(2, .ref a'), (0, .ref a), (1, .int n)]) hx hb dJ7_copyOf_59c91_17 rfl hl (by decide) rfl (fun ls hl => ?_)
  refine lv_aload_n hx hb dJ7_copyOf_59c91_18 rfl (lvg_at hl (i := 0) rfl) ?_
  refine lv_iconst (v := 0) hx hb dJ7_copyOf_59c91_19 (by decide) ?_
  refine lv_aload_n hx hb dJ7_copyOf_59c91_20 rfl (lvg_at hl (i := 2) rfl) ?_
  refine lv_iconst (v := 0) hx hb dJ7_copyOf_59c91_21 (by decide) ?_
  refine lv_aload_n hx hb dJ7_copyOf_59c91_22 rfl (lvg_at hl (i := 0) rfl) ?_
  refine va_alen hx hb hK hP 0 0 rfl rfl rfl dJ7_copyOf_59c91_23 ?_
  refine lv_iload_n hx hb dJ7_copyOf_59c91_24 rfl (lvg_at hl (i := 1) rfl) ?_
  refine va_mmin hx hb (hml.trans hl.1.symm) hown (hts _ tlJ7_304) (hts _ ts_min) (hts _ ini_j9) (hts _ tc_min) (by show 1 ≤ 1; omega) (by show 1 + (1 + (1 + (1 + 0))) + 13 ≤ 20; decide) (by show 0 + 1 ≤ 1; omega) (by show 0 + _ ≤ _; exact Nat.le_of_eq (Nat.zero_add _)) dJ7_copyOf_59c91_25 ?_
  rw [if_neg (fun h => Int32.lt_irrefl (Int32.lt_trans h hgt))]
  have hcl := ofn_cl hb2
  have hlt : T.2 0 ≤ n.toNatClampNeg := by
    have h1 := Int32.lt_iff_toInt_lt.mp hgt
    rw [show (Int32.ofNat (T.2 0)).toInt = (T.2 0 : Int) from nI_toInt (by omega)] at h1
    show T.2 0 ≤ n.toInt.toNat
    omega
  refine va_copyi hx hb (hml.trans hl.1.symm) hown (hts _ tlJ7_150) (hts _ tn_cpy) (hts _ ts_cpy) (hts _ ini_sys) hK hP hD hS 0 1 0 0 rfl rfl rfl rfl rfl (by decide) (by decide) (ofn_nn hb2) (by rw [hcl]; show 0 + T.2 0 ≤ T.2 0; omega) (by rw [hcl]; show 0 + T.2 0 ≤ n.toNatClampNeg; omega) (fun i hi => rfl) (by show 1 ≤ 1; omega) (by show _ ≤ 20; decide) dJ7_copyOf_59c91_28 (fun H locs hP hD hS => ?_)
  rw [hcl] at hP hD
  have hP : va_P D vwCl (wQ cA a a' T n.toNatClampNeg) H := hP
  have hD : va_D A (wQ cA a a' T n.toNatClampNeg) := hD
  refine lv_aload_n hx hb dJ7_copyOf_59c91_31 rfl (lvg_at hl (i := 2) rfl) ?_
  have hK9 := hK.sub (tys' := tyC cA) [0] rfl
  refine W.widen (k := 1) (n := n.toNatClampNeg) (by omega) (by omega) ?_
  exact W.aret hx hb hr (Or.inr ⟨_, rfl⟩) (Or.inr ⟨_, rfl⟩) (fun t ht hW => ⟨⟨(), a', rfl, trivial, by rw [ht]; exact hP, va_K.moved hW.alike hK9, hD⟩, hS.F ht⟩) hS.2.2 dJ7_copyOf_59c91_32
theorem tc_copyOf : Cond.code yJ7_copyOf_59c91 cJ7_copyOf_59c91 3 (some (.array .int)) ∈ tt := tt_in (by decide +kernel) (by decide +kernel)
theorem ts_copyOf : Cond.static yJ7_copyOf_59c91 ∈ tt := tt_in (by decide +kernel) (by decide +kernel)
def gr (S : CS) (n : Int32) : CS := (fun a b => if a = 2 then cpf S b else S.1 a b, fun i => if i = 0 then n.toNatClampNeg else if i = 1 then S.2 1 + 1 else if i = 2 then S.2 2 + n.toNatClampNeg else S.2 i)
def cpo {ρ : Type} (S : CS) (n : Int32) (K : CS → Option ρ) : Option ρ := if Int32.ofNat (S.2 0) < n ∧ n.toNatClampNeg < 134217728 ∧ S.2 0 < 134217728 then K (gr S n) else none
def aIn (S T : CS) : CS := (fun a b => if a = 2 then T.1 2 b else S.1 a b, fun i => if i = 0 then T.2 0 else if i = 1 then T.2 1 else if i = 2 then T.2 2 else S.2 i)
def bA {α ρ : Type} (S : CS) (x : Option (α × CS)) (K : CS → Option ρ) : Option ρ := match x with
  | none => none
  | some a => K (aIn S a.2)
theorem bA_some {α ρ : Type} {S : CS} {x : Option (α × CS)} {K : CS → Option ρ} {r : ρ} (h : bA S x K = some r) : ∃ a, x = some a ∧ K (aIn S a.2) = some r := by
  unfold bA at h
  cases x with
  | none => cases h
  | some a => exact ⟨a, rfl, h⟩
theorem le_gr {S : CS} {n : Int32} : le S (gr S n) := ⟨Nat.le_succ _, Nat.le_add_right _ _⟩
theorem le_aIn {S T : CS} (h : le S T) : le S (aIn S T) := h
theorem m_cpo {β : Type} {S : CS} {n : Int32} {K : CS → Option (β × CS)} (h : ∀ S1, mo S1 (K S1)) : mo S (cpo S n K) := m_ite (fun r hr => le_tr le_gr (h _ r hr)) m_none
theorem m_bA {β γ : Type} {S : CS} {x : Option (γ × CS)} {K : CS → Option (β × CS)} (hx : mo S x) (h : ∀ S1, mo S1 (K S1)) : mo S (bA S x K) := fun r hr => by
  obtain ⟨a, hF, hr⟩ := bA_some hr
  exact le_tr (le_aIn (hx a hF)) (h _ r hr)
section TG
variable {ρ : Type} {p : Program} {l : Launch} {e : Env} {s : State} {m : MethodId} {args : Array Value} {below : List Frame} {meth : Method} {c : Code}
variable {cc : ByteArray} {nL : Nat} {own : String} {rt : Option FieldType} {D : va_G} {cI : ClassId} {sf : sfT} {A : Nat → Prop} {t a : Nat} {fr lo : Nat} {S0 S : CS} {QQ : ρ × CS → State → Prop} {pc : Nat} {lv : List (Nat × Value)} {rest : List Value}
theorem t_grow (hsf : sfOk sf) (X : hX p s m args meth c cc nL RX2 rt D (tyC cI) sf A) {n : Int32} {K : CS → Option (ρ × CS)} {ix : Nat} (hlk : Cond.methodLink RX2 ix yJ7_copyOf_59c91 ∈ tt) (hR : 1 + 1 ≤ fr ∧ 8 + (3 + 11) + 20 ≤ lo) (hcat : ((Value.ref t :: rest).map fun v => v.category).sum ≤ 8) (d : decode cc pc = .ok (.invokestatic ix, 3)) (d2 : decode cc (pc + 3) = .ok (.putfield 27, 3)) (kk : ∀ S1, hG p l e (fun r => rmC fr lo (cS r.2 - cS S0) (sS r.2 - sS S0)) s m args below meth c nL (ZW D (wT cI t) A s.heap S0 S1) (cS S1 - cS S0) (sS S1 - sS S0) QQ (fun r => le S1 r.2) (pc + 6) lv rest (K S1)) : hG p l e (fun r => rmC fr lo (cS r.2 - cS S0) (sS r.2 - sS S0)) s m args below meth c nL (ZX D (wT cI t) a A s.heap S0 S) (cS S - cS S0) (sS S - sS S0) QQ (fun r => le S r.2) pc lv (.int n :: .ref a :: .ref t :: rest) (cpo S n K) := by
  refine h_ite (fun hg => ?_) (fun _ => h_none)
  obtain ⟨hgt, hb1, hb2⟩ := hg
  refine ⟨fun r hr => le_tr le_gr ((kk _).1 r hr), fun r hr H locs ls hz hl => ?_⟩
  obtain ⟨h0, hP, hD, hS⟩ := hz
  have hm2 := (kk (gr S n)).1 r hr
  have hPc : va_P D vwCl (wA cI a () S) H := hP.sub [1] rfl
  have hDc : va_D A (wA cI a () S) := hD.sub [1] (by decide) rfl
  have hfree : ∀ y, va_A (wA cI a () S) H.size y → A y := by
    intro y hy
    rcases hy with ⟨k, e, hk⟩ | hy
    · exact hDc.2 k (y, e) hk
    · exact X.2.1 y (Nat.le_trans hS.1 hy)
  have e1 : cS S - cS S0 + 1 = cS (gr S n) - cS S0 := by
    have h1 := h0.1
    have h2 : cS (gr S n) = cS S + 1 := rfl
    omega
  have e2 : sS S - sS S0 + n.toNatClampNeg = sS (gr S n) - sS S0 := by
    have h1 := h0.2
    have h2 : sS (gr S n) = sS S + n.toNatClampNeg := rfl
    omega
  have f1 : cS S - cS S0 + 1 ≤ cS r.2 - cS S0 := by rw [e1]; have := hm2.1; omega
  have f2 : sS S - sS S0 + n.toNatClampNeg ≤ sS r.2 - sS S0 := by rw [e2]; have := hm2.2; omega
  refine va_callr (va_runS (As := [.ref a, .int n]) (rest := .ref t :: rest) ⟨X.1.1, X.1.2.1, X.1.2.2.1, X.1.2.2.2.1, X.1.2.2.2.2.1⟩ (c_copyOf (sf := sf) l D cI a S n hgt hb1 hb2 H.size) (cwSC (k := 2) X.1.2.2.2.2.1 hlk ts_copyOf tc_copyOf ini_j7 (by decide +kernel) hR _ _ _ _) ⟨PcW_blind hsf, fun U hU hW => ⟨rfl, by rw [hU], by rw [hU]; exact hPc, va_K.moved hW.alike X.1.2.2.2.2.2.1, hDc.weaken (fun _ _ _ _ => trivial), hsf _ _ s U X.2.2 hfree (Or.inl hW) (fun y h1 h2 => by rw [hU]; exact hS.2.1 y h1 h2)⟩⟩ rfl rfl hl.1 rfl (lv_room hcat) d ⟨f1, f2⟩) hS (fun y _ h => hfree y h) hfree (fun u a' t' H1 locs1 ht hvm hw hB hz1 hk1 hS1 => ?_)
  obtain ⟨hP1, hK1, hD1⟩ := hB
  subst ht
  rw [e1, e2]
  obtain ⟨hPj, hDj⟩ := va_join (wc := wA cI a () S) (wr := [(t, .inr (2, [.int (S.1 0 0), .int (S.1 1 0), .ref a, .int (S.1 3 0)]))]) hP hD [1] [0] rfl rfl (by decide) (by decide) hk1 hfree hP1 hD1
  refine va_put (D := D) (ci := 2) (v := .ref a') (ty := .array .int) (C := RX2) (T := TX2) (N := 4) X.1.1 X.1.2.1 X.1.2.2.2.2.1 jX_2 tyX2 tyX2_ok nmX2 X.1.2.2.2.1 X.1.2.2.2.2.2.1 hPj hDj hS1 0 rfl rfl 2 (by decide) (X.1.2.2.2.2.1 _ fl2_27) (fun _ h9 => h9) rfl (by decide +kernel) rfl rfl (by show 2 < 4; decide) d2 (fun H2 locs2 h1 h2 h3 => ?_)
  have hP2 : va_P D vwCl (wT cI t a' (gr S n)) H2 := h1.sub [0, 2] rfl
  have hD2 : va_D A (wT cI t a' (gr S n)) := h2.sub [0, 2] (by decide) rfl
  exact (kk _).2 r hr _ _ ls ⟨a', le_tr h0 le_gr, hP2, hD2, h3⟩ hl
theorem t_fill (hsf : sfOk sf) (X : hX p s m args meth c cc nL RX2 rt D (tyC cI) sf A) {n : Nat} {x1 x2 x3 : Int32} {K : CS → Option (ρ × CS)} {ix : Nat} (hlk : Cond.methodLink RX2 ix yJ7_fill_fda19 ∈ tt) (hR : 1 + 1 ≤ fr ∧ 8 + (5 + 11) + 22 ≤ lo) (hcat : (rest.map fun v => v.category).sum ≤ 8) (d : decode cc pc = .ok (.invokestatic ix, 3)) (kk : ∀ S1, hG p l e (fun r => rmC fr lo (cS r.2 - cS S0) (sS r.2 - sS S0)) s m args below meth c nL (ZW D (wT cI t) A s.heap S0 S1) (cS S1 - cS S0) (sS S1 - sS S0) QQ (fun r => le S1 r.2) (pc + 3) lv rest (K S1)) : hG p l e (fun r => rmC fr lo (cS r.2 - cS S0) (sS r.2 - sS S0)) s m args below meth c nL (ZX D (wT cI t) a A s.heap S0 S) (cS S - cS S0) (sS S - sS S0) QQ (fun r => le S r.2) pc lv (.int x3 :: .int x2 :: .int x1 :: .ref a :: rest) (bA S (fj7_fill_fda19 n x1 x2 x3 S) K) := by
  have hM := cj7_fill_fda19 hsf l D cI a n x1 x2 x3 S
  refine ⟨fun r hr => ?_, fun r hr H locs ls hz hl => ?_⟩
  · obtain ⟨b, hF, hr⟩ := bA_some hr
    exact le_tr (le_aIn (hM.1 b hF)) ((kk _).1 r hr)
  · obtain ⟨b, hF, hr⟩ := bA_some hr
    obtain ⟨h0, hP, hD, hS⟩ := hz
    have hm1 := hM.1 b hF
    have hm2 := (kk (aIn S b.2)).1 r hr
    have hPc : va_P D vwCl (wA cI a () S) H := hP.sub [1] rfl
    have hDc : va_D A (wA cI a () S) := hD.sub [1] (by decide) rfl
    have hfree : ∀ y, va_A (wA cI a () S) H.size y → A y := by
      intro y hy
      rcases hy with ⟨k, e, hk⟩ | hy
      · exact hDc.2 k (y, e) hk
      · exact X.2.1 y (Nat.le_trans hS.1 hy)
    have q3 : cS (aIn S b.2) = cS b.2 := rfl
    have q4 : sS (aIn S b.2) = sS b.2 := rfl
    have e1 : cS S - cS S0 + (cS b.2 - cS S) = cS (aIn S b.2) - cS S0 := by have := h0.1; have := hm1.1; omega
    have e2 : sS S - sS S0 + (sS b.2 - sS S) = sS (aIn S b.2) - sS S0 := by have := h0.2; have := hm1.2; omega
    have f1 : cS S - cS S0 + (cS b.2 - cS S) ≤ cS r.2 - cS S0 := by rw [e1]; have := hm2.1; omega
    have f2 : sS S - sS S0 + (sS b.2 - sS S) ≤ sS r.2 - sS S0 := by rw [e2]; have := hm2.2; omega
    refine va_callv (va_runS (As := [.ref a, .int x1, .int x2, .int x3]) (rest := rest) ⟨X.1.1, X.1.2.1, X.1.2.2.1, X.1.2.2.2.1, X.1.2.2.2.2.1⟩ (hM.2 () H.size b hF) (cwSC (k := 4) X.1.2.2.2.2.1 hlk tsj7_fill_fda19 tcj7_fill_fda19 ini_j7 (by decide +kernel) hR _ _ _ _) ⟨PcW_blind hsf, fun U hU hW => ⟨rfl, by rw [hU], by rw [hU]; exact hPc, va_K.moved hW.alike X.1.2.2.2.2.2.1, hDc.weaken (fun _ _ _ _ => trivial), hsf _ _ s U X.2.2 hfree (Or.inl hW) (fun y h1 h2 => by rw [hU]; exact hS.2.1 y h1 h2)⟩⟩ rfl rfl hl.1 rfl (lv_room hcat) d ⟨f1, f2⟩) hS (fun y _ h => hfree y h) hfree (fun u t' H1 locs1 ht hvm hw hB hz1 hk1 hS1 => ?_)
    subst hw
    obtain ⟨x, hP1, hK1, hD1⟩ := hB
    subst ht
    rw [e1, e2]
    obtain ⟨hPj, hDj⟩ := va_join (wc := wA cI a () S) (wr := [(t, .inr (2, [.int (S.1 0 0), .int (S.1 1 0), .ref a, .int (S.1 3 0)]))]) hP hD [1] [0] rfl rfl (by decide) (by decide) hk1 hfree hP1 hD1
    have hP2 : va_P D vwCl (wT cI t a (aIn S b.2)) t'.heap := hPj.sub [0, 1] rfl
    have hD2 : va_D A (wT cI t a (aIn S b.2)) := hDj.sub [0, 1] (by decide) rfl
    exact (kk _).2 r hr _ _ ls ⟨a, le_tr h0 (le_aIn hm1), hP2, hD2, hS1⟩ hl
end TG
theorem dX2_add_0 : decode cX2_add 0 = .ok (.aload_n 0, 1) := by decide +kernel
theorem dX2_add_1 : decode cX2_add 1 = .ok (.getfield 9, 3) := by decide +kernel
theorem dX2_add_4 : decode cX2_add 4 = .ok (.aload_n 0, 1) := by decide +kernel
theorem dX2_add_5 : decode cX2_add 5 = .ok (.getfield 24, 3) := by decide +kernel
theorem dX2_add_8 : decode cX2_add 8 = .ok (.if_icmp .lt 5, 3) := by decide +kernel
theorem dX2_add_11 : decode cX2_add 11 = .ok (.iconst (-1), 1) := by decide +kernel
theorem dX2_add_12 : decode cX2_add 12 = .ok (.ireturn, 1) := by decide +kernel
theorem dX2_add_13 : decode cX2_add 13 = .ok (.aload_n 0, 1) := by decide +kernel
theorem dX2_add_14 : decode cX2_add 14 = .ok (.getfield 9, 3) := by decide +kernel
theorem dX2_add_17 : decode cX2_add 17 = .ok (.aload_n 0, 1) := by decide +kernel
theorem dX2_add_18 : decode cX2_add 18 = .ok (.getfield 21, 3) := by decide +kernel
theorem dX2_add_21 : decode cX2_add 21 = .ok (.imul, 1) := by decide +kernel
theorem dX2_add_22 : decode cX2_add 22 = .ok (.istore_n 1, 1) := by decide +kernel
theorem dX2_add_23 : decode cX2_add 23 = .ok (.iload_n 1, 1) := by decide +kernel
theorem dX2_add_24 : decode cX2_add 24 = .ok (.aload_n 0, 1) := by decide +kernel
theorem dX2_add_25 : decode cX2_add 25 = .ok (.getfield 21, 3) := by decide +kernel
theorem dX2_add_28 : decode cX2_add 28 = .ok (.iadd, 1) := by decide +kernel
theorem dX2_add_29 : decode cX2_add 29 = .ok (.istore_n 2, 1) := by decide +kernel
theorem dX2_add_30 : decode cX2_add 30 = .ok (.iload_n 2, 1) := by decide +kernel
theorem dX2_add_31 : decode cX2_add 31 = .ok (.aload_n 0, 1) := by decide +kernel
theorem dX2_add_32 : decode cX2_add 32 = .ok (.getfield 27, 3) := by decide +kernel
theorem dX2_add_35 : decode cX2_add 35 = .ok (.arraylength, 1) := by decide +kernel
theorem dX2_add_36 : decode cX2_add 36 = .ok (.if_icmp .le 37, 3) := by decide +kernel
theorem dX2_add_39 : decode cX2_add 39 = .ok (.aload_n 0, 1) := by decide +kernel
theorem dX2_add_40 : decode cX2_add 40 = .ok (.aload_n 0, 1) := by decide +kernel
theorem dX2_add_41 : decode cX2_add 41 = .ok (.getfield 27, 3) := by decide +kernel
theorem dX2_add_44 : decode cX2_add 44 = .ok (.iload_n 2, 1) := by decide +kernel
theorem dX2_add_45 : decode cX2_add 45 = .ok (.iconst 2, 1) := by decide +kernel
theorem dX2_add_46 : decode cX2_add 46 = .ok (.aload_n 0, 1) := by decide +kernel
theorem dX2_add_47 : decode cX2_add 47 = .ok (.getfield 27, 3) := by decide +kernel
theorem dX2_add_50 : decode cX2_add 50 = .ok (.arraylength, 1) := by decide +kernel
theorem dX2_add_51 : decode cX2_add 51 = .ok (.imul, 1) := by decide +kernel
theorem dX2_add_52 : decode cX2_add 52 = .ok (.aload_n 0, 1) := by decide +kernel
theorem dX2_add_53 : decode cX2_add 53 = .ok (.getfield 24, 3) := by decide +kernel
theorem dX2_add_56 : decode cX2_add 56 = .ok (.aload_n 0, 1) := by decide +kernel
theorem dX2_add_57 : decode cX2_add 57 = .ok (.getfield 21, 3) := by decide +kernel
theorem dX2_add_60 : decode cX2_add 60 = .ok (.imul, 1) := by decide +kernel
theorem dX2_add_61 : decode cX2_add 61 = .ok (.invokestatic 31, 3) := by decide +kernel
theorem dX2_add_64 : decode cX2_add 64 = .ok (.invokestatic 15, 3) := by decide +kernel
theorem dX2_add_67 : decode cX2_add 67 = .ok (.invokestatic 34, 3) := by decide +kernel
theorem dX2_add_70 : decode cX2_add 70 = .ok (.putfield 27, 3) := by decide +kernel
theorem dX2_add_73 : decode cX2_add 73 = .ok (.aload_n 0, 1) := by decide +kernel
theorem dX2_add_74 : decode cX2_add 74 = .ok (.getfield 27, 3) := by decide +kernel
theorem dX2_add_77 : decode cX2_add 77 = .ok (.iload_n 1, 1) := by decide +kernel
theorem dX2_add_78 : decode cX2_add 78 = .ok (.iload_n 2, 1) := by decide +kernel
theorem dX2_add_79 : decode cX2_add 79 = .ok (.iconst 0, 1) := by decide +kernel
theorem dX2_add_80 : decode cX2_add 80 = .ok (.invokestatic 40, 3) := by decide +kernel
theorem dX2_add_83 : decode cX2_add 83 = .ok (.aload_n 0, 1) := by decide +kernel
theorem dX2_add_84 : decode cX2_add 84 = .ok (.dup, 1) := by decide +kernel
theorem dX2_add_85 : decode cX2_add 85 = .ok (.getfield 9, 3) := by decide +kernel
theorem dX2_add_88 : decode cX2_add 88 = .ok (.iconst 1, 1) := by decide +kernel
theorem dX2_add_89 : decode cX2_add 89 = .ok (.iadd, 1) := by decide +kernel
theorem dX2_add_90 : decode cX2_add 90 = .ok (.putfield 9, 3) := by decide +kernel
theorem dX2_add_93 : decode cX2_add 93 = .ok (.aload_n 0, 1) := by decide +kernel
theorem dX2_add_94 : decode cX2_add 94 = .ok (.getfield 9, 3) := by decide +kernel
theorem dX2_add_97 : decode cX2_add 97 = .ok (.iconst 1, 1) := by decide +kernel
theorem dX2_add_98 : decode cX2_add 98 = .ok (.isub, 1) := by decide +kernel
theorem dX2_add_99 : decode cX2_add 99 = .ok (.ireturn, 1) := by decide +kernel
section TM
variable {ρ : Type} {p : Program} {l : Launch} {e : Env} {s : State} {m : MethodId} {args : Array Value} {below : List Frame} {meth : Method} {c : Code}
variable {cc : ByteArray} {nL : Nat} {own : String} {rt : Option FieldType} {D : va_G} {cI : ClassId} {sf : sfT} {A : Nat → Prop} {t : Nat} {fr lo : Nat} {S0 S : CS} {QQ : ρ × CS → State → Prop} {pc : Nat} {lv : List (Nat × Value)}

-- add
def f2_add_b73 (n : Nat) (x1 : Int32) (x2 : Int32) (S : CS) : Option (Int32 × CS) :=
    bA S (fj7_fill_fda19 n x1 x2 (nI 0) S) fun S1 =>
    cg S1 3 fun v2 =>
    cp S1 3 (v2 + (nI 1)) fun S3 =>
    cg S3 3 fun v4 =>
    some ((v4 - (nI 1)), S3)
theorem mw2_add_b73 (n : Nat) (x1 : Int32) (x2 : Int32) (S : CS) : mo S (f2_add_b73 n x1 x2 S) := by
  unfold f2_add_b73
  refine m_bA (moj7_fill_fda19 _ _ _ _ _) (fun S1 => ?_)
  refine m_cg (fun v2 => ?_)
  refine m_cp (fun S3 => ?_)
  refine m_cg (fun v4 => ?_)
  exact m_some
theorem w2_add_b73 (hsf : sfOk sf) (X : hX p s m args meth c cX2_add 3 RX2 (some .int) D (tyC cI) sf A) (n : Nat) (x1 : Int32) (x2 : Int32) (S : CS) : hG p l e (fun r => rmC 2 46 (cS r.2 - cS S0) (sS r.2 - sS S0)) s m args below meth c 3 (ZW D (wT cI t) A s.heap S0 S) (cS S - cS S0) (sS S - sS S0) (fun r => MQ below (QWi D (tyC cI) (wT cI t) A r) args s (cS r.2 - cS S0) (sS r.2 - sS S0) A) (fun r => le S r.2) 73 [(0, .ref (t)), (1, .int x1), (2, .int x2)] [] (f2_add_b73 n x1 x2 S) := by
  unfold f2_add_b73
  refine h_aload_n X dX2_add_73 rfl rfl ?_
  refine t_g_ints X dX2_add_74 (fun a => ?_)
  refine h_iload_n X dX2_add_77 rfl rfl ?_
  refine h_iload_n X dX2_add_78 rfl rfl ?_
  refine h_iconst (v := (nI 0)) X dX2_add_79 (by decide) ?_
  refine t_fill hsf X tlX2_40 ⟨Nat.le_of_ble_eq_true rfl, Nat.le_of_ble_eq_true rfl⟩ (Nat.le_of_ble_eq_true rfl) dX2_add_80 ?_
  intro S1
  refine h_aload_n X dX2_add_83 rfl rfl ?_
  refine h_dup X dX2_add_84 rfl ?_
  refine t_g_rows X dX2_add_85 ?_
  intro v2
  refine h_iconst (v := (nI 1)) X dX2_add_88 (by decide) ?_
  refine h_iadd X dX2_add_89 ?_
  refine t_p_rows X dX2_add_90 ?_
  intro S3
  refine h_aload_n X dX2_add_93 rfl rfl ?_
  refine t_g_rows X dX2_add_94 ?_
  intro v4
  refine h_iconst (v := (nI 1)) X dX2_add_97 (by decide) ?_
  refine h_isub X dX2_add_98 ?_
  exact h_iret X dX2_add_99
def f2_add (n : Nat) (S : CS) : Option (Int32 × CS) :=
    cg S 3 fun v1 =>
    cg S 1 fun v2 =>
    if v1 < v2 then
      (cg S 3 fun v3 =>
      cg S 0 fun v4 =>
      cg S 0 fun v5 =>
      tl S fun v6 =>
      if ((v3 * v4) + v5) ≤ v6 then
        (f2_add_b73 n (v3 * v4) ((v3 * v4) + v5) S)
      else
        (tl S fun v7 =>
        cg S 1 fun v8 =>
        cg S 0 fun v9 =>
        cpo S (if ((v3 * v4) + v5) < (if (v8 * v9) < ((nI 2) * v7) then (v8 * v9) else ((nI 2) * v7)) then (if (v8 * v9) < ((nI 2) * v7) then (v8 * v9) else ((nI 2) * v7)) else ((v3 * v4) + v5)) fun S10 =>
        f2_add_b73 n (v3 * v4) ((v3 * v4) + v5) S10))
    else
      (some ((-1 : Int32), S))
theorem w2_add (hsf : sfOk sf) (X : hX p s m args meth c cX2_add 3 RX2 (some .int) D (tyC cI) sf A) {S0 : CS} (n : Nat) (S : CS) : hG p l e (fun r => rmC 2 46 (cS r.2 - cS S0) (sS r.2 - sS S0)) s m args below meth c 3 (ZW D (wT cI t) A s.heap S0 S) (cS S - cS S0) (sS S - sS S0) (fun r => MQ below (QWi D (tyC cI) (wT cI t) A r) args s (cS r.2 - cS S0) (sS r.2 - sS S0) A) (fun r => le S r.2) 0 [(0, .ref (t))] [] (f2_add n S) := by
    unfold f2_add
    refine h_aload_n X dX2_add_0 rfl rfl ?_
    refine t_g_rows X dX2_add_1 ?_
    intro v1
    refine h_aload_n X dX2_add_4 rfl rfl ?_
    refine t_g_most X dX2_add_5 ?_
    intro v2
    refine h_icmp_lt (tgt := 13) X dX2_add_8 (by decide) ?_ ?_
    · refine h_aload_n X dX2_add_13 rfl rfl ?_
      refine t_g_rows X dX2_add_14 ?_
      intro v3
      refine h_aload_n X dX2_add_17 rfl rfl ?_
      refine t_g_width X dX2_add_18 ?_
      intro v4
      refine h_imul X dX2_add_21 ?_
      refine h_istore_n (lv' := [(1, .int (v3 * v4)), (0, .ref (t))]) X dX2_add_22 rfl (by decide) rfl ?_
      refine h_iload_n X dX2_add_23 rfl rfl ?_
      refine h_aload_n X dX2_add_24 rfl rfl ?_
      refine t_g_width X dX2_add_25 ?_
      intro v5
      refine h_iadd X dX2_add_28 ?_
      refine h_istore_n (lv' := [(2, .int ((v3 * v4) + v5)), (1, .int (v3 * v4)), (0, .ref (t))]) X dX2_add_29 rfl (by decide) rfl ?_
      refine h_iload_n X dX2_add_30 rfl rfl ?_
      refine h_aload_n X dX2_add_31 rfl rfl ?_
      refine t_g_ints X dX2_add_32 (fun a => ?_)
      refine t_len X dX2_add_35 ?_
      intro v6
      refine h_icmp_le (tgt := 73) X dX2_add_36 (by decide) ?_ ?_
      · exact h_pick [2, 1, 0] rfl (w2_add_b73 hsf X n (v3 * v4) ((v3 * v4) + v5) S)
      · refine h_aload_n X dX2_add_39 rfl rfl ?_
        refine h_aload_n X dX2_add_40 rfl rfl ?_
        refine t_g_ints X dX2_add_41 (fun a => ?_)
        refine h_iload_n X dX2_add_44 rfl rfl ?_
        refine h_iconst (v := (nI 2)) X dX2_add_45 (by decide) ?_
        refine h_aload_n X dX2_add_46 rfl rfl ?_
        refine t_g_intsX X dX2_add_47 ?_
        refine t_lenX X dX2_add_50 ?_
        intro v7
        refine h_imul X dX2_add_51 ?_
        refine h_aload_n X dX2_add_52 rfl rfl ?_
        refine t_g_mostX X dX2_add_53 ?_
        intro v8
        refine h_aload_n X dX2_add_56 rfl rfl ?_
        refine t_g_widthX X dX2_add_57 ?_
        intro v9
        refine h_imul X dX2_add_60 ?_
        refine h_mmin X tlX2_31 (by decide) (Nat.le_of_ble_eq_true rfl) dX2_add_61 ?_
        refine h_mmax X tlX2_15 (by decide) (Nat.le_of_ble_eq_true rfl) dX2_add_64 ?_
        refine t_grow hsf X tlX2_34 ⟨Nat.le_of_ble_eq_true rfl, Nat.le_of_ble_eq_true rfl⟩ (Nat.le_of_ble_eq_true rfl) dX2_add_67 dX2_add_70 ?_
        intro S10
        exact h_pick [2, 1, 0] rfl (w2_add_b73 hsf X n (v3 * v4) ((v3 * v4) + v5) S10)
    · refine h_iconst (v := (-1 : Int32)) X dX2_add_11 (by decide) ?_
      exact h_iret X dX2_add_12
theorem mo2_add (n : Nat) (S : CS) : mo S (f2_add n S) := by
    unfold f2_add
    refine m_cg (fun v1 => ?_)
    refine m_cg (fun v2 => ?_)
    refine m_ite ?_ ?_
    · refine m_cg (fun v3 => ?_)
      refine m_cg (fun v4 => ?_)
      refine m_cg (fun v5 => ?_)
      refine m_tl (fun v6 => ?_)
      refine m_ite ?_ ?_
      · exact mw2_add_b73 n (v3 * v4) ((v3 * v4) + v5) S
      · refine m_tl (fun v7 => ?_)
        refine m_cg (fun v8 => ?_)
        refine m_cg (fun v9 => ?_)
        refine m_cpo (fun S10 => ?_)
        exact mw2_add_b73 n (v3 * v4) ((v3 * v4) + v5) S10
    · exact m_some
theorem c2_add (hsf : sfOk sf) (l : Launch) (D : va_G) (cI : ClassId) (t : Nat) (n : Nat) (S : CS) : MetW l D (tyC cI) sf (wT cI t) yX2_add cX2_add 3 (some .int) 2 46 QWi [.ref (t)] S (f2_add n S) := by
  refine MetW.of (own := RX2) (by decide) rfl (Nat.le_of_ble_eq_true rfl) (mo2_add n S) ?_
  intro x p e s m args below meth c X
  refine h_pick (lv' := [(0, .ref (t))]) [0] rfl ?_
  exact h_close (w2_add hsf X n S)
theorem tc2_add : Cond.code yX2_add cX2_add 3 (some .int) ∈ tt := tt_in (List.mem_of_getElem? (i := 389) (by decide +kernel)) (by decide +kernel)
theorem ti2_add : Cond.instanceMethod yX2_add ∈ tt := tt_in (List.mem_of_getElem? (i := 387) (by decide +kernel)) (by decide +kernel)
theorem te2_add : Cond.selects RX2 yX2_add yX2_add ∈ tt := tt_in (List.mem_of_getElem? (i := 388) (by decide +kernel)) (by decide +kernel)
theorem k2_add (hsf : sfOk sf) (X : hX p s m args meth c cc nL own rt D (tyC cI) sf A) {n : Nat} {ix : Nat} (hlk : Cond.methodLink own ix yX2_add ∈ tt) {rest : List Value} {K : Int32 → CS → Option (ρ × CS)} (hR : 2 + 1 ≤ fr ∧ 8 + (3 + 11) + 46 ≤ lo) (hcat : (rest.map fun v => v.category).sum ≤ 8) (d : decode cc pc = .ok (.invokevirtual ix, 3)) (kk : ∀ v S1, hG p l e (fun r => rmC fr lo (cS r.2 - cS S0) (sS r.2 - sS S0)) s m args below meth c nL (ZW D (wT cI t) A s.heap S0 S1) (cS S1 - cS S0) (sS S1 - sS S0) QQ (fun r => le S1 r.2) (pc + 3) lv (.int v :: rest) (K v S1)) : hG p l e (fun r => rmC fr lo (cS r.2 - cS S0) (sS r.2 - sS S0)) s m args below meth c nL (ZW D (wT cI t) A s.heap S0 S) (cS S - cS S0) (sS S - sS S0) QQ (fun r => le S r.2) pc lv (.ref t :: rest) (bnd (f2_add n S) K) := h_callVi (As := []) (b := t) (C := RX2) hsf X (c2_add hsf l D cI t n S) (cwVC (k := 0) X.1.2.2.2.2.1 hlk ti2_add te2_add tc2_add ini_2 (by decide +kernel) hR) (fun x H h1 h2 => t_recv rfl x H h1 h2) rfl rfl hcat d kk
end TM
