theorem vP_iff {D : va_G} {cl : List vw_C} {ws : va_W} {H : Heap} : va_P D cl ws H ↔ ∀ x ∈ ws, va_at D cl x H := by
  constructor
  · intro h x hx
    obtain ⟨k, hk⟩ := List.getElem?_of_mem hx
    exact h k x hk
  · intro h k x hk
    exact h x (List.mem_of_getElem? hk)
theorem vP_app {D : va_G} {cl : List vw_C} {X Y : va_W} {H : Heap} : va_P D cl (X ++ Y) H ↔ va_P D cl X H ∧ va_P D cl Y H := by
  simp only [vP_iff, List.mem_append]
  constructor
  · intro h
    exact ⟨fun x hx => h x (Or.inl hx), fun x hx => h x (Or.inr hx)⟩
  · rintro ⟨h1, h2⟩ x (hx | hx)
    · exact h1 x hx
    · exact h2 x hx
theorem vD_app {A : Nat → Prop} {X Y : va_W} : va_D A (X ++ Y) ↔ va_D A X ∧ va_D A Y ∧ ∀ x ∈ X, ∀ y ∈ Y, x.1 ≠ y.1 := by
  constructor
  · intro h
    have hl : ∀ (i : Nat) (x : Nat × va_E), X[i]? = some x → (X ++ Y)[i]? = some x := fun i x hx => by
      rw [List.getElem?_append_left (List.getElem?_eq_some_iff.mp hx).1]; exact hx
    have hr : ∀ (i : Nat) (x : Nat × va_E), Y[i]? = some x → (X ++ Y)[X.length + i]? = some x := fun i x hx => by
      rw [List.getElem?_append_right (by omega), Nat.add_sub_cancel_left]; exact hx
    refine ⟨⟨fun i j x y hi hj e => h.1 i j x y (hl i x hi) (hl j y hj) e, fun i x hi => h.2 i x (hl i x hi)⟩, ⟨fun i j x y hi hj e => ?_, fun i x hi => h.2 _ x (hr i x hi)⟩, fun x hx y hy e => ?_⟩
    · have := h.1 _ _ x y (hr i x hi) (hr j y hj) e
      omega
    · obtain ⟨i, hi⟩ := List.getElem?_of_mem hx
      obtain ⟨j, hj⟩ := List.getElem?_of_mem hy
      have := h.1 _ _ x y (hl i x hi) (hr j y hj) e
      have := (List.getElem?_eq_some_iff.mp hi).1
      omega
  · rintro ⟨h1, h2, h3⟩
    exact va_D.app h1 h2 (fun i j x y hx hy => h3 x (List.mem_of_getElem? hx) y (List.mem_of_getElem? hy))
/-- behind a call that had the first part of the world -/
theorem jn {A : Nat → Prop} {D : va_G} {cl : List vw_C} {X X1 Y : va_W} {H H1 : Heap} (hP : va_P D cl (X ++ Y) H) (hD : va_D A (X ++ Y)) (hk : ∀ q : Nat, q < H.size → ¬ va_A X H.size q → H1[q]? = H[q]?) (hF : ∀ q, va_A X H.size q → A q) (hP1 : va_P D cl X1 H1) (hD1 : va_D (va_A X H.size) X1) : va_P D cl (X1 ++ Y) H1 ∧ va_D A (X1 ++ Y) := by
  obtain ⟨hPX, hPY⟩ := vP_app.mp hP
  obtain ⟨hDX, hDY, hXY⟩ := vD_app.mp hD
  have hout : ∀ y ∈ Y, ¬ va_A X H.size y.1 := by
    intro y hy h
    rcases h with ⟨k, e, hk⟩ | h
    · exact hXY _ (List.mem_of_getElem? hk) y hy rfl
    · have := (vP_iff.mp hPY y hy).lt
      omega
  refine ⟨vP_app.mpr ⟨hP1, vP_iff.mpr fun y hy => (vP_iff.mp hPY y hy).kept (hk _ (vP_iff.mp hPY y hy).lt (hout y hy))⟩, vD_app.mpr ⟨hD1.weaken fun _ x _ h => hF _ h, hDY, fun x hx y hy e => ?_⟩⟩
  obtain ⟨i, hi⟩ := List.getElem?_of_mem hx
  exact hout y hy (e ▸ hD1.2 i x hi)
theorem vD_comm {A : Nat → Prop} {X Y : va_W} (h : va_D A (X ++ Y)) : va_D A (Y ++ X) := by
  obtain ⟨h1, h2, h3⟩ := vD_app.mp h
  exact vD_app.mpr ⟨h2, h1, fun x hx y hy e => h3 y hy x hx e.symm⟩
theorem vP_comm {D : va_G} {cl : List vw_C} {X Y : va_W} {H : Heap} (h : va_P D cl (X ++ Y) H) : va_P D cl (Y ++ X) H := vP_app.mpr (vP_app.mp h).symm
def kI (cI : ClassId) (o : Option CS) (ad : (Nat → Nat) × (Nat → Nat)) : va_W := match o with
  | none => []
  | some I => wI cI ad.1 ad.2 I
abbrev kpW (cO : ClassId) (q : Nat → Nat) (f : Nat → Option Nat) : va_W := [(q 54, .inl (cO, 2, .inr (.inr (.inr (.inr f)))))]
def lwW (cI cZ cO : ClassId) (q qa : Nat → Nat) (S : CS) (f : Nat → Option Nat) (k : Nat → Option CS) (ad : Nat → (Nat → Nat) × (Nat → Nat)) (qr : Nat → Nat) (M : MR) : va_W := wC cI q qa S ++ ((kpW cO q f ++ (kI cI (k 0) (ad 0) ++ kI cI (k 1) (ad 1))) ++ wR cI cZ qr M)
abbrev tyL (cI cZ cO : ClassId) : List (ClassId × FieldType) := [(cI, .int), (cZ, .boolean), (cO, .object "EditionBook$Image")]
def lC (p : Program) (s : State) (m : MethodId) (meth : Method) (c : Code) (b L : Nat) (xs : Nat → Int32) (D : va_G) (cI cZ cO : ClassId) (tk : Nat) : Prop :=
  p.tables.exec = Jvm.exec ∧ c.code = code ∧ c.maxLocals = 4 ∧ s.vm.findClass RL = some m.cls ∧ (∀ w ∈ tt, w.before #[Value.ref b] s = true) ∧ va_X b L xs s s.heap ∧ b < s.heap.size ∧ va_K D vwCl (tyL cI cZ cO) s ∧ SF tk (fun x => s.heap.size ≤ x) s
def lZ (s : State) (D : va_G) (cI cZ cO : ClassId) (q qr : Nat → Nat) (S : CS) (k : Nat → Option CS) (M : MR) (H : Heap) (locs : List Loc) : Prop :=
  ∃ (qa : Nat → Nat) (f : Nat → Option Nat) (ad : Nat → (Nat → Nat) × (Nat → Nat)), (∀ x, x < 2 → f x = (k x).map (fun _ => (ad x).1 53)) ∧ va_P D vwCl (lwW cI cZ cO q qa S f k ad qr M) H ∧ va_D (fun x => s.heap.size ≤ x) (lwW cI cZ cO q qa S f k ad qr M) ∧ va_S (fun x => s.heap.size ≤ x) s.heap H locs
section LR
variable {p : Program} {l : Launch} {e : Env} {s : State} {m : MethodId} {below : List Frame} {meth : Method} {c : Code} {b L : Nat} {xs : Nat → Int32} {D : va_G} {cI cZ cO : ClassId} {tk : Nat} {q qr : Nat → Nat} {S S' : CS} {k : Nat → Option CS} {M M' : MR} {H : Heap} {locs : List Loc} {kc ks : Nat} {Q : State → Prop} {pc : Nat} {ls : Array Slot} {st rest : List Value}
theorem lc_i (X : lC p s m meth c b L xs D cI cZ cO tk) {y : MethodName} {bb : ByteArray} {nz fz lz n ix : Nat} {ret : Option FieldType} {As : List Value} {F : Option (Int32 × CS)} {r : Int32} (hM : MetW l D (tyC cI) (SF tk) (wC cI q) y bb nz ret fz lz QWi (.ref (q 50) :: As) S F) (hF : F = some (r, S')) (cw : ∀ a0 b0 mc ms : Nat, CallW (rmC 13 516 a0 b0) s #[Value.ref b] RL RX4 ix y bb nz ret (wsM y bb nz ret) (rmC fz lz mc ms) mc ms n) (hn : As.length = n) (hst : st = As.reverse ++ .ref (q 50) :: rest) (hcat : (rest.map fun v => v.category).sum ≤ 8) (d : decode code pc = .ok (.invokevirtual ix, 3)) (f1 : kc + (cS S' - cS S) ≤ 600000) (f2 : ks + (sS S' - sS S) ≤ 7302250) (hls : ls.size = 4) (hz : lZ s D cI cZ cO q qr S k M H locs)
    (kk : ∀ H1 locs1, lZ s D cI cZ cO q qr S' k M H1 locs1 → W p l e room_1 s m #[Value.ref b] below meth c H1 locs1 (kc + (cS S' - cS S)) (ks + (sS S' - sS S)) Q (F0 m (pc + 3) ls (.int r :: rest))) : W p l e room_1 s m #[Value.ref b] below meth c H locs kc ks Q (F0 m pc ls st) := by
  obtain ⟨qa, f, ad, hf, hP, hD, hS⟩ := hz
  have hPx := (vP_app.mp hP).1
  have hDx := (vD_app.mp hD).1
  have hK := X.2.2.2.2.2.2.2.1.sub (tys' := tyC cI) [0] rfl
  have hfree : ∀ y, va_A (wC cI q qa S) H.size y → s.heap.size ≤ y := by
    intro y hy
    rcases hy with ⟨k, e, hk⟩ | hy
    · exact hDx.2 k (y, e) hk
    · exact Nat.le_trans hS.1 hy
  refine va_calli (va_runV (As := As) (rest := rest) ⟨X.1, X.2.1, X.2.2.1, X.2.2.2.1, X.2.2.2.2.1⟩ (hM.2 qa H.size _ hF) (cw 600000 7302250 _ _) ⟨PcW_blind (SF_ok tk), va_recv hK hPx (ci := 4) (q0 := 0) rfl rfl, fun U hU hW => ⟨rfl, by rw [hU], by rw [hU]; exact hPx, va_K.moved hW.alike hK, hDx.weaken (fun _ _ _ _ => trivial), SF_ok tk _ _ s U X.2.2.2.2.2.2.2.2 hfree (Or.inl hW) (fun y h1 h2 => by rw [hU]; exact hS.2.1 y h1 h2)⟩⟩ rfl hn hls hst (lv_room hcat) d ⟨f1, f2⟩) hS (fun y _ h => hfree y h) hfree (fun v u t H1 locs1 ht hvm hw hB hz1 hk1 hS1 => ?_)
  obtain ⟨rfl, rfl⟩ := hw
  obtain ⟨qb, hP1, hK1, hD1⟩ := hB
  subst ht
  obtain ⟨hPj, hDj⟩ := jn hP hD hk1 hfree hP1 hD1
  exact kk _ _ ⟨qb, f, ad, hf, hPj, hDj, hS1⟩
theorem lr_i (X : lC p s m meth c b L xs D cI cZ cO tk) {y : MethodName} {bb : ByteArray} {nz fz lz n ix : Nat} {ret : Option FieldType} {As : List Value} {F : Option (Int32 × MR)} {r : Int32} (hM : MetR l D cI cZ qr y bb nz ret fz lz QI (.ref (qr 34) :: As) M F) (hF : F = some (r, M')) (cw : CallW room_1 s #[Value.ref b] RL RX5 ix y bb nz ret (wsM y bb nz ret) (rmR fz lz) 0 0 n) (hn : As.length = n) (hst : st = As.reverse ++ .ref (qr 34) :: rest) (hcat : (rest.map fun v => v.category).sum ≤ 8) (d : decode code pc = .ok (.invokevirtual ix, 3)) (f1 : kc ≤ 600000) (f2 : ks ≤ 7302250) (hls : ls.size = 4) (hz : lZ s D cI cZ cO q qr S k M H locs)
    (kk : ∀ H1 locs1, lZ s D cI cZ cO q qr S k M' H1 locs1 → W p l e room_1 s m #[Value.ref b] below meth c H1 locs1 kc ks Q (F0 m (pc + 3) ls (.int r :: rest))) : W p l e room_1 s m #[Value.ref b] below meth c H locs kc ks Q (F0 m pc ls st) := by
  obtain ⟨qa, f, ad, hf, hP, hD, hS⟩ := hz
  unfold lwW at hP hD
  rw [← List.append_assoc] at hP hD
  have hP := vP_comm hP
  have hD := vD_comm hD
  have hPx := (vP_app.mp hP).1
  have hDx := (vD_app.mp hD).1
  have hK := X.2.2.2.2.2.2.2.1.sub (tys' := tyR cI cZ) [0, 1] rfl
  have hfree : ∀ y, AR qr H.size y → s.heap.size ≤ y := by
    intro y hy
    have hy := (AR_in (cI := cI) (cZ := cZ) (M := M)).mpr hy
    rcases hy with ⟨k, e, hk⟩ | hy
    · exact hDx.2 k (y, e) hk
    · exact Nat.le_trans hS.1 hy
  refine va_calli (va_runV (As := As) (rest := rest) ⟨X.1, X.2.1, X.2.2.1, X.2.2.2.1, X.2.2.2.2.1⟩ (hM H.size _ hF) cw ⟨PcR_blind, va_recv hK hPx (ci := 5) (q0 := 0) rfl rfl, fun U hU hW => ⟨rfl, by rw [hU], by rw [hU]; exact hPx, va_K.moved hW.alike hK, hDx.weaken (fun _ _ _ _ => trivial)⟩⟩ rfl hn hls hst (lv_room hcat) d ⟨f1, f2⟩) hS (fun y _ h => hfree y h) hfree (fun v u t H1 locs1 ht hvm hw hB hz1 hk1 hS1 => ?_)
  obtain ⟨rfl, rfl⟩ := hw
  obtain ⟨hP1, hK1, hD1⟩ := hB
  subst ht
  obtain ⟨hPj, hDj⟩ := jn hP hD (fun q h1 h2 => hk1 q h1 (by rw [AR_eq] at h2; exact h2)) (fun q h => hfree q (by rw [AR_eq] at h; exact h)) hP1 (by rw [AR_eq]; exact hD1)
  refine kk _ _ ⟨qa, f, ad, hf, ?_, ?_, hS1⟩
  · unfold lwW
    rw [← List.append_assoc]
    exact vP_comm hPj
  · unfold lwW
    rw [← List.append_assoc]
    exact vD_comm hDj
end LR
def FU : Nat := 3000000
def adG (S : CS) (mc ms : Nat) : CS := (S.1, fun i => if i = 1 then S.2 1 + mc else if i = 2 then S.2 2 + ms else S.2 i)
/-- what copying image J into image I wants: widths, rows, room -/
def cpOk (I J : CS) : Prop := (I.1 55 0 = nI 125 ∧ J.1 55 0 = nI 125 ∧ J.1 45 0 = nI (J.1 45 0).toNatClampNeg ∧ cu 5 125 J ≤ J.2 15 ∧ I.2 15 < 134217728 ∧ J.2 15 < 134217728) ∧ (I.1 56 0 = nI 104 ∧ J.1 56 0 = nI 104 ∧ J.1 46 0 = nI (J.1 46 0).toNatClampNeg ∧ cu 6 104 J ≤ J.2 16 ∧ I.2 16 < 134217728 ∧ J.2 16 < 134217728) ∧ (I.1 57 0 = nI 21 ∧ J.1 57 0 = nI 21 ∧ J.1 47 0 = nI (J.1 47 0).toNatClampNeg ∧ cu 7 21 J ≤ J.2 17 ∧ I.2 17 < 134217728 ∧ J.2 17 < 134217728)
def cpC (I J : CS) : Nat := gk (cu 5 125 J) (I.2 15) + gk (cu 6 104 J) (I.2 16) + gk (cu 7 21 J) (I.2 17)
def cpS (I J : CS) : Nat := gs (cu 5 125 J) (I.2 15) (J.2 15) + gs (cu 6 104 J) (I.2 16) (J.2 16) + gs (cu 7 21 J) (I.2 17) (J.2 17)
/-- what the pure programs owe: an invariant between the class's state and the reference's that every call keeps, with one answer -/
def SimOps (Inv : CS → (Nat → Option CS) → MR → Prop) : Prop :=
  (∀ (S : CS) (k : Nat → Option CS) (M : MR) (x1 : Int32) (x2 : Int32) (x3 : Int32) (x4 : Int32) (x5 : Int32), Inv S k M → ∃ (r : Int32) (S' : CS) (M' : MR), f4_put FU x1 x2 x3 x4 x5 S = some (r, S') ∧ fR_put FU x1 x2 x3 x4 x5 M = some (r, M') ∧ Inv S' k M') ∧
  (∀ (S : CS) (k : Nat → Option CS) (M : MR), Inv S k M → ∃ (r : Int32) (S' : CS) (M' : MR), f4_wipe FU S = some (r, S') ∧ fR_wipe FU M = some (r, M') ∧ Inv S' k M') ∧
  (∀ (S : CS) (k : Nat → Option CS) (M : MR) (x1 : Int32) (x2 : Int32), Inv S k M → ∃ (r : Int32) (S' : CS) (M' : MR), f4_cell FU x1 x2 S = some (r, S') ∧ fR_cell FU x1 x2 M = some (r, M') ∧ Inv S' k M') ∧
  (∀ (S : CS) (k : Nat → Option CS) (M : MR) (x1 : Int32), Inv S k M → ∃ (r : Int32) (S' : CS) (M' : MR), f4_redo FU x1 S = some (r, S') ∧ fR_redo FU x1 M = some (r, M') ∧ Inv S' k M') ∧
  (∀ (S : CS) (k : Nat → Option CS) (M : MR) (x1 : Int32), Inv S k M → ∃ (r : Int32) (S' : CS) (M' : MR), f4_rerun FU x1 S = some (r, S') ∧ fR_rerun FU x1 M = some (r, M') ∧ Inv S' k M') ∧
  (∀ (S : CS) (k : Nat → Option CS) (M : MR), Inv S k M → ∃ (r : Int32) (S' : CS) (M' : MR), f4_rerunStale FU S = some (r, S') ∧ fR_rerunStale FU M = some (r, M') ∧ Inv S' k M') ∧
  (∀ (S : CS) (k : Nat → Option CS) (M : MR) (x1 : Int32), Inv S k M → ∃ (r : Int32) (S' : CS) (M' : MR), f4_forget FU x1 S = some (r, S') ∧ fR_forget FU x1 M = some (r, M') ∧ Inv S' k M') ∧
  (∀ (S : CS) (k : Nat → Option CS) (M : MR) (x1 : Int32) (x2 : Int32), Inv S k M → ∃ (r : Int32) (S' : CS) (M' : MR), f4_of FU x1 x2 S = some (r, S') ∧ fR_of FU x1 x2 M = some (r, M') ∧ Inv S' k M') ∧
  (∀ (S : CS) (k : Nat → Option CS) (M : MR) (x1 : Int32) (x2 : Int32), Inv S k M → ∃ (r : Int32) (S' : CS) (M' : MR), f4_leans FU x1 x2 S = some (r, S') ∧ fR_leans FU x1 x2 M = some (r, M') ∧ Inv S' k M') ∧
  (∀ (S : CS) (k : Nat → Option CS) (M : MR) (x1 : Int32), Inv S k M → ∃ (r : Int32) (S' : CS) (M' : MR), f4_stale FU x1 S = some (r, S') ∧ fR_stale FU x1 M = some (r, M') ∧ Inv S' k M') ∧
  (∀ (S : CS) (k : Nat → Option CS) (M : MR) (x1 : Int32) (x2 : Int32) (x3 : Int32), Inv S k M → ∃ (r : Int32) (S' : CS) (M' : MR), f4_written FU x1 x2 x3 S = some (r, S') ∧ fR_written FU x1 x2 x3 M = some (r, M') ∧ Inv S' k M') ∧
  (∀ (S : CS) (k : Nat → Option CS) (M : MR) (x1 : Int32), Inv S k M → ∃ (r : Int32) (S' : CS) (M' : MR), f4_count FU x1 S = some (r, S') ∧ fR_count FU x1 M = some (r, M') ∧ Inv S' k M') ∧
  (∀ (S : CS) (k : Nat → Option CS) (M : MR) (x1 : Int32), Inv S k M → ∃ (r : Int32) (S' : CS) (M' : MR), f4_newest FU x1 S = some (r, S') ∧ fR_newest FU x1 M = some (r, M') ∧ Inv S' k M') ∧
  (∀ (S : CS) (k : Nat → Option CS) (M : MR) (x1 : Int32) (x2 : Int32), Inv S k M → ∃ (r : Int32) (S' : CS) (M' : MR), f4_edition FU x1 x2 S = some (r, S') ∧ fR_edition FU x1 x2 M = some (r, M') ∧ Inv S' k M') ∧
  (∀ (S : CS) (k : Nat → Option CS) (M : MR) (x1 : Int32), Inv S k M → ∃ (r : Int32) (S' : CS) (M' : MR), f4_classOf FU x1 S = some (r, S') ∧ fR_classOf FU x1 M = some (r, M') ∧ Inv S' k M') ∧
  (∀ (S : CS) (k : Nat → Option CS) (M : MR) (x1 : Int32) (x2 : Int32) (x3 : Int32), Inv S k M → ∃ (r : Int32) (S' : CS) (M' : MR), f4_field FU x1 x2 x3 S = some (r, S') ∧ fR_field FU x1 x2 x3 M = some (r, M') ∧ Inv S' k M') ∧
  (∀ (S : CS) (k : Nat → Option CS) (M : MR) (x1 : Int32) (x2 : Int32), Inv S k M → ∃ (r : Int32) (S' : CS) (M' : MR), f4_is FU x1 x2 S = some (r, S') ∧ fR_is FU x1 x2 M = some (r, M') ∧ Inv S' k M') ∧
  (∀ (S : CS) (k : Nat → Option CS) (M : MR) (x1 : Int32) (x2 : Int32) (x3 : Int32), Inv S k M → ∃ (r : Int32) (S' : CS) (M' : MR), f4_call FU x1 x2 x3 S = some (r, S') ∧ fR_call FU x1 x2 x3 M = some (r, M') ∧ Inv S' k M') ∧
  (∀ (S : CS) (k : Nat → Option CS) (M : MR) (x1 : Int32), Inv S k M → ∃ (r : Int32) (S' : CS) (M' : MR), f4_came FU x1 S = some (r, S') ∧ fR_came FU x1 M = some (r, M') ∧ Inv S' k M') ∧
  (∀ (S : CS) (k : Nat → Option CS) (M : MR) (x1 : Int32) (x2 : Int32), Inv S k M → ∃ (r : Int32) (S' : CS) (M' : MR), f4_convert FU x1 x2 S = some (r, S') ∧ fR_convert FU x1 x2 M = some (r, M') ∧ Inv S' k M')
def SimKeep (Inv : CS → (Nat → Option CS) → MR → Prop) : Prop :=
  (∀ (S : CS) (k : Nat → Option CS) (M : MR) (x : Int32), Inv S k M → (x < 0 ∨ ¬ x < nI 2) → fR_keep FU x M = some (0, M) ∧ fR_back FU x M = some (0, M)) ∧
  (∀ (S : CS) (k : Nat → Option CS) (M : MR) (z : Nat), Inv S k M → z < 2 → k z = none → fR_back FU (nI z) M = some (0, M) ∧ cpOk I00 S ∧ ∃ M', fR_keep FU (nI z) M = some (1, M') ∧ Inv (adG S (8 + cpC I00 S) (1032 + cpS I00 S)) (va_up k z (some (cpI I00 S))) M') ∧
  (∀ (S : CS) (k : Nat → Option CS) (M : MR) (z : Nat) (I : CS), Inv S k M → z < 2 → k z = some I → cpOk I S ∧ cpOk S I ∧ (∃ M', fR_keep FU (nI z) M = some (1, M') ∧ Inv (adG S (cpC I S) (cpS I S)) (va_up k z (some (cpI I S))) M') ∧ ∃ M', fR_back FU (nI z) M = some (1, M') ∧ Inv (cpI S I) k M')
def SimRoom (Inv : CS → (Nat → Option CS) → MR → Prop) : Prop := ∀ (S : CS) (k : Nat → Option CS) (M : MR), Inv S k M → cS S ≤ 500000 ∧ sS S ≤ 7100000
