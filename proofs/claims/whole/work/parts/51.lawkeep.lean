theorem vD_mid {A : Nat → Prop} {X Y Z T : va_W} (h : va_D A (X ++ (Y ++ (Z ++ T)))) : va_D A (X ++ (Z ++ (Y ++ T))) := by
  obtain ⟨h1, h2, h3⟩ := vD_app.mp h
  obtain ⟨g1, g2, g3⟩ := vD_app.mp h2
  obtain ⟨f1, f2, f3⟩ := vD_app.mp g2
  refine vD_app.mpr ⟨h1, vD_app.mpr ⟨f1, vD_app.mpr ⟨g1, f2, fun x hx y hy => g3 x hx y (List.mem_append_right _ hy)⟩, fun x hx y hy => ?_⟩, fun x hx y hy => h3 x hx y ?_⟩
  · rcases List.mem_append.mp hy with hy | hy
    · exact fun e => g3 y hy x (List.mem_append_left _ hx) e.symm
    · exact f3 x hx y hy
  · rcases List.mem_append.mp hy with hy | hy
    · exact List.mem_append_right _ (List.mem_append_left _ hy)
    · rcases List.mem_append.mp hy with hy | hy
      · exact List.mem_append_left _ hy
      · exact List.mem_append_right _ (List.mem_append_right _ hy)
theorem vP_mid {D : va_G} {cl : List vw_C} {X Y Z T : va_W} {H : Heap} (h : va_P D cl (X ++ (Y ++ (Z ++ T))) H) : va_P D cl (X ++ (Z ++ (Y ++ T))) H := by
  obtain ⟨h1, h2⟩ := vP_app.mp h
  obtain ⟨g1, g2⟩ := vP_app.mp h2
  obtain ⟨f1, f2⟩ := vP_app.mp g2
  exact vP_app.mpr ⟨h1, vP_app.mpr ⟨f1, vP_app.mpr ⟨g1, f2⟩⟩⟩
/-- the law's world with the image of place z behind the book -/
def lwX (cI cZ cO : ClassId) (q qa : Nat → Nat) (S : CS) (f : Nat → Option Nat) (k : Nat → Option CS) (ad : Nat → (Nat → Nat) × (Nat → Nat)) (qr : Nat → Nat) (M : MR) (z : Nat) : va_W := (wB cI cO q qa S f ++ kI cI (k z) (ad z)) ++ (kI cI (k (1 - z)) (ad (1 - z)) ++ wR cI cZ qr M)
theorem lw_0 (cI cZ cO : ClassId) (q qa : Nat → Nat) (S : CS) (f : Nat → Option Nat) (k : Nat → Option CS) (ad : Nat → (Nat → Nat) × (Nat → Nat)) (qr : Nat → Nat) (M : MR) : lwW cI cZ cO q qa S f k ad qr M = wB cI cO q qa S f ++ (kI cI (k 0) (ad 0) ++ (kI cI (k 1) (ad 1) ++ wR cI cZ qr M)) := by
  unfold lwW
  simp only [wB, List.append_assoc]
theorem lw_x0 (cI cZ cO : ClassId) (q qa : Nat → Nat) (S : CS) (f : Nat → Option Nat) (k : Nat → Option CS) (ad : Nat → (Nat → Nat) × (Nat → Nat)) (qr : Nat → Nat) (M : MR) (z : Nat) : lwX cI cZ cO q qa S f k ad qr M z = wB cI cO q qa S f ++ (kI cI (k z) (ad z) ++ (kI cI (k (1 - z)) (ad (1 - z)) ++ wR cI cZ qr M)) := by
  unfold lwX
  rw [List.append_assoc]
section LX
variable {p : Program} {l : Launch} {e : Env} {s : State} {m : MethodId} {below : List Frame} {meth : Method} {c : Code} {b L : Nat} {xs : Nat → Int32} {D : va_G} {cI cZ cO : ClassId} {tk : Nat} {q qr : Nat → Nat} {S S' : CS} {k : Nat → Option CS} {M M' : MR} {H : Heap} {qa : Nat → Nat} {f : Nat → Option Nat} {ad : Nat → (Nat → Nat) × (Nat → Nat)} {z : Nat} {A : Nat → Prop} {locs : List Loc} {kc ks : Nat} {Q : State → Prop} {pc : Nat} {ls : Array Slot} {st rest : List Value}
theorem lw_toP (hz : z < 2) (h : va_P D vwCl (lwW cI cZ cO q qa S f k ad qr M) H) : va_P D vwCl (lwX cI cZ cO q qa S f k ad qr M z) H := by
  rw [lw_x0]
  rw [lw_0] at h
  rcases (show z = 0 ∨ z = 1 by omega) with rfl | rfl
  · exact h
  · exact vP_mid h
theorem lw_toD (hz : z < 2) (h : va_D A (lwW cI cZ cO q qa S f k ad qr M)) : va_D A (lwX cI cZ cO q qa S f k ad qr M z) := by
  rw [lw_x0]
  rw [lw_0] at h
  rcases (show z = 0 ∨ z = 1 by omega) with rfl | rfl
  · exact h
  · exact vD_mid h
theorem lw_ofP (hz : z < 2) (h : va_P D vwCl (lwX cI cZ cO q qa S f k ad qr M z) H) : va_P D vwCl (lwW cI cZ cO q qa S f k ad qr M) H := by
  rw [lw_x0] at h
  rw [lw_0]
  rcases (show z = 0 ∨ z = 1 by omega) with rfl | rfl
  · exact h
  · exact vP_mid h
theorem lw_ofD (hz : z < 2) (h : va_D A (lwX cI cZ cO q qa S f k ad qr M z)) : va_D A (lwW cI cZ cO q qa S f k ad qr M) := by
  rw [lw_x0] at h
  rw [lw_0]
  rcases (show z = 0 ∨ z = 1 by omega) with rfl | rfl
  · exact h
  · exact vD_mid h
end LX
theorem tcX4_keep : Cond.code yX4_keep cX4_keep 3 (some .boolean) ∈ tt := tt_in (by decide +kernel) (by decide +kernel)
theorem tiX4_keep : Cond.instanceMethod yX4_keep ∈ tt := tt_in (by decide +kernel) (by decide +kernel)
theorem teX4_keep : Cond.selects RX4 yX4_keep yX4_keep ∈ tt := tt_in (by decide +kernel) (by decide +kernel)
theorem tcX4_back : Cond.code yX4_back cX4_back 3 (some .boolean) ∈ tt := tt_in (by decide +kernel) (by decide +kernel)
theorem tiX4_back : Cond.instanceMethod yX4_back ∈ tt := tt_in (by decide +kernel) (by decide +kernel)
theorem teX4_back : Cond.selects RX4 yX4_back yX4_back ∈ tt := tt_in (by decide +kernel) (by decide +kernel)
theorem tlL_100 : Cond.methodLink RL 100 yX4_keep ∈ tt := tt_in (by decide +kernel) (by decide +kernel)
theorem tlL_104 : Cond.methodLink RL 104 yX4_back ∈ tt := tt_in (by decide +kernel) (by decide +kernel)
theorem vu_s {α : Type} (f : Nat → α) (z : Nat) (v : α) : va_up f z v z = v := by simp [va_up]
theorem vu_n {α : Type} (f : Nat → α) {z y : Nat} (v : α) (h : y ≠ z) : va_up f z v y = f y := by simp [va_up, h]
section LK
variable {p : Program} {l : Launch} {e : Env} {s : State} {m : MethodId} {below : List Frame} {meth : Method} {c : Code} {b L : Nat} {xs : Nat → Int32} {D : va_G} {cI cZ cO : ClassId} {tk : Nat} {q qr : Nat → Nat} {S S' : CS} {k : Nat → Option CS} {M M' : MR} {H : Heap} {locs : List Loc} {kc ks : Nat} {Q : State → Prop} {pc : Nat} {ls : Array Slot} {st rest : List Value}
theorem lk_bad_keep (X : lC p s m meth c b L xs D cI cZ cO tk) {x1 : Int32} (hbad : x1 < 0 ∨ ¬ x1 < nI 2) (hcat : (rest.map fun v => v.category).sum ≤ 8) (d : decode code pc = .ok (.invokevirtual 100, 3)) (f1 : kc + 0 ≤ 600000) (f2 : ks + 0 ≤ 7302250) (hls : ls.size = 4) (hz : lZ s D cI cZ cO q qr S k M H locs)
    (kk : ∀ H1 locs1, lZ s D cI cZ cO q qr S k M H1 locs1 → W p l e room_1 s m #[Value.ref b] below meth c H1 locs1 (kc + 0) (ks + 0) Q (F0 m (pc + 3) ls (.int 0 :: rest))) : W p l e room_1 s m #[Value.ref b] below meth c H locs kc ks Q (F0 m pc ls (.int x1 :: .ref (q 50) :: rest)) := by
  obtain ⟨qa, f, ad, hf, hP, hD, hS⟩ := hz
  have hK := X.2.2.2.2.2.2.2.1.sub (tys' := tyO cI cO) [0, 2] rfl
  rw [lw_0] at hP hD
  have hPx := (vP_app.mp hP).1
  have hDx := (vD_app.mp hD).1
  have hfree : ∀ y, va_A (wB cI cO q qa S f) H.size y → s.heap.size ≤ y := by
    intro y hy
    rcases hy with ⟨k, e, hk⟩ | hy
    · exact hDx.2 k (y, e) hk
    · exact Nat.le_trans hS.1 hy
  refine va_calli (va_runV (As := [.int x1]) (rest := rest) ⟨X.1, X.2.1, X.2.2.1, X.2.2.2.1, X.2.2.2.2.1⟩ (cbad_keep l D cI cO q qa S f x1 hbad H.size) (cwVC (fr := 13) (lo := 516) (fz := 3) (lz := 80) (k := 1) X.2.2.2.2.1 tlL_100 tiX4_keep teX4_keep tcX4_keep ini_4 (by decide +kernel) ⟨by decide, by decide⟩ 600000 7302250 _ _) ⟨fun a U g mk q => by obtain ⟨q0, q1, qP, qK, qD⟩ := q; exact ⟨q0, q1, qP, va_K.moved (u := U) (U := U.calling g mk a) (Vm.Alike.refl U.vm) qK, qD⟩, va_recv hK hPx (ci := 4) (q0 := 0) rfl rfl, fun U hU hW => ⟨rfl, by rw [hU], by rw [hU]; exact hPx, va_K.moved hW.alike hK, hDx.weaken (fun _ _ _ _ => trivial)⟩⟩ rfl rfl hls rfl (lv_room hcat) d ⟨f1, f2⟩) hS (fun y _ h => hfree y h) hfree (fun v u t H1 locs1 ht hvm hw hB hz1 hk1 hS1 => ?_)
  subst hw
  subst ht
  obtain ⟨hP1, hK1, hD1⟩ := hB
  obtain ⟨hPj, hDj⟩ := jn hP hD hk1 hfree hP1 hD1
  exact kk _ _ ⟨qa, f, ad, hf, by rw [lw_0]; exact hPj, by rw [lw_0]; exact hDj, hS1⟩
theorem lk_bad_back (X : lC p s m meth c b L xs D cI cZ cO tk) {x1 : Int32} (hbad : x1 < 0 ∨ ¬ x1 < nI 2) (hcat : (rest.map fun v => v.category).sum ≤ 8) (d : decode code pc = .ok (.invokevirtual 104, 3)) (f1 : kc + 0 ≤ 600000) (f2 : ks + 0 ≤ 7302250) (hls : ls.size = 4) (hz : lZ s D cI cZ cO q qr S k M H locs)
    (kk : ∀ H1 locs1, lZ s D cI cZ cO q qr S k M H1 locs1 → W p l e room_1 s m #[Value.ref b] below meth c H1 locs1 (kc + 0) (ks + 0) Q (F0 m (pc + 3) ls (.int 0 :: rest))) : W p l e room_1 s m #[Value.ref b] below meth c H locs kc ks Q (F0 m pc ls (.int x1 :: .ref (q 50) :: rest)) := by
  obtain ⟨qa, f, ad, hf, hP, hD, hS⟩ := hz
  have hK := X.2.2.2.2.2.2.2.1.sub (tys' := tyO cI cO) [0, 2] rfl
  rw [lw_0] at hP hD
  have hPx := (vP_app.mp hP).1
  have hDx := (vD_app.mp hD).1
  have hfree : ∀ y, va_A (wB cI cO q qa S f) H.size y → s.heap.size ≤ y := by
    intro y hy
    rcases hy with ⟨k, e, hk⟩ | hy
    · exact hDx.2 k (y, e) hk
    · exact Nat.le_trans hS.1 hy
  refine va_calli (va_runV (As := [.int x1]) (rest := rest) ⟨X.1, X.2.1, X.2.2.1, X.2.2.2.1, X.2.2.2.2.1⟩ (cbad_back l D cI cO q qa S f x1 hbad H.size) (cwVC (fr := 13) (lo := 516) (fz := 3) (lz := 80) (k := 1) X.2.2.2.2.1 tlL_104 tiX4_back teX4_back tcX4_back ini_4 (by decide +kernel) ⟨by decide, by decide⟩ 600000 7302250 _ _) ⟨fun a U g mk q => by obtain ⟨q0, q1, qP, qK, qD⟩ := q; exact ⟨q0, q1, qP, va_K.moved (u := U) (U := U.calling g mk a) (Vm.Alike.refl U.vm) qK, qD⟩, va_recv hK hPx (ci := 4) (q0 := 0) rfl rfl, fun U hU hW => ⟨rfl, by rw [hU], by rw [hU]; exact hPx, va_K.moved hW.alike hK, hDx.weaken (fun _ _ _ _ => trivial)⟩⟩ rfl rfl hls rfl (lv_room hcat) d ⟨f1, f2⟩) hS (fun y _ h => hfree y h) hfree (fun v u t H1 locs1 ht hvm hw hB hz1 hk1 hS1 => ?_)
  subst hw
  subst ht
  obtain ⟨hP1, hK1, hD1⟩ := hB
  obtain ⟨hPj, hDj⟩ := jn hP hD hk1 hfree hP1 hD1
  exact kk _ _ ⟨qa, f, ad, hf, by rw [lw_0]; exact hPj, by rw [lw_0]; exact hDj, hS1⟩
theorem lk_backN (X : lC p s m meth c b L xs D cI cZ cO tk) {z : Nat} (hz2 : z < 2) (hkz : k z = none) (hcat : (rest.map fun v => v.category).sum ≤ 8) (d : decode code pc = .ok (.invokevirtual 104, 3)) (f1 : kc + 0 ≤ 600000) (f2 : ks + 0 ≤ 7302250) (hls : ls.size = 4) (hz : lZ s D cI cZ cO q qr S k M H locs)
    (kk : ∀ H1 locs1, lZ s D cI cZ cO q qr S k M H1 locs1 → W p l e room_1 s m #[Value.ref b] below meth c H1 locs1 (kc + 0) (ks + 0) Q (F0 m (pc + 3) ls (.int 0 :: rest))) : W p l e room_1 s m #[Value.ref b] below meth c H locs kc ks Q (F0 m pc ls (.int (nI z) :: .ref (q 50) :: rest)) := by
  obtain ⟨qa, f, ad, hf, hP, hD, hS⟩ := hz
  have hK := X.2.2.2.2.2.2.2.1.sub (tys' := tyO cI cO) [0, 2] rfl
  rw [lw_0] at hP hD
  have hPx := (vP_app.mp hP).1
  have hDx := (vD_app.mp hD).1
  have hfree : ∀ y, va_A (wB cI cO q qa S f) H.size y → s.heap.size ≤ y := by
    intro y hy
    rcases hy with ⟨k, e, hk⟩ | hy
    · exact hDx.2 k (y, e) hk
    · exact Nat.le_trans hS.1 hy
  refine va_calli (va_runV (As := [.int (nI z)]) (rest := rest) ⟨X.1, X.2.1, X.2.2.1, X.2.2.2.1, X.2.2.2.2.1⟩ (cbackN l D cI cO q qa S f z hz2 (by rw [hf z hz2, hkz]; rfl) H.size) (cwVC (fr := 13) (lo := 516) (fz := 3) (lz := 80) (k := 1) X.2.2.2.2.1 tlL_104 tiX4_back teX4_back tcX4_back ini_4 (by decide +kernel) ⟨by decide, by decide⟩ 600000 7302250 _ _) ⟨fun a U g mk q => by obtain ⟨q0, q1, qP, qK, qD⟩ := q; exact ⟨q0, q1, qP, va_K.moved (u := U) (U := U.calling g mk a) (Vm.Alike.refl U.vm) qK, qD⟩, va_recv hK hPx (ci := 4) (q0 := 0) rfl rfl, fun U hU hW => ⟨rfl, by rw [hU], by rw [hU]; exact hPx, va_K.moved hW.alike hK, hDx.weaken (fun _ _ _ _ => trivial)⟩⟩ rfl rfl hls rfl (lv_room hcat) d ⟨f1, f2⟩) hS (fun y _ h => hfree y h) hfree (fun v u t H1 locs1 ht hvm hw hB hz1 hk1 hS1 => ?_)
  subst hw
  subst ht
  obtain ⟨hP1, hK1, hD1⟩ := hB
  obtain ⟨hPj, hDj⟩ := jn hP hD hk1 hfree hP1 hD1
  exact kk _ _ ⟨qa, f, ad, hf, by rw [lw_0]; exact hPj, by rw [lw_0]; exact hDj, hS1⟩
theorem lk_keepN (X : lC p s m meth c b L xs D cI cZ cO tk) {z : Nat} (hz2 : z < 2) (hkz : k z = none) (hok : cpOk I00 S) (hcat : (rest.map fun v => v.category).sum ≤ 8) (d : decode code pc = .ok (.invokevirtual 100, 3)) (f1 : kc + (8 + cpC I00 S) ≤ 600000) (f2 : ks + (1032 + cpS I00 S) ≤ 7302250) (hls : ls.size = 4) (hz : lZ s D cI cZ cO q qr S k M H locs)
    (kk : ∀ H1 locs1, lZ s D cI cZ cO q qr (adG S (8 + cpC I00 S) (1032 + cpS I00 S)) (va_up k z (some (cpI I00 S))) M H1 locs1 → W p l e room_1 s m #[Value.ref b] below meth c H1 locs1 (kc + (8 + cpC I00 S)) (ks + (1032 + cpS I00 S)) Q (F0 m (pc + 3) ls (.int 1 :: rest))) : W p l e room_1 s m #[Value.ref b] below meth c H locs kc ks Q (F0 m pc ls (.int (nI z) :: .ref (q 50) :: rest)) := by
  obtain ⟨qa, f, ad, hf, hP, hD, hS⟩ := hz
  have hK := X.2.2.2.2.2.2.2.1.sub (tys' := tyO cI cO) [0, 2] rfl
  have hP := lw_toP hz2 hP
  have hD := lw_toD hz2 hD
  unfold lwX at hP hD
  have ek : kI cI (k z) (ad z) = [] := by rw [hkz]; rfl
  rw [ek, List.append_nil] at hP hD
  have hPx := (vP_app.mp hP).1
  have hDx := (vD_app.mp hD).1
  have hfree : ∀ y, va_A (wB cI cO q qa S f) H.size y → s.heap.size ≤ y := by
    intro y hy
    rcases hy with ⟨k, e, hk⟩ | hy
    · exact hDx.2 k (y, e) hk
    · exact Nat.le_trans hS.1 hy
  refine va_calli (va_runV (As := [.int (nI z)]) (rest := rest) ⟨X.1, X.2.1, X.2.2.1, X.2.2.2.1, X.2.2.2.2.1⟩ (ckeepN l D cI cO q qa S f z hz2 (by rw [hf z hz2, hkz]; rfl) (S.1 45 0).toNatClampNeg (S.1 46 0).toNatClampNeg (S.1 47 0).toNatClampNeg hok.1.1 hok.1.2.1 hok.1.2.2.1 rfl hok.1.2.2.2.1 hok.1.2.2.2.2.1 hok.1.2.2.2.2.2 hok.2.1.1 hok.2.1.2.1 hok.2.1.2.2.1 rfl hok.2.1.2.2.2.1 hok.2.1.2.2.2.2.1 hok.2.1.2.2.2.2.2 hok.2.2.1 hok.2.2.2.1 hok.2.2.2.2.1 rfl hok.2.2.2.2.2.1 hok.2.2.2.2.2.2.1 hok.2.2.2.2.2.2.2 H.size) (cwVC (fr := 13) (lo := 516) (fz := 3) (lz := 80) (k := 1) X.2.2.2.2.1 tlL_100 tiX4_keep teX4_keep tcX4_keep ini_4 (by decide +kernel) ⟨by decide, by decide⟩ 600000 7302250 _ _) ⟨fun a U g mk q => by obtain ⟨q0, q1, qP, qK, qD⟩ := q; exact ⟨q0, q1, qP, va_K.moved (u := U) (U := U.calling g mk a) (Vm.Alike.refl U.vm) qK, qD⟩, va_recv hK hPx (ci := 4) (q0 := 0) rfl rfl, fun U hU hW => ⟨rfl, by rw [hU], by rw [hU]; exact hPx, va_K.moved hW.alike hK, hDx.weaken (fun _ _ _ _ => trivial)⟩⟩ rfl rfl hls rfl (lv_room hcat) d ⟨f1, f2⟩) hS (fun y _ h => hfree y h) hfree (fun v u t H1 locs1 ht hvm hw hB hz1 hk1 hS1 => ?_)
  subst hw
  subst ht
  obtain ⟨qi, qb, hP1, hK1, hD1⟩ := hB
  obtain ⟨hPj, hDj⟩ := jn hP hD hk1 hfree hP1 hD1
  have hz1n : 1 - z ≠ z := by omega
  have ew : lwX cI cZ cO q qa (adG S (8 + cpC I00 S) (1032 + cpS I00 S)) (va_up f z (some (qi 53))) (va_up k z (some (cpI I00 S))) (va_up ad z (qi, qb)) qr M z = (wB cI cO q qa S (va_up f z (some (qi 53))) ++ wI cI qi qb (cpI I00 S)) ++ (kI cI (k (1 - z)) (ad (1 - z)) ++ wR cI cZ qr M) := by
    unfold lwX
    rw [vu_s, vu_s, vu_n k _ hz1n, vu_n ad _ hz1n]
    rfl
  refine kk _ _ ⟨qa, va_up f z (some (qi 53)), va_up ad z (qi, qb), fun x hx => ?_, lw_ofP hz2 (by rw [ew]; exact hPj), lw_ofD hz2 (by rw [ew]; exact hDj), hS1⟩
  by_cases hxz : x = z
  · subst hxz
    rw [vu_s, vu_s, vu_s]
    rfl
  · rw [vu_n f _ hxz, vu_n k _ hxz, vu_n ad _ hxz]
    exact hf x hx
theorem lk_keepE (X : lC p s m meth c b L xs D cI cZ cO tk) {z : Nat} {I : CS} (hz2 : z < 2) (hkz : k z = some I) (hok : cpOk I S) (hcat : (rest.map fun v => v.category).sum ≤ 8) (d : decode code pc = .ok (.invokevirtual 100, 3)) (f1 : kc + cpC I S ≤ 600000) (f2 : ks + cpS I S ≤ 7302250) (hls : ls.size = 4) (hz : lZ s D cI cZ cO q qr S k M H locs)
    (kk : ∀ H1 locs1, lZ s D cI cZ cO q qr (adG S (cpC I S) (cpS I S)) (va_up k z (some (cpI I S))) M H1 locs1 → W p l e room_1 s m #[Value.ref b] below meth c H1 locs1 (kc + cpC I S) (ks + cpS I S) Q (F0 m (pc + 3) ls (.int 1 :: rest))) : W p l e room_1 s m #[Value.ref b] below meth c H locs kc ks Q (F0 m pc ls (.int (nI z) :: .ref (q 50) :: rest)) := by
  obtain ⟨qa, f, ad, hf, hP, hD, hS⟩ := hz
  have hK := X.2.2.2.2.2.2.2.1.sub (tys' := tyO cI cO) [0, 2] rfl
  have hP := lw_toP hz2 hP
  have hD := lw_toD hz2 hD
  unfold lwX at hP hD
  have ek : kI cI (k z) (ad z) = wI cI (ad z).1 (ad z).2 I := by rw [hkz]; rfl
  rw [ek] at hP hD
  have hPx := (vP_app.mp hP).1
  have hDx := (vD_app.mp hD).1
  have hfree : ∀ y, va_A (wB cI cO q qa S f ++ wI cI (ad z).1 (ad z).2 I) H.size y → s.heap.size ≤ y := by
    intro y hy
    rcases hy with ⟨k, e, hk⟩ | hy
    · exact hDx.2 k (y, e) hk
    · exact Nat.le_trans hS.1 hy
  refine va_calli (va_runV (As := [.int (nI z)]) (rest := rest) ⟨X.1, X.2.1, X.2.2.1, X.2.2.2.1, X.2.2.2.2.1⟩ (ckeepE l D cI cO q qa S f z hz2 (ad z).1 (ad z).2 I (by rw [hf z hz2, hkz]; rfl) (S.1 45 0).toNatClampNeg (S.1 46 0).toNatClampNeg (S.1 47 0).toNatClampNeg hok.1.1 hok.1.2.1 hok.1.2.2.1 rfl hok.1.2.2.2.1 hok.1.2.2.2.2.1 hok.1.2.2.2.2.2 hok.2.1.1 hok.2.1.2.1 hok.2.1.2.2.1 rfl hok.2.1.2.2.2.1 hok.2.1.2.2.2.2.1 hok.2.1.2.2.2.2.2 hok.2.2.1 hok.2.2.2.1 hok.2.2.2.2.1 rfl hok.2.2.2.2.2.1 hok.2.2.2.2.2.2.1 hok.2.2.2.2.2.2.2 H.size) (cwVC (fr := 13) (lo := 516) (fz := 3) (lz := 80) (k := 1) X.2.2.2.2.1 tlL_100 tiX4_keep teX4_keep tcX4_keep ini_4 (by decide +kernel) ⟨by decide, by decide⟩ 600000 7302250 _ _) ⟨fun a U g mk q => by obtain ⟨q0, q1, qP, qK, qD⟩ := q; exact ⟨q0, q1, qP, va_K.moved (u := U) (U := U.calling g mk a) (Vm.Alike.refl U.vm) qK, qD⟩, va_recv hK hPx (ci := 4) (q0 := 0) rfl rfl, fun U hU hW => ⟨rfl, by rw [hU], by rw [hU]; exact hPx, va_K.moved hW.alike hK, hDx.weaken (fun _ _ _ _ => trivial)⟩⟩ rfl rfl hls rfl (lv_room hcat) d ⟨f1, f2⟩) hS (fun y _ h => hfree y h) hfree (fun v u t H1 locs1 ht hvm hw hB hz1 hk1 hS1 => ?_)
  subst hw
  subst ht
  obtain ⟨qb, hP1, hK1, hD1⟩ := hB
  obtain ⟨hPj, hDj⟩ := jn hP hD hk1 hfree hP1 hD1
  have hz1n : 1 - z ≠ z := by omega
  have ew : lwX cI cZ cO q qa (adG S (cpC I S) (cpS I S)) f (va_up k z (some (cpI I S))) (va_up ad z ((ad z).1, qb)) qr M z = (wB cI cO q qa S f ++ wI cI (ad z).1 qb (cpI I S)) ++ (kI cI (k (1 - z)) (ad (1 - z)) ++ wR cI cZ qr M) := by
    unfold lwX
    rw [vu_s, vu_s, vu_n k _ hz1n, vu_n ad _ hz1n]
    rfl
  refine kk _ _ ⟨qa, f, va_up ad z ((ad z).1, qb), fun x hx => ?_, lw_ofP hz2 (by rw [ew]; exact hPj), lw_ofD hz2 (by rw [ew]; exact hDj), hS1⟩
  by_cases hxz : x = z
  · subst hxz
    rw [vu_s, vu_s, hf x hx, hkz]
    rfl
  · rw [vu_n k _ hxz, vu_n ad _ hxz]
    exact hf x hx
theorem lk_backE (X : lC p s m meth c b L xs D cI cZ cO tk) {z : Nat} {I : CS} (hz2 : z < 2) (hkz : k z = some I) (hok : cpOk S I) (hcat : (rest.map fun v => v.category).sum ≤ 8) (d : decode code pc = .ok (.invokevirtual 104, 3)) (f1 : kc + cpC S I ≤ 600000) (f2 : ks + cpS S I ≤ 7302250) (hls : ls.size = 4) (hz : lZ s D cI cZ cO q qr S k M H locs)
    (kk : ∀ H1 locs1, lZ s D cI cZ cO q qr (cpI S I) k M H1 locs1 → W p l e room_1 s m #[Value.ref b] below meth c H1 locs1 (kc + cpC S I) (ks + cpS S I) Q (F0 m (pc + 3) ls (.int 1 :: rest))) : W p l e room_1 s m #[Value.ref b] below meth c H locs kc ks Q (F0 m pc ls (.int (nI z) :: .ref (q 50) :: rest)) := by
  obtain ⟨qa, f, ad, hf, hP, hD, hS⟩ := hz
  have hK := X.2.2.2.2.2.2.2.1.sub (tys' := tyO cI cO) [0, 2] rfl
  have hP := lw_toP hz2 hP
  have hD := lw_toD hz2 hD
  unfold lwX at hP hD
  have ek : kI cI (k z) (ad z) = wI cI (ad z).1 (ad z).2 I := by rw [hkz]; rfl
  rw [ek] at hP hD
  have hPx := (vP_app.mp hP).1
  have hDx := (vD_app.mp hD).1
  have hfree : ∀ y, va_A (wB cI cO q qa S f ++ wI cI (ad z).1 (ad z).2 I) H.size y → s.heap.size ≤ y := by
    intro y hy
    rcases hy with ⟨k, e, hk⟩ | hy
    · exact hDx.2 k (y, e) hk
    · exact Nat.le_trans hS.1 hy
  refine va_calli (va_runV (As := [.int (nI z)]) (rest := rest) ⟨X.1, X.2.1, X.2.2.1, X.2.2.2.1, X.2.2.2.2.1⟩ (cbackE l D cI cO q qa S f z hz2 (ad z).1 (ad z).2 I (by rw [hf z hz2, hkz]; rfl) (I.1 45 0).toNatClampNeg (I.1 46 0).toNatClampNeg (I.1 47 0).toNatClampNeg hok.1.1 hok.1.2.1 hok.1.2.2.1 rfl hok.1.2.2.2.1 hok.1.2.2.2.2.1 hok.1.2.2.2.2.2 hok.2.1.1 hok.2.1.2.1 hok.2.1.2.2.1 rfl hok.2.1.2.2.2.1 hok.2.1.2.2.2.2.1 hok.2.1.2.2.2.2.2 hok.2.2.1 hok.2.2.2.1 hok.2.2.2.2.1 rfl hok.2.2.2.2.2.1 hok.2.2.2.2.2.2.1 hok.2.2.2.2.2.2.2 H.size) (cwVC (fr := 13) (lo := 516) (fz := 3) (lz := 80) (k := 1) X.2.2.2.2.1 tlL_104 tiX4_back teX4_back tcX4_back ini_4 (by decide +kernel) ⟨by decide, by decide⟩ 600000 7302250 _ _) ⟨fun a U g mk q => by obtain ⟨q0, q1, qP, qK, qD⟩ := q; exact ⟨q0, q1, qP, va_K.moved (u := U) (U := U.calling g mk a) (Vm.Alike.refl U.vm) qK, qD⟩, va_recv hK hPx (ci := 4) (q0 := 0) rfl rfl, fun U hU hW => ⟨rfl, by rw [hU], by rw [hU]; exact hPx, va_K.moved hW.alike hK, hDx.weaken (fun _ _ _ _ => trivial)⟩⟩ rfl rfl hls rfl (lv_room hcat) d ⟨f1, f2⟩) hS (fun y _ h => hfree y h) hfree (fun v u t H1 locs1 ht hvm hw hB hz1 hk1 hS1 => ?_)
  subst hw
  subst ht
  obtain ⟨qb, hP1, hK1, hD1⟩ := hB
  obtain ⟨hPj, hDj⟩ := jn hP hD hk1 hfree hP1 hD1
  have ew : lwX cI cZ cO q qb (cpI S I) f k ad qr M z = (wB cI cO q qb (cpI S I) f ++ wI cI (ad z).1 (ad z).2 I) ++ (kI cI (k (1 - z)) (ad (1 - z)) ++ wR cI cZ qr M) := by
    unfold lwX
    rw [ek]
  exact kk _ _ ⟨qb, f, ad, hf, lw_ofP hz2 (by rw [ew]; exact hPj), lw_ofD hz2 (by rw [ew]; exact hDj), hS1⟩
end LK
