section LO
variable {p : Program} {l : Launch} {e : Env} {s : State} {m : MethodId} {below : List Frame} {meth : Method} {c : Code} {b L : Nat} {xs : Nat → Int32} {D : va_G} {cI cZ cO : ClassId} {tk : Nat} {q qr : Nat → Nat} {S : CS} {k : Nat → Option CS} {M : MR} {H : Heap} {locs : List Loc} {ls : Array Slot} {i : Nat} {Inv : CS → (Nat → Option CS) → MR → Prop}
theorem lop_put (h1 : ∀ (S : CS) (k : Nat → Option CS) (M : MR) (x1 : Int32) (x2 : Int32) (x3 : Int32) (x4 : Int32) (x5 : Int32), Inv S k M → ∃ (r : Int32) (S' : CS) (M' : MR), f4_put FU x1 x2 x3 x4 x5 S = some (r, S') ∧ fR_put FU x1 x2 x3 x4 x5 M = some (r, M') ∧ Inv S' k M') (h3 : SimRoom Inv) (X : lC p s m meth c b L xs D cI cZ cO tk) (hi : i + 6 ≤ L) (hL : L ≤ 3072) (hI : Inv S k M) (hz : lZ s D cI cZ cO q qr S k M H locs) (hl : lv_has ls 4 [(0, .ref b), (1, .ref (q 50)), (2, .ref (qr 34)), (3, .int (nI i))]) (IH : ∀ S' k' M' H1 locs1, Inv S' k' M' → lZ s D cI cZ cO q qr S' k' M' H1 locs1 → W p l e room_1 s m #[Value.ref b] below meth c H1 locs1 (48 + cS S') (68674 + sS S') (lw_Z below #[Value.ref b] s) (F0 m 782 ls [])) : W p l e room_1 s m #[Value.ref b] below meth c H locs (48 + cS S) (68674 + sS S) (lw_Z below #[Value.ref b] s) (F0 m 136 ls []) := by
  have hbA : ¬ (fun x => s.heap.size ≤ x) b := Nat.not_le.mpr X.2.2.2.2.2.2.1
  obtain ⟨_, _, _, _, _, _, hS⟩ := id hz
  obtain ⟨r, S1, M1, hF1, hF2, hI2⟩ := h1 S k M (xs (nI i + nI 1).toNatClampNeg) (xs (nI i + nI 2).toNatClampNeg) (xs (nI i + nI 3).toNatClampNeg) (xs (nI i + nI 4).toNatClampNeg) (xs (nI i + nI 5).toNatClampNeg) hI
  have hm : le S S1 := mo4_put FU (xs (nI i + nI 1).toNatClampNeg) (xs (nI i + nI 2).toNatClampNeg) (xs (nI i + nI 3).toNatClampNeg) (xs (nI i + nI 4).toNatClampNeg) (xs (nI i + nI 5).toNatClampNeg) S _ hF1
  have e1 : 48 + cS S + (cS S1 - cS S) = 48 + cS S1 := by have := hm.1; omega
  have e2 : 68674 + sS S + (sS S1 - sS S) = 68674 + sS S1 := by have := hm.2; omega
  refine lv_aload_n X.1 X.2.1 dL_law_136 rfl (lvg_at hl (i := 1) rfl) ?_
  refine lv_aload_n X.1 X.2.1 dL_law_137 rfl (lvg_at hl (i := 0) rfl) ?_
  refine lv_iload_n X.1 X.2.1 dL_law_138 rfl (lvg_at hl (i := 3) rfl) ?_
  refine lv_iconst (v := nI 1) X.1 X.2.1 dL_law_139 (by decide) ?_
  refine lv_iadd X.1 X.2.1 dL_law_140 ?_
  refine va_sld X.1 X.2.1 X.2.2.2.2.2.1 X.2.2.2.2.2.2.1 hbA hS (by rw [nI_add]; exact vp_in_nI (by omega) (by omega)) dL_law_141 ?_
  refine lv_aload_n X.1 X.2.1 dL_law_142 rfl (lvg_at hl (i := 0) rfl) ?_
  refine lv_iload_n X.1 X.2.1 dL_law_143 rfl (lvg_at hl (i := 3) rfl) ?_
  refine lv_iconst (v := nI 2) X.1 X.2.1 dL_law_144 (by decide) ?_
  refine lv_iadd X.1 X.2.1 dL_law_145 ?_
  refine va_sld X.1 X.2.1 X.2.2.2.2.2.1 X.2.2.2.2.2.2.1 hbA hS (by rw [nI_add]; exact vp_in_nI (by omega) (by omega)) dL_law_146 ?_
  refine lv_aload_n X.1 X.2.1 dL_law_147 rfl (lvg_at hl (i := 0) rfl) ?_
  refine lv_iload_n X.1 X.2.1 dL_law_148 rfl (lvg_at hl (i := 3) rfl) ?_
  refine lv_iconst (v := nI 3) X.1 X.2.1 dL_law_149 (by decide) ?_
  refine lv_iadd X.1 X.2.1 dL_law_150 ?_
  refine va_sld X.1 X.2.1 X.2.2.2.2.2.1 X.2.2.2.2.2.2.1 hbA hS (by rw [nI_add]; exact vp_in_nI (by omega) (by omega)) dL_law_151 ?_
  refine lv_aload_n X.1 X.2.1 dL_law_152 rfl (lvg_at hl (i := 0) rfl) ?_
  refine lv_iload_n X.1 X.2.1 dL_law_153 rfl (lvg_at hl (i := 3) rfl) ?_
  refine lv_iconst (v := nI 4) X.1 X.2.1 dL_law_154 (by decide) ?_
  refine lv_iadd X.1 X.2.1 dL_law_155 ?_
  refine va_sld X.1 X.2.1 X.2.2.2.2.2.1 X.2.2.2.2.2.2.1 hbA hS (by rw [nI_add]; exact vp_in_nI (by omega) (by omega)) dL_law_156 ?_
  refine lv_aload_n X.1 X.2.1 dL_law_157 rfl (lvg_at hl (i := 0) rfl) ?_
  refine lv_iload_n X.1 X.2.1 dL_law_158 rfl (lvg_at hl (i := 3) rfl) ?_
  refine lv_iconst (v := nI 5) X.1 X.2.1 dL_law_159 (by decide) ?_
  refine lv_iadd X.1 X.2.1 dL_law_160 ?_
  refine va_sld X.1 X.2.1 X.2.2.2.2.2.1 X.2.2.2.2.2.2.1 hbA hS (by rw [nI_add]; exact vp_in_nI (by omega) (by omega)) dL_law_161 ?_
  refine lc_i (As := [.int (xs (nI i + nI 1).toNatClampNeg), .int (xs (nI i + nI 2).toNatClampNeg), .int (xs (nI i + nI 3).toNatClampNeg), .int (xs (nI i + nI 4).toNatClampNeg), .int (xs (nI i + nI 5).toNatClampNeg)]) X (c4_put (SF_ok tk) l D cI q FU (xs (nI i + nI 1).toNatClampNeg) (xs (nI i + nI 2).toNatClampNeg) (xs (nI i + nI 3).toNatClampNeg) (xs (nI i + nI 4).toNatClampNeg) (xs (nI i + nI 5).toNatClampNeg) S) hF1 (cwVC (fr := 13) (lo := 516) (k := 5) X.2.2.2.2.1 tlL_13 tiL_X4_put teL_X4_put tcL_X4_put ini_4 (by decide +kernel) ⟨by decide, by decide⟩) rfl rfl (Nat.le_of_ble_eq_true rfl) dL_law_162 (by rw [e1]; have := h3 _ _ _ hI2; omega) (by rw [e2]; have := h3 _ _ _ hI2; omega) hl.1 hz (fun H1 locs1 hz => ?_)
  rw [e1, e2]
  obtain ⟨_, _, _, _, _, _, hS⟩ := id hz
  refine lv_aload_n X.1 X.2.1 dL_law_165 rfl (lvg_at hl (i := 2) rfl) ?_
  refine lv_aload_n X.1 X.2.1 dL_law_166 rfl (lvg_at hl (i := 0) rfl) ?_
  refine lv_iload_n X.1 X.2.1 dL_law_167 rfl (lvg_at hl (i := 3) rfl) ?_
  refine lv_iconst (v := nI 1) X.1 X.2.1 dL_law_168 (by decide) ?_
  refine lv_iadd X.1 X.2.1 dL_law_169 ?_
  refine va_sld X.1 X.2.1 X.2.2.2.2.2.1 X.2.2.2.2.2.2.1 hbA hS (by rw [nI_add]; exact vp_in_nI (by omega) (by omega)) dL_law_170 ?_
  refine lv_aload_n X.1 X.2.1 dL_law_171 rfl (lvg_at hl (i := 0) rfl) ?_
  refine lv_iload_n X.1 X.2.1 dL_law_172 rfl (lvg_at hl (i := 3) rfl) ?_
  refine lv_iconst (v := nI 2) X.1 X.2.1 dL_law_173 (by decide) ?_
  refine lv_iadd X.1 X.2.1 dL_law_174 ?_
  refine va_sld X.1 X.2.1 X.2.2.2.2.2.1 X.2.2.2.2.2.2.1 hbA hS (by rw [nI_add]; exact vp_in_nI (by omega) (by omega)) dL_law_175 ?_
  refine lv_aload_n X.1 X.2.1 dL_law_176 rfl (lvg_at hl (i := 0) rfl) ?_
  refine lv_iload_n X.1 X.2.1 dL_law_177 rfl (lvg_at hl (i := 3) rfl) ?_
  refine lv_iconst (v := nI 3) X.1 X.2.1 dL_law_178 (by decide) ?_
  refine lv_iadd X.1 X.2.1 dL_law_179 ?_
  refine va_sld X.1 X.2.1 X.2.2.2.2.2.1 X.2.2.2.2.2.2.1 hbA hS (by rw [nI_add]; exact vp_in_nI (by omega) (by omega)) dL_law_180 ?_
  refine lv_aload_n X.1 X.2.1 dL_law_181 rfl (lvg_at hl (i := 0) rfl) ?_
  refine lv_iload_n X.1 X.2.1 dL_law_182 rfl (lvg_at hl (i := 3) rfl) ?_
  refine lv_iconst (v := nI 4) X.1 X.2.1 dL_law_183 (by decide) ?_
  refine lv_iadd X.1 X.2.1 dL_law_184 ?_
  refine va_sld X.1 X.2.1 X.2.2.2.2.2.1 X.2.2.2.2.2.2.1 hbA hS (by rw [nI_add]; exact vp_in_nI (by omega) (by omega)) dL_law_185 ?_
  refine lv_aload_n X.1 X.2.1 dL_law_186 rfl (lvg_at hl (i := 0) rfl) ?_
  refine lv_iload_n X.1 X.2.1 dL_law_187 rfl (lvg_at hl (i := 3) rfl) ?_
  refine lv_iconst (v := nI 5) X.1 X.2.1 dL_law_188 (by decide) ?_
  refine lv_iadd X.1 X.2.1 dL_law_189 ?_
  refine va_sld X.1 X.2.1 X.2.2.2.2.2.1 X.2.2.2.2.2.2.1 hbA hS (by rw [nI_add]; exact vp_in_nI (by omega) (by omega)) dL_law_190 ?_
  refine lr_i (As := [.int (xs (nI i + nI 1).toNatClampNeg), .int (xs (nI i + nI 2).toNatClampNeg), .int (xs (nI i + nI 3).toNatClampNeg), .int (xs (nI i + nI 4).toNatClampNeg), .int (xs (nI i + nI 5).toNatClampNeg)]) X (c_put l D cI cZ qr FU (xs (nI i + nI 1).toNatClampNeg) (xs (nI i + nI 2).toNatClampNeg) (xs (nI i + nI 3).toNatClampNeg) (xs (nI i + nI 4).toNatClampNeg) (xs (nI i + nI 5).toNatClampNeg) M) hF2 (cwVR (k := 5) X.2.2.2.2.1 tlL_17 tiL_X5_put teL_X5_put tcL_X5_put ini5 (by decide +kernel) ⟨Nat.le_of_ble_eq_true rfl, Nat.le_of_ble_eq_true rfl⟩) rfl rfl (Nat.le_of_ble_eq_true rfl) dL_law_191 (by have := h3 _ _ _ hI2; omega) (by have := h3 _ _ _ hI2; omega) hl.1 hz (fun H1 locs1 hz => ?_)
  exact lv_icmp_eq (tgt := 782) X.1 X.2.1 dL_law_194 (by decide) (fun _ => IH _ _ _ _ _ hI2 hz) (fun h => absurd rfl h)
theorem lop_wipe (h1 : ∀ (S : CS) (k : Nat → Option CS) (M : MR), Inv S k M → ∃ (r : Int32) (S' : CS) (M' : MR), f4_wipe FU S = some (r, S') ∧ fR_wipe FU M = some (r, M') ∧ Inv S' k M') (h3 : SimRoom Inv) (X : lC p s m meth c b L xs D cI cZ cO tk) (hi : i + 6 ≤ L) (hL : L ≤ 3072) (hI : Inv S k M) (hz : lZ s D cI cZ cO q qr S k M H locs) (hl : lv_has ls 4 [(0, .ref b), (1, .ref (q 50)), (2, .ref (qr 34)), (3, .int (nI i))]) (IH : ∀ S' k' M' H1 locs1, Inv S' k' M' → lZ s D cI cZ cO q qr S' k' M' H1 locs1 → W p l e room_1 s m #[Value.ref b] below meth c H1 locs1 (48 + cS S') (68674 + sS S') (lw_Z below #[Value.ref b] s) (F0 m 782 ls [])) : W p l e room_1 s m #[Value.ref b] below meth c H locs (48 + cS S) (68674 + sS S) (lw_Z below #[Value.ref b] s) (F0 m 199 ls []) := by
  have hbA : ¬ (fun x => s.heap.size ≤ x) b := Nat.not_le.mpr X.2.2.2.2.2.2.1
  obtain ⟨_, _, _, _, _, _, hS⟩ := id hz
  obtain ⟨r, S1, M1, hF1, hF2, hI2⟩ := h1 S k M  hI
  have hm : le S S1 := mo4_wipe FU  S _ hF1
  have e1 : 48 + cS S + (cS S1 - cS S) = 48 + cS S1 := by have := hm.1; omega
  have e2 : 68674 + sS S + (sS S1 - sS S) = 68674 + sS S1 := by have := hm.2; omega
  refine lv_aload_n X.1 X.2.1 dL_law_199 rfl (lvg_at hl (i := 1) rfl) ?_
  refine lc_i (As := []) X (c4_wipe (SF_ok tk) l D cI q FU  S) hF1 (cwVC (fr := 13) (lo := 516) (k := 0) X.2.2.2.2.1 tlL_18 tiL_X4_wipe teL_X4_wipe tcL_X4_wipe ini_4 (by decide +kernel) ⟨by decide, by decide⟩) rfl rfl (Nat.le_of_ble_eq_true rfl) dL_law_200 (by rw [e1]; have := h3 _ _ _ hI2; omega) (by rw [e2]; have := h3 _ _ _ hI2; omega) hl.1 hz (fun H1 locs1 hz => ?_)
  rw [e1, e2]
  obtain ⟨_, _, _, _, _, _, hS⟩ := id hz
  refine lv_aload_n X.1 X.2.1 dL_law_203 rfl (lvg_at hl (i := 2) rfl) ?_
  refine lr_i (As := []) X (c_wipe l D cI cZ qr FU  M) hF2 (cwVR (k := 0) X.2.2.2.2.1 tlL_22 tiL_X5_wipe teL_X5_wipe tcL_X5_wipe ini5 (by decide +kernel) ⟨Nat.le_of_ble_eq_true rfl, Nat.le_of_ble_eq_true rfl⟩) rfl rfl (Nat.le_of_ble_eq_true rfl) dL_law_204 (by have := h3 _ _ _ hI2; omega) (by have := h3 _ _ _ hI2; omega) hl.1 hz (fun H1 locs1 hz => ?_)
  exact lv_icmp_eq (tgt := 782) X.1 X.2.1 dL_law_207 (by decide) (fun _ => IH _ _ _ _ _ hI2 hz) (fun h => absurd rfl h)
theorem lop_cell (h1 : ∀ (S : CS) (k : Nat → Option CS) (M : MR) (x1 : Int32) (x2 : Int32), Inv S k M → ∃ (r : Int32) (S' : CS) (M' : MR), f4_cell FU x1 x2 S = some (r, S') ∧ fR_cell FU x1 x2 M = some (r, M') ∧ Inv S' k M') (h3 : SimRoom Inv) (X : lC p s m meth c b L xs D cI cZ cO tk) (hi : i + 6 ≤ L) (hL : L ≤ 3072) (hI : Inv S k M) (hz : lZ s D cI cZ cO q qr S k M H locs) (hl : lv_has ls 4 [(0, .ref b), (1, .ref (q 50)), (2, .ref (qr 34)), (3, .int (nI i))]) (IH : ∀ S' k' M' H1 locs1, Inv S' k' M' → lZ s D cI cZ cO q qr S' k' M' H1 locs1 → W p l e room_1 s m #[Value.ref b] below meth c H1 locs1 (48 + cS S') (68674 + sS S') (lw_Z below #[Value.ref b] s) (F0 m 782 ls [])) : W p l e room_1 s m #[Value.ref b] below meth c H locs (48 + cS S) (68674 + sS S) (lw_Z below #[Value.ref b] s) (F0 m 212 ls []) := by
  have hbA : ¬ (fun x => s.heap.size ≤ x) b := Nat.not_le.mpr X.2.2.2.2.2.2.1
  obtain ⟨_, _, _, _, _, _, hS⟩ := id hz
  obtain ⟨r, S1, M1, hF1, hF2, hI2⟩ := h1 S k M (xs (nI i + nI 1).toNatClampNeg) (xs (nI i + nI 2).toNatClampNeg) hI
  have hm : le S S1 := mo4_cell FU (xs (nI i + nI 1).toNatClampNeg) (xs (nI i + nI 2).toNatClampNeg) S _ hF1
  have e1 : 48 + cS S + (cS S1 - cS S) = 48 + cS S1 := by have := hm.1; omega
  have e2 : 68674 + sS S + (sS S1 - sS S) = 68674 + sS S1 := by have := hm.2; omega
  refine lv_aload_n X.1 X.2.1 dL_law_212 rfl (lvg_at hl (i := 1) rfl) ?_
  refine lv_aload_n X.1 X.2.1 dL_law_213 rfl (lvg_at hl (i := 0) rfl) ?_
  refine lv_iload_n X.1 X.2.1 dL_law_214 rfl (lvg_at hl (i := 3) rfl) ?_
  refine lv_iconst (v := nI 1) X.1 X.2.1 dL_law_215 (by decide) ?_
  refine lv_iadd X.1 X.2.1 dL_law_216 ?_
  refine va_sld X.1 X.2.1 X.2.2.2.2.2.1 X.2.2.2.2.2.2.1 hbA hS (by rw [nI_add]; exact vp_in_nI (by omega) (by omega)) dL_law_217 ?_
  refine lv_aload_n X.1 X.2.1 dL_law_218 rfl (lvg_at hl (i := 0) rfl) ?_
  refine lv_iload_n X.1 X.2.1 dL_law_219 rfl (lvg_at hl (i := 3) rfl) ?_
  refine lv_iconst (v := nI 2) X.1 X.2.1 dL_law_220 (by decide) ?_
  refine lv_iadd X.1 X.2.1 dL_law_221 ?_
  refine va_sld X.1 X.2.1 X.2.2.2.2.2.1 X.2.2.2.2.2.2.1 hbA hS (by rw [nI_add]; exact vp_in_nI (by omega) (by omega)) dL_law_222 ?_
  refine lc_i (As := [.int (xs (nI i + nI 1).toNatClampNeg), .int (xs (nI i + nI 2).toNatClampNeg)]) X (c4_cell (SF_ok tk) l D cI q FU (xs (nI i + nI 1).toNatClampNeg) (xs (nI i + nI 2).toNatClampNeg) S) hF1 (cwVC (fr := 13) (lo := 516) (k := 2) X.2.2.2.2.1 tlL_23 tiL_X4_cell teL_X4_cell tcL_X4_cell ini_4 (by decide +kernel) ⟨by decide, by decide⟩) rfl rfl (Nat.le_of_ble_eq_true rfl) dL_law_223 (by rw [e1]; have := h3 _ _ _ hI2; omega) (by rw [e2]; have := h3 _ _ _ hI2; omega) hl.1 hz (fun H1 locs1 hz => ?_)
  rw [e1, e2]
  obtain ⟨_, _, _, _, _, _, hS⟩ := id hz
  refine lv_aload_n X.1 X.2.1 dL_law_226 rfl (lvg_at hl (i := 2) rfl) ?_
  refine lv_aload_n X.1 X.2.1 dL_law_227 rfl (lvg_at hl (i := 0) rfl) ?_
  refine lv_iload_n X.1 X.2.1 dL_law_228 rfl (lvg_at hl (i := 3) rfl) ?_
  refine lv_iconst (v := nI 1) X.1 X.2.1 dL_law_229 (by decide) ?_
  refine lv_iadd X.1 X.2.1 dL_law_230 ?_
  refine va_sld X.1 X.2.1 X.2.2.2.2.2.1 X.2.2.2.2.2.2.1 hbA hS (by rw [nI_add]; exact vp_in_nI (by omega) (by omega)) dL_law_231 ?_
  refine lv_aload_n X.1 X.2.1 dL_law_232 rfl (lvg_at hl (i := 0) rfl) ?_
  refine lv_iload_n X.1 X.2.1 dL_law_233 rfl (lvg_at hl (i := 3) rfl) ?_
  refine lv_iconst (v := nI 2) X.1 X.2.1 dL_law_234 (by decide) ?_
  refine lv_iadd X.1 X.2.1 dL_law_235 ?_
  refine va_sld X.1 X.2.1 X.2.2.2.2.2.1 X.2.2.2.2.2.2.1 hbA hS (by rw [nI_add]; exact vp_in_nI (by omega) (by omega)) dL_law_236 ?_
  refine lr_i (As := [.int (xs (nI i + nI 1).toNatClampNeg), .int (xs (nI i + nI 2).toNatClampNeg)]) X (c_cell l D cI cZ qr FU (xs (nI i + nI 1).toNatClampNeg) (xs (nI i + nI 2).toNatClampNeg) M) hF2 (cwVR (k := 2) X.2.2.2.2.1 tlL_27 tiL_X5_cell teL_X5_cell tcL_X5_cell ini5 (by decide +kernel) ⟨Nat.le_of_ble_eq_true rfl, Nat.le_of_ble_eq_true rfl⟩) rfl rfl (Nat.le_of_ble_eq_true rfl) dL_law_237 (by have := h3 _ _ _ hI2; omega) (by have := h3 _ _ _ hI2; omega) hl.1 hz (fun H1 locs1 hz => ?_)
  exact lv_icmp_eq (tgt := 782) X.1 X.2.1 dL_law_240 (by decide) (fun _ => IH _ _ _ _ _ hI2 hz) (fun h => absurd rfl h)
theorem lop_redo (h1 : ∀ (S : CS) (k : Nat → Option CS) (M : MR) (x1 : Int32), Inv S k M → ∃ (r : Int32) (S' : CS) (M' : MR), f4_redo FU x1 S = some (r, S') ∧ fR_redo FU x1 M = some (r, M') ∧ Inv S' k M') (h3 : SimRoom Inv) (X : lC p s m meth c b L xs D cI cZ cO tk) (hi : i + 6 ≤ L) (hL : L ≤ 3072) (hI : Inv S k M) (hz : lZ s D cI cZ cO q qr S k M H locs) (hl : lv_has ls 4 [(0, .ref b), (1, .ref (q 50)), (2, .ref (qr 34)), (3, .int (nI i))]) (IH : ∀ S' k' M' H1 locs1, Inv S' k' M' → lZ s D cI cZ cO q qr S' k' M' H1 locs1 → W p l e room_1 s m #[Value.ref b] below meth c H1 locs1 (48 + cS S') (68674 + sS S') (lw_Z below #[Value.ref b] s) (F0 m 782 ls [])) : W p l e room_1 s m #[Value.ref b] below meth c H locs (48 + cS S) (68674 + sS S) (lw_Z below #[Value.ref b] s) (F0 m 245 ls []) := by
  have hbA : ¬ (fun x => s.heap.size ≤ x) b := Nat.not_le.mpr X.2.2.2.2.2.2.1
  obtain ⟨_, _, _, _, _, _, hS⟩ := id hz
  obtain ⟨r, S1, M1, hF1, hF2, hI2⟩ := h1 S k M (xs (nI i + nI 1).toNatClampNeg) hI
  have hm : le S S1 := mo4_redo FU (xs (nI i + nI 1).toNatClampNeg) S _ hF1
  have e1 : 48 + cS S + (cS S1 - cS S) = 48 + cS S1 := by have := hm.1; omega
  have e2 : 68674 + sS S + (sS S1 - sS S) = 68674 + sS S1 := by have := hm.2; omega
  refine lv_aload_n X.1 X.2.1 dL_law_245 rfl (lvg_at hl (i := 1) rfl) ?_
  refine lv_aload_n X.1 X.2.1 dL_law_246 rfl (lvg_at hl (i := 0) rfl) ?_
  refine lv_iload_n X.1 X.2.1 dL_law_247 rfl (lvg_at hl (i := 3) rfl) ?_
  refine lv_iconst (v := nI 1) X.1 X.2.1 dL_law_248 (by decide) ?_
  refine lv_iadd X.1 X.2.1 dL_law_249 ?_
  refine va_sld X.1 X.2.1 X.2.2.2.2.2.1 X.2.2.2.2.2.2.1 hbA hS (by rw [nI_add]; exact vp_in_nI (by omega) (by omega)) dL_law_250 ?_
  refine lc_i (As := [.int (xs (nI i + nI 1).toNatClampNeg)]) X (c4_redo (SF_ok tk) l D cI q FU (xs (nI i + nI 1).toNatClampNeg) S) hF1 (cwVC (fr := 13) (lo := 516) (k := 1) X.2.2.2.2.1 tlL_28 tiL_X4_redo teL_X4_redo tcL_X4_redo ini_4 (by decide +kernel) ⟨by decide, by decide⟩) rfl rfl (Nat.le_of_ble_eq_true rfl) dL_law_251 (by rw [e1]; have := h3 _ _ _ hI2; omega) (by rw [e2]; have := h3 _ _ _ hI2; omega) hl.1 hz (fun H1 locs1 hz => ?_)
  rw [e1, e2]
  obtain ⟨_, _, _, _, _, _, hS⟩ := id hz
  refine lv_aload_n X.1 X.2.1 dL_law_254 rfl (lvg_at hl (i := 2) rfl) ?_
  refine lv_aload_n X.1 X.2.1 dL_law_255 rfl (lvg_at hl (i := 0) rfl) ?_
  refine lv_iload_n X.1 X.2.1 dL_law_256 rfl (lvg_at hl (i := 3) rfl) ?_
  refine lv_iconst (v := nI 1) X.1 X.2.1 dL_law_257 (by decide) ?_
  refine lv_iadd X.1 X.2.1 dL_law_258 ?_
  refine va_sld X.1 X.2.1 X.2.2.2.2.2.1 X.2.2.2.2.2.2.1 hbA hS (by rw [nI_add]; exact vp_in_nI (by omega) (by omega)) dL_law_259 ?_
  refine lr_i (As := [.int (xs (nI i + nI 1).toNatClampNeg)]) X (c_redo l D cI cZ qr FU (xs (nI i + nI 1).toNatClampNeg) M) hF2 (cwVR (k := 1) X.2.2.2.2.1 tlL_32 tiL_X5_redo teL_X5_redo tcL_X5_redo ini5 (by decide +kernel) ⟨Nat.le_of_ble_eq_true rfl, Nat.le_of_ble_eq_true rfl⟩) rfl rfl (Nat.le_of_ble_eq_true rfl) dL_law_260 (by have := h3 _ _ _ hI2; omega) (by have := h3 _ _ _ hI2; omega) hl.1 hz (fun H1 locs1 hz => ?_)
  exact lv_icmp_eq (tgt := 782) X.1 X.2.1 dL_law_263 (by decide) (fun _ => IH _ _ _ _ _ hI2 hz) (fun h => absurd rfl h)
theorem lop_rerun (h1 : ∀ (S : CS) (k : Nat → Option CS) (M : MR) (x1 : Int32), Inv S k M → ∃ (r : Int32) (S' : CS) (M' : MR), f4_rerun FU x1 S = some (r, S') ∧ fR_rerun FU x1 M = some (r, M') ∧ Inv S' k M') (h3 : SimRoom Inv) (X : lC p s m meth c b L xs D cI cZ cO tk) (hi : i + 6 ≤ L) (hL : L ≤ 3072) (hI : Inv S k M) (hz : lZ s D cI cZ cO q qr S k M H locs) (hl : lv_has ls 4 [(0, .ref b), (1, .ref (q 50)), (2, .ref (qr 34)), (3, .int (nI i))]) (IH : ∀ S' k' M' H1 locs1, Inv S' k' M' → lZ s D cI cZ cO q qr S' k' M' H1 locs1 → W p l e room_1 s m #[Value.ref b] below meth c H1 locs1 (48 + cS S') (68674 + sS S') (lw_Z below #[Value.ref b] s) (F0 m 782 ls [])) : W p l e room_1 s m #[Value.ref b] below meth c H locs (48 + cS S) (68674 + sS S) (lw_Z below #[Value.ref b] s) (F0 m 268 ls []) := by
  have hbA : ¬ (fun x => s.heap.size ≤ x) b := Nat.not_le.mpr X.2.2.2.2.2.2.1
  obtain ⟨_, _, _, _, _, _, hS⟩ := id hz
  obtain ⟨r, S1, M1, hF1, hF2, hI2⟩ := h1 S k M (xs (nI i + nI 1).toNatClampNeg) hI
  have hm : le S S1 := mo4_rerun FU (xs (nI i + nI 1).toNatClampNeg) S _ hF1
  have e1 : 48 + cS S + (cS S1 - cS S) = 48 + cS S1 := by have := hm.1; omega
  have e2 : 68674 + sS S + (sS S1 - sS S) = 68674 + sS S1 := by have := hm.2; omega
  refine lv_aload_n X.1 X.2.1 dL_law_268 rfl (lvg_at hl (i := 1) rfl) ?_
  refine lv_aload_n X.1 X.2.1 dL_law_269 rfl (lvg_at hl (i := 0) rfl) ?_
  refine lv_iload_n X.1 X.2.1 dL_law_270 rfl (lvg_at hl (i := 3) rfl) ?_
  refine lv_iconst (v := nI 1) X.1 X.2.1 dL_law_271 (by decide) ?_
  refine lv_iadd X.1 X.2.1 dL_law_272 ?_
  refine va_sld X.1 X.2.1 X.2.2.2.2.2.1 X.2.2.2.2.2.2.1 hbA hS (by rw [nI_add]; exact vp_in_nI (by omega) (by omega)) dL_law_273 ?_
  refine lc_i (As := [.int (xs (nI i + nI 1).toNatClampNeg)]) X (c4_rerun (SF_ok tk) l D cI q FU (xs (nI i + nI 1).toNatClampNeg) S) hF1 (cwVC (fr := 13) (lo := 516) (k := 1) X.2.2.2.2.1 tlL_33 tiL_X4_rerun teL_X4_rerun tcL_X4_rerun ini_4 (by decide +kernel) ⟨by decide, by decide⟩) rfl rfl (Nat.le_of_ble_eq_true rfl) dL_law_274 (by rw [e1]; have := h3 _ _ _ hI2; omega) (by rw [e2]; have := h3 _ _ _ hI2; omega) hl.1 hz (fun H1 locs1 hz => ?_)
  rw [e1, e2]
  obtain ⟨_, _, _, _, _, _, hS⟩ := id hz
  refine lv_aload_n X.1 X.2.1 dL_law_277 rfl (lvg_at hl (i := 2) rfl) ?_
  refine lv_aload_n X.1 X.2.1 dL_law_278 rfl (lvg_at hl (i := 0) rfl) ?_
  refine lv_iload_n X.1 X.2.1 dL_law_279 rfl (lvg_at hl (i := 3) rfl) ?_
  refine lv_iconst (v := nI 1) X.1 X.2.1 dL_law_280 (by decide) ?_
  refine lv_iadd X.1 X.2.1 dL_law_281 ?_
  refine va_sld X.1 X.2.1 X.2.2.2.2.2.1 X.2.2.2.2.2.2.1 hbA hS (by rw [nI_add]; exact vp_in_nI (by omega) (by omega)) dL_law_282 ?_
  refine lr_i (As := [.int (xs (nI i + nI 1).toNatClampNeg)]) X (c_rerun l D cI cZ qr FU (xs (nI i + nI 1).toNatClampNeg) M) hF2 (cwVR (k := 1) X.2.2.2.2.1 tlL_36 tiL_X5_rerun teL_X5_rerun tcL_X5_rerun ini5 (by decide +kernel) ⟨Nat.le_of_ble_eq_true rfl, Nat.le_of_ble_eq_true rfl⟩) rfl rfl (Nat.le_of_ble_eq_true rfl) dL_law_283 (by have := h3 _ _ _ hI2; omega) (by have := h3 _ _ _ hI2; omega) hl.1 hz (fun H1 locs1 hz => ?_)
  exact lv_icmp_eq (tgt := 782) X.1 X.2.1 dL_law_286 (by decide) (fun _ => IH _ _ _ _ _ hI2 hz) (fun h => absurd rfl h)
theorem lop_rerunStale (h1 : ∀ (S : CS) (k : Nat → Option CS) (M : MR), Inv S k M → ∃ (r : Int32) (S' : CS) (M' : MR), f4_rerunStale FU S = some (r, S') ∧ fR_rerunStale FU M = some (r, M') ∧ Inv S' k M') (h3 : SimRoom Inv) (X : lC p s m meth c b L xs D cI cZ cO tk) (hi : i + 6 ≤ L) (hL : L ≤ 3072) (hI : Inv S k M) (hz : lZ s D cI cZ cO q qr S k M H locs) (hl : lv_has ls 4 [(0, .ref b), (1, .ref (q 50)), (2, .ref (qr 34)), (3, .int (nI i))]) (IH : ∀ S' k' M' H1 locs1, Inv S' k' M' → lZ s D cI cZ cO q qr S' k' M' H1 locs1 → W p l e room_1 s m #[Value.ref b] below meth c H1 locs1 (48 + cS S') (68674 + sS S') (lw_Z below #[Value.ref b] s) (F0 m 782 ls [])) : W p l e room_1 s m #[Value.ref b] below meth c H locs (48 + cS S) (68674 + sS S) (lw_Z below #[Value.ref b] s) (F0 m 291 ls []) := by
  have hbA : ¬ (fun x => s.heap.size ≤ x) b := Nat.not_le.mpr X.2.2.2.2.2.2.1
  obtain ⟨_, _, _, _, _, _, hS⟩ := id hz
  obtain ⟨r, S1, M1, hF1, hF2, hI2⟩ := h1 S k M  hI
  have hm : le S S1 := mo4_rerunStale FU  S _ hF1
  have e1 : 48 + cS S + (cS S1 - cS S) = 48 + cS S1 := by have := hm.1; omega
  have e2 : 68674 + sS S + (sS S1 - sS S) = 68674 + sS S1 := by have := hm.2; omega
  refine lv_aload_n X.1 X.2.1 dL_law_291 rfl (lvg_at hl (i := 1) rfl) ?_
  refine lc_i (As := []) X (c4_rerunStale (SF_ok tk) l D cI q FU  S) hF1 (cwVC (fr := 13) (lo := 516) (k := 0) X.2.2.2.2.1 tlL_37 tiL_X4_rerunStale teL_X4_rerunStale tcL_X4_rerunStale ini_4 (by decide +kernel) ⟨by decide, by decide⟩) rfl rfl (Nat.le_of_ble_eq_true rfl) dL_law_292 (by rw [e1]; have := h3 _ _ _ hI2; omega) (by rw [e2]; have := h3 _ _ _ hI2; omega) hl.1 hz (fun H1 locs1 hz => ?_)
  rw [e1, e2]
  obtain ⟨_, _, _, _, _, _, hS⟩ := id hz
  refine lv_aload_n X.1 X.2.1 dL_law_295 rfl (lvg_at hl (i := 2) rfl) ?_
  refine lr_i (As := []) X (c_rerunStale l D cI cZ qr FU  M) hF2 (cwVR (k := 0) X.2.2.2.2.1 tlL_40 tiL_X5_rerunStale teL_X5_rerunStale tcL_X5_rerunStale ini5 (by decide +kernel) ⟨Nat.le_of_ble_eq_true rfl, Nat.le_of_ble_eq_true rfl⟩) rfl rfl (Nat.le_of_ble_eq_true rfl) dL_law_296 (by have := h3 _ _ _ hI2; omega) (by have := h3 _ _ _ hI2; omega) hl.1 hz (fun H1 locs1 hz => ?_)
  exact lv_icmp_eq (tgt := 782) X.1 X.2.1 dL_law_299 (by decide) (fun _ => IH _ _ _ _ _ hI2 hz) (fun h => absurd rfl h)
theorem lop_forget (h1 : ∀ (S : CS) (k : Nat → Option CS) (M : MR) (x1 : Int32), Inv S k M → ∃ (r : Int32) (S' : CS) (M' : MR), f4_forget FU x1 S = some (r, S') ∧ fR_forget FU x1 M = some (r, M') ∧ Inv S' k M') (h3 : SimRoom Inv) (X : lC p s m meth c b L xs D cI cZ cO tk) (hi : i + 6 ≤ L) (hL : L ≤ 3072) (hI : Inv S k M) (hz : lZ s D cI cZ cO q qr S k M H locs) (hl : lv_has ls 4 [(0, .ref b), (1, .ref (q 50)), (2, .ref (qr 34)), (3, .int (nI i))]) (IH : ∀ S' k' M' H1 locs1, Inv S' k' M' → lZ s D cI cZ cO q qr S' k' M' H1 locs1 → W p l e room_1 s m #[Value.ref b] below meth c H1 locs1 (48 + cS S') (68674 + sS S') (lw_Z below #[Value.ref b] s) (F0 m 782 ls [])) : W p l e room_1 s m #[Value.ref b] below meth c H locs (48 + cS S) (68674 + sS S) (lw_Z below #[Value.ref b] s) (F0 m 304 ls []) := by
  have hbA : ¬ (fun x => s.heap.size ≤ x) b := Nat.not_le.mpr X.2.2.2.2.2.2.1
  obtain ⟨_, _, _, _, _, _, hS⟩ := id hz
  obtain ⟨r, S1, M1, hF1, hF2, hI2⟩ := h1 S k M (xs (nI i + nI 1).toNatClampNeg) hI
  have hm : le S S1 := mo4_forget FU (xs (nI i + nI 1).toNatClampNeg) S _ hF1
  have e1 : 48 + cS S + (cS S1 - cS S) = 48 + cS S1 := by have := hm.1; omega
  have e2 : 68674 + sS S + (sS S1 - sS S) = 68674 + sS S1 := by have := hm.2; omega
  refine lv_aload_n X.1 X.2.1 dL_law_304 rfl (lvg_at hl (i := 1) rfl) ?_
  refine lv_aload_n X.1 X.2.1 dL_law_305 rfl (lvg_at hl (i := 0) rfl) ?_
  refine lv_iload_n X.1 X.2.1 dL_law_306 rfl (lvg_at hl (i := 3) rfl) ?_
  refine lv_iconst (v := nI 1) X.1 X.2.1 dL_law_307 (by decide) ?_
  refine lv_iadd X.1 X.2.1 dL_law_308 ?_
  refine va_sld X.1 X.2.1 X.2.2.2.2.2.1 X.2.2.2.2.2.2.1 hbA hS (by rw [nI_add]; exact vp_in_nI (by omega) (by omega)) dL_law_309 ?_
  refine lc_i (As := [.int (xs (nI i + nI 1).toNatClampNeg)]) X (c4_forget (SF_ok tk) l D cI q FU (xs (nI i + nI 1).toNatClampNeg) S) hF1 (cwVC (fr := 13) (lo := 516) (k := 1) X.2.2.2.2.1 tlL_41 tiL_X4_forget teL_X4_forget tcL_X4_forget ini_4 (by decide +kernel) ⟨by decide, by decide⟩) rfl rfl (Nat.le_of_ble_eq_true rfl) dL_law_310 (by rw [e1]; have := h3 _ _ _ hI2; omega) (by rw [e2]; have := h3 _ _ _ hI2; omega) hl.1 hz (fun H1 locs1 hz => ?_)
  rw [e1, e2]
  obtain ⟨_, _, _, _, _, _, hS⟩ := id hz
  refine lv_aload_n X.1 X.2.1 dL_law_313 rfl (lvg_at hl (i := 2) rfl) ?_
  refine lv_aload_n X.1 X.2.1 dL_law_314 rfl (lvg_at hl (i := 0) rfl) ?_
  refine lv_iload_n X.1 X.2.1 dL_law_315 rfl (lvg_at hl (i := 3) rfl) ?_
  refine lv_iconst (v := nI 1) X.1 X.2.1 dL_law_316 (by decide) ?_
  refine lv_iadd X.1 X.2.1 dL_law_317 ?_
  refine va_sld X.1 X.2.1 X.2.2.2.2.2.1 X.2.2.2.2.2.2.1 hbA hS (by rw [nI_add]; exact vp_in_nI (by omega) (by omega)) dL_law_318 ?_
  refine lr_i (As := [.int (xs (nI i + nI 1).toNatClampNeg)]) X (c_forget l D cI cZ qr FU (xs (nI i + nI 1).toNatClampNeg) M) hF2 (cwVR (k := 1) X.2.2.2.2.1 tlL_44 tiL_X5_forget teL_X5_forget tcL_X5_forget ini5 (by decide +kernel) ⟨Nat.le_of_ble_eq_true rfl, Nat.le_of_ble_eq_true rfl⟩) rfl rfl (Nat.le_of_ble_eq_true rfl) dL_law_319 (by have := h3 _ _ _ hI2; omega) (by have := h3 _ _ _ hI2; omega) hl.1 hz (fun H1 locs1 hz => ?_)
  exact lv_icmp_eq (tgt := 782) X.1 X.2.1 dL_law_322 (by decide) (fun _ => IH _ _ _ _ _ hI2 hz) (fun h => absurd rfl h)
theorem lop_of (h1 : ∀ (S : CS) (k : Nat → Option CS) (M : MR) (x1 : Int32) (x2 : Int32), Inv S k M → ∃ (r : Int32) (S' : CS) (M' : MR), f4_of FU x1 x2 S = some (r, S') ∧ fR_of FU x1 x2 M = some (r, M') ∧ Inv S' k M') (h3 : SimRoom Inv) (X : lC p s m meth c b L xs D cI cZ cO tk) (hi : i + 6 ≤ L) (hL : L ≤ 3072) (hI : Inv S k M) (hz : lZ s D cI cZ cO q qr S k M H locs) (hl : lv_has ls 4 [(0, .ref b), (1, .ref (q 50)), (2, .ref (qr 34)), (3, .int (nI i))]) (IH : ∀ S' k' M' H1 locs1, Inv S' k' M' → lZ s D cI cZ cO q qr S' k' M' H1 locs1 → W p l e room_1 s m #[Value.ref b] below meth c H1 locs1 (48 + cS S') (68674 + sS S') (lw_Z below #[Value.ref b] s) (F0 m 782 ls [])) : W p l e room_1 s m #[Value.ref b] below meth c H locs (48 + cS S) (68674 + sS S) (lw_Z below #[Value.ref b] s) (F0 m 327 ls []) := by
  have hbA : ¬ (fun x => s.heap.size ≤ x) b := Nat.not_le.mpr X.2.2.2.2.2.2.1
  obtain ⟨_, _, _, _, _, _, hS⟩ := id hz
  obtain ⟨r, S1, M1, hF1, hF2, hI2⟩ := h1 S k M (xs (nI i + nI 1).toNatClampNeg) (xs (nI i + nI 2).toNatClampNeg) hI
  have hm : le S S1 := mo4_of FU (xs (nI i + nI 1).toNatClampNeg) (xs (nI i + nI 2).toNatClampNeg) S _ hF1
  have e1 : 48 + cS S + (cS S1 - cS S) = 48 + cS S1 := by have := hm.1; omega
  have e2 : 68674 + sS S + (sS S1 - sS S) = 68674 + sS S1 := by have := hm.2; omega
  refine lv_aload_n X.1 X.2.1 dL_law_327 rfl (lvg_at hl (i := 1) rfl) ?_
  refine lv_aload_n X.1 X.2.1 dL_law_328 rfl (lvg_at hl (i := 0) rfl) ?_
  refine lv_iload_n X.1 X.2.1 dL_law_329 rfl (lvg_at hl (i := 3) rfl) ?_
  refine lv_iconst (v := nI 1) X.1 X.2.1 dL_law_330 (by decide) ?_
  refine lv_iadd X.1 X.2.1 dL_law_331 ?_
  refine va_sld X.1 X.2.1 X.2.2.2.2.2.1 X.2.2.2.2.2.2.1 hbA hS (by rw [nI_add]; exact vp_in_nI (by omega) (by omega)) dL_law_332 ?_
  refine lv_aload_n X.1 X.2.1 dL_law_333 rfl (lvg_at hl (i := 0) rfl) ?_
  refine lv_iload_n X.1 X.2.1 dL_law_334 rfl (lvg_at hl (i := 3) rfl) ?_
  refine lv_iconst (v := nI 2) X.1 X.2.1 dL_law_335 (by decide) ?_
  refine lv_iadd X.1 X.2.1 dL_law_336 ?_
  refine va_sld X.1 X.2.1 X.2.2.2.2.2.1 X.2.2.2.2.2.2.1 hbA hS (by rw [nI_add]; exact vp_in_nI (by omega) (by omega)) dL_law_337 ?_
  refine lc_i (As := [.int (xs (nI i + nI 1).toNatClampNeg), .int (xs (nI i + nI 2).toNatClampNeg)]) X (c4_of (SF_ok tk) l D cI q FU (xs (nI i + nI 1).toNatClampNeg) (xs (nI i + nI 2).toNatClampNeg) S) hF1 (cwVC (fr := 13) (lo := 516) (k := 2) X.2.2.2.2.1 tlL_45 tiL_X4_of teL_X4_of tcL_X4_of ini_4 (by decide +kernel) ⟨by decide, by decide⟩) rfl rfl (Nat.le_of_ble_eq_true rfl) dL_law_338 (by rw [e1]; have := h3 _ _ _ hI2; omega) (by rw [e2]; have := h3 _ _ _ hI2; omega) hl.1 hz (fun H1 locs1 hz => ?_)
  rw [e1, e2]
  obtain ⟨_, _, _, _, _, _, hS⟩ := id hz
  refine lv_aload_n X.1 X.2.1 dL_law_341 rfl (lvg_at hl (i := 2) rfl) ?_
  refine lv_aload_n X.1 X.2.1 dL_law_342 rfl (lvg_at hl (i := 0) rfl) ?_
  refine lv_iload_n X.1 X.2.1 dL_law_343 rfl (lvg_at hl (i := 3) rfl) ?_
  refine lv_iconst (v := nI 1) X.1 X.2.1 dL_law_344 (by decide) ?_
  refine lv_iadd X.1 X.2.1 dL_law_345 ?_
  refine va_sld X.1 X.2.1 X.2.2.2.2.2.1 X.2.2.2.2.2.2.1 hbA hS (by rw [nI_add]; exact vp_in_nI (by omega) (by omega)) dL_law_346 ?_
  refine lv_aload_n X.1 X.2.1 dL_law_347 rfl (lvg_at hl (i := 0) rfl) ?_
  refine lv_iload_n X.1 X.2.1 dL_law_348 rfl (lvg_at hl (i := 3) rfl) ?_
  refine lv_iconst (v := nI 2) X.1 X.2.1 dL_law_349 (by decide) ?_
  refine lv_iadd X.1 X.2.1 dL_law_350 ?_
  refine va_sld X.1 X.2.1 X.2.2.2.2.2.1 X.2.2.2.2.2.2.1 hbA hS (by rw [nI_add]; exact vp_in_nI (by omega) (by omega)) dL_law_351 ?_
  refine lr_i (As := [.int (xs (nI i + nI 1).toNatClampNeg), .int (xs (nI i + nI 2).toNatClampNeg)]) X (c_of l D cI cZ qr FU (xs (nI i + nI 1).toNatClampNeg) (xs (nI i + nI 2).toNatClampNeg) M) hF2 (cwVR (k := 2) X.2.2.2.2.1 tlL_48 tiL_X5_of teL_X5_of tcL_X5_of ini5 (by decide +kernel) ⟨Nat.le_of_ble_eq_true rfl, Nat.le_of_ble_eq_true rfl⟩) rfl rfl (Nat.le_of_ble_eq_true rfl) dL_law_352 (by have := h3 _ _ _ hI2; omega) (by have := h3 _ _ _ hI2; omega) hl.1 hz (fun H1 locs1 hz => ?_)
  exact lv_icmp_eq (tgt := 782) X.1 X.2.1 dL_law_355 (by decide) (fun _ => IH _ _ _ _ _ hI2 hz) (fun h => absurd rfl h)
theorem lop_leans (h1 : ∀ (S : CS) (k : Nat → Option CS) (M : MR) (x1 : Int32) (x2 : Int32), Inv S k M → ∃ (r : Int32) (S' : CS) (M' : MR), f4_leans FU x1 x2 S = some (r, S') ∧ fR_leans FU x1 x2 M = some (r, M') ∧ Inv S' k M') (h3 : SimRoom Inv) (X : lC p s m meth c b L xs D cI cZ cO tk) (hi : i + 6 ≤ L) (hL : L ≤ 3072) (hI : Inv S k M) (hz : lZ s D cI cZ cO q qr S k M H locs) (hl : lv_has ls 4 [(0, .ref b), (1, .ref (q 50)), (2, .ref (qr 34)), (3, .int (nI i))]) (IH : ∀ S' k' M' H1 locs1, Inv S' k' M' → lZ s D cI cZ cO q qr S' k' M' H1 locs1 → W p l e room_1 s m #[Value.ref b] below meth c H1 locs1 (48 + cS S') (68674 + sS S') (lw_Z below #[Value.ref b] s) (F0 m 782 ls [])) : W p l e room_1 s m #[Value.ref b] below meth c H locs (48 + cS S) (68674 + sS S) (lw_Z below #[Value.ref b] s) (F0 m 360 ls []) := by
  have hbA : ¬ (fun x => s.heap.size ≤ x) b := Nat.not_le.mpr X.2.2.2.2.2.2.1
  obtain ⟨_, _, _, _, _, _, hS⟩ := id hz
  obtain ⟨r, S1, M1, hF1, hF2, hI2⟩ := h1 S k M (xs (nI i + nI 1).toNatClampNeg) (xs (nI i + nI 2).toNatClampNeg) hI
  have hm : le S S1 := mo4_leans FU (xs (nI i + nI 1).toNatClampNeg) (xs (nI i + nI 2).toNatClampNeg) S _ hF1
  have e1 : 48 + cS S + (cS S1 - cS S) = 48 + cS S1 := by have := hm.1; omega
  have e2 : 68674 + sS S + (sS S1 - sS S) = 68674 + sS S1 := by have := hm.2; omega
  refine lv_aload_n X.1 X.2.1 dL_law_360 rfl (lvg_at hl (i := 1) rfl) ?_
  refine lv_aload_n X.1 X.2.1 dL_law_361 rfl (lvg_at hl (i := 0) rfl) ?_
  refine lv_iload_n X.1 X.2.1 dL_law_362 rfl (lvg_at hl (i := 3) rfl) ?_
  refine lv_iconst (v := nI 1) X.1 X.2.1 dL_law_363 (by decide) ?_
  refine lv_iadd X.1 X.2.1 dL_law_364 ?_
  refine va_sld X.1 X.2.1 X.2.2.2.2.2.1 X.2.2.2.2.2.2.1 hbA hS (by rw [nI_add]; exact vp_in_nI (by omega) (by omega)) dL_law_365 ?_
  refine lv_aload_n X.1 X.2.1 dL_law_366 rfl (lvg_at hl (i := 0) rfl) ?_
  refine lv_iload_n X.1 X.2.1 dL_law_367 rfl (lvg_at hl (i := 3) rfl) ?_
  refine lv_iconst (v := nI 2) X.1 X.2.1 dL_law_368 (by decide) ?_
  refine lv_iadd X.1 X.2.1 dL_law_369 ?_
  refine va_sld X.1 X.2.1 X.2.2.2.2.2.1 X.2.2.2.2.2.2.1 hbA hS (by rw [nI_add]; exact vp_in_nI (by omega) (by omega)) dL_law_370 ?_
  refine lc_i (As := [.int (xs (nI i + nI 1).toNatClampNeg), .int (xs (nI i + nI 2).toNatClampNeg)]) X (c4_leans (SF_ok tk) l D cI q FU (xs (nI i + nI 1).toNatClampNeg) (xs (nI i + nI 2).toNatClampNeg) S) hF1 (cwVC (fr := 13) (lo := 516) (k := 2) X.2.2.2.2.1 tlL_49 tiL_X4_leans teL_X4_leans tcL_X4_leans ini_4 (by decide +kernel) ⟨by decide, by decide⟩) rfl rfl (Nat.le_of_ble_eq_true rfl) dL_law_371 (by rw [e1]; have := h3 _ _ _ hI2; omega) (by rw [e2]; have := h3 _ _ _ hI2; omega) hl.1 hz (fun H1 locs1 hz => ?_)
  rw [e1, e2]
  obtain ⟨_, _, _, _, _, _, hS⟩ := id hz
  refine lv_aload_n X.1 X.2.1 dL_law_374 rfl (lvg_at hl (i := 2) rfl) ?_
  refine lv_aload_n X.1 X.2.1 dL_law_375 rfl (lvg_at hl (i := 0) rfl) ?_
  refine lv_iload_n X.1 X.2.1 dL_law_376 rfl (lvg_at hl (i := 3) rfl) ?_
  refine lv_iconst (v := nI 1) X.1 X.2.1 dL_law_377 (by decide) ?_
  refine lv_iadd X.1 X.2.1 dL_law_378 ?_
  refine va_sld X.1 X.2.1 X.2.2.2.2.2.1 X.2.2.2.2.2.2.1 hbA hS (by rw [nI_add]; exact vp_in_nI (by omega) (by omega)) dL_law_379 ?_
  refine lv_aload_n X.1 X.2.1 dL_law_380 rfl (lvg_at hl (i := 0) rfl) ?_
  refine lv_iload_n X.1 X.2.1 dL_law_381 rfl (lvg_at hl (i := 3) rfl) ?_
  refine lv_iconst (v := nI 2) X.1 X.2.1 dL_law_382 (by decide) ?_
  refine lv_iadd X.1 X.2.1 dL_law_383 ?_
  refine va_sld X.1 X.2.1 X.2.2.2.2.2.1 X.2.2.2.2.2.2.1 hbA hS (by rw [nI_add]; exact vp_in_nI (by omega) (by omega)) dL_law_384 ?_
  refine lr_i (As := [.int (xs (nI i + nI 1).toNatClampNeg), .int (xs (nI i + nI 2).toNatClampNeg)]) X (c_leans l D cI cZ qr FU (xs (nI i + nI 1).toNatClampNeg) (xs (nI i + nI 2).toNatClampNeg) M) hF2 (cwVR (k := 2) X.2.2.2.2.1 tlL_52 tiL_X5_leans teL_X5_leans tcL_X5_leans ini5 (by decide +kernel) ⟨Nat.le_of_ble_eq_true rfl, Nat.le_of_ble_eq_true rfl⟩) rfl rfl (Nat.le_of_ble_eq_true rfl) dL_law_385 (by have := h3 _ _ _ hI2; omega) (by have := h3 _ _ _ hI2; omega) hl.1 hz (fun H1 locs1 hz => ?_)
  exact lv_icmp_eq (tgt := 782) X.1 X.2.1 dL_law_388 (by decide) (fun _ => IH _ _ _ _ _ hI2 hz) (fun h => absurd rfl h)
theorem lop_stale (h1 : ∀ (S : CS) (k : Nat → Option CS) (M : MR) (x1 : Int32), Inv S k M → ∃ (r : Int32) (S' : CS) (M' : MR), f4_stale FU x1 S = some (r, S') ∧ fR_stale FU x1 M = some (r, M') ∧ Inv S' k M') (h3 : SimRoom Inv) (X : lC p s m meth c b L xs D cI cZ cO tk) (hi : i + 6 ≤ L) (hL : L ≤ 3072) (hI : Inv S k M) (hz : lZ s D cI cZ cO q qr S k M H locs) (hl : lv_has ls 4 [(0, .ref b), (1, .ref (q 50)), (2, .ref (qr 34)), (3, .int (nI i))]) (IH : ∀ S' k' M' H1 locs1, Inv S' k' M' → lZ s D cI cZ cO q qr S' k' M' H1 locs1 → W p l e room_1 s m #[Value.ref b] below meth c H1 locs1 (48 + cS S') (68674 + sS S') (lw_Z below #[Value.ref b] s) (F0 m 782 ls [])) : W p l e room_1 s m #[Value.ref b] below meth c H locs (48 + cS S) (68674 + sS S) (lw_Z below #[Value.ref b] s) (F0 m 393 ls []) := by
  have hbA : ¬ (fun x => s.heap.size ≤ x) b := Nat.not_le.mpr X.2.2.2.2.2.2.1
  obtain ⟨_, _, _, _, _, _, hS⟩ := id hz
  obtain ⟨r, S1, M1, hF1, hF2, hI2⟩ := h1 S k M (xs (nI i + nI 1).toNatClampNeg) hI
  have hm : le S S1 := mo4_stale FU (xs (nI i + nI 1).toNatClampNeg) S _ hF1
  have e1 : 48 + cS S + (cS S1 - cS S) = 48 + cS S1 := by have := hm.1; omega
  have e2 : 68674 + sS S + (sS S1 - sS S) = 68674 + sS S1 := by have := hm.2; omega
  refine lv_aload_n X.1 X.2.1 dL_law_393 rfl (lvg_at hl (i := 1) rfl) ?_
  refine lv_aload_n X.1 X.2.1 dL_law_394 rfl (lvg_at hl (i := 0) rfl) ?_
  refine lv_iload_n X.1 X.2.1 dL_law_395 rfl (lvg_at hl (i := 3) rfl) ?_
  refine lv_iconst (v := nI 1) X.1 X.2.1 dL_law_396 (by decide) ?_
  refine lv_iadd X.1 X.2.1 dL_law_397 ?_
  refine va_sld X.1 X.2.1 X.2.2.2.2.2.1 X.2.2.2.2.2.2.1 hbA hS (by rw [nI_add]; exact vp_in_nI (by omega) (by omega)) dL_law_398 ?_
  refine lc_i (As := [.int (xs (nI i + nI 1).toNatClampNeg)]) X (c4_stale (SF_ok tk) l D cI q FU (xs (nI i + nI 1).toNatClampNeg) S) hF1 (cwVC (fr := 13) (lo := 516) (k := 1) X.2.2.2.2.1 tlL_53 tiL_X4_stale teL_X4_stale tcL_X4_stale ini_4 (by decide +kernel) ⟨by decide, by decide⟩) rfl rfl (Nat.le_of_ble_eq_true rfl) dL_law_399 (by rw [e1]; have := h3 _ _ _ hI2; omega) (by rw [e2]; have := h3 _ _ _ hI2; omega) hl.1 hz (fun H1 locs1 hz => ?_)
  rw [e1, e2]
  obtain ⟨_, _, _, _, _, _, hS⟩ := id hz
  refine lv_aload_n X.1 X.2.1 dL_law_402 rfl (lvg_at hl (i := 2) rfl) ?_
  refine lv_aload_n X.1 X.2.1 dL_law_403 rfl (lvg_at hl (i := 0) rfl) ?_
  refine lv_iload_n X.1 X.2.1 dL_law_404 rfl (lvg_at hl (i := 3) rfl) ?_
  refine lv_iconst (v := nI 1) X.1 X.2.1 dL_law_405 (by decide) ?_
  refine lv_iadd X.1 X.2.1 dL_law_406 ?_
  refine va_sld X.1 X.2.1 X.2.2.2.2.2.1 X.2.2.2.2.2.2.1 hbA hS (by rw [nI_add]; exact vp_in_nI (by omega) (by omega)) dL_law_407 ?_
  refine lr_i (As := [.int (xs (nI i + nI 1).toNatClampNeg)]) X (c_stale l D cI cZ qr FU (xs (nI i + nI 1).toNatClampNeg) M) hF2 (cwVR (k := 1) X.2.2.2.2.1 tlL_57 tiL_X5_stale teL_X5_stale tcL_X5_stale ini5 (by decide +kernel) ⟨Nat.le_of_ble_eq_true rfl, Nat.le_of_ble_eq_true rfl⟩) rfl rfl (Nat.le_of_ble_eq_true rfl) dL_law_408 (by have := h3 _ _ _ hI2; omega) (by have := h3 _ _ _ hI2; omega) hl.1 hz (fun H1 locs1 hz => ?_)
  exact lv_icmp_eq (tgt := 782) X.1 X.2.1 dL_law_411 (by decide) (fun _ => IH _ _ _ _ _ hI2 hz) (fun h => absurd rfl h)
theorem lop_written (h1 : ∀ (S : CS) (k : Nat → Option CS) (M : MR) (x1 : Int32) (x2 : Int32) (x3 : Int32), Inv S k M → ∃ (r : Int32) (S' : CS) (M' : MR), f4_written FU x1 x2 x3 S = some (r, S') ∧ fR_written FU x1 x2 x3 M = some (r, M') ∧ Inv S' k M') (h3 : SimRoom Inv) (X : lC p s m meth c b L xs D cI cZ cO tk) (hi : i + 6 ≤ L) (hL : L ≤ 3072) (hI : Inv S k M) (hz : lZ s D cI cZ cO q qr S k M H locs) (hl : lv_has ls 4 [(0, .ref b), (1, .ref (q 50)), (2, .ref (qr 34)), (3, .int (nI i))]) (IH : ∀ S' k' M' H1 locs1, Inv S' k' M' → lZ s D cI cZ cO q qr S' k' M' H1 locs1 → W p l e room_1 s m #[Value.ref b] below meth c H1 locs1 (48 + cS S') (68674 + sS S') (lw_Z below #[Value.ref b] s) (F0 m 782 ls [])) : W p l e room_1 s m #[Value.ref b] below meth c H locs (48 + cS S) (68674 + sS S) (lw_Z below #[Value.ref b] s) (F0 m 416 ls []) := by
  have hbA : ¬ (fun x => s.heap.size ≤ x) b := Nat.not_le.mpr X.2.2.2.2.2.2.1
  obtain ⟨_, _, _, _, _, _, hS⟩ := id hz
  obtain ⟨r, S1, M1, hF1, hF2, hI2⟩ := h1 S k M (xs (nI i + nI 1).toNatClampNeg) (xs (nI i + nI 2).toNatClampNeg) (xs (nI i + nI 3).toNatClampNeg) hI
  have hm : le S S1 := mo4_written FU (xs (nI i + nI 1).toNatClampNeg) (xs (nI i + nI 2).toNatClampNeg) (xs (nI i + nI 3).toNatClampNeg) S _ hF1
  have e1 : 48 + cS S + (cS S1 - cS S) = 48 + cS S1 := by have := hm.1; omega
  have e2 : 68674 + sS S + (sS S1 - sS S) = 68674 + sS S1 := by have := hm.2; omega
  refine lv_aload_n X.1 X.2.1 dL_law_416 rfl (lvg_at hl (i := 1) rfl) ?_
  refine lv_aload_n X.1 X.2.1 dL_law_417 rfl (lvg_at hl (i := 0) rfl) ?_
  refine lv_iload_n X.1 X.2.1 dL_law_418 rfl (lvg_at hl (i := 3) rfl) ?_
  refine lv_iconst (v := nI 1) X.1 X.2.1 dL_law_419 (by decide) ?_
  refine lv_iadd X.1 X.2.1 dL_law_420 ?_
  refine va_sld X.1 X.2.1 X.2.2.2.2.2.1 X.2.2.2.2.2.2.1 hbA hS (by rw [nI_add]; exact vp_in_nI (by omega) (by omega)) dL_law_421 ?_
  refine lv_aload_n X.1 X.2.1 dL_law_422 rfl (lvg_at hl (i := 0) rfl) ?_
  refine lv_iload_n X.1 X.2.1 dL_law_423 rfl (lvg_at hl (i := 3) rfl) ?_
  refine lv_iconst (v := nI 2) X.1 X.2.1 dL_law_424 (by decide) ?_
  refine lv_iadd X.1 X.2.1 dL_law_425 ?_
  refine va_sld X.1 X.2.1 X.2.2.2.2.2.1 X.2.2.2.2.2.2.1 hbA hS (by rw [nI_add]; exact vp_in_nI (by omega) (by omega)) dL_law_426 ?_
  refine lv_aload_n X.1 X.2.1 dL_law_427 rfl (lvg_at hl (i := 0) rfl) ?_
  refine lv_iload_n X.1 X.2.1 dL_law_428 rfl (lvg_at hl (i := 3) rfl) ?_
  refine lv_iconst (v := nI 3) X.1 X.2.1 dL_law_429 (by decide) ?_
  refine lv_iadd X.1 X.2.1 dL_law_430 ?_
  refine va_sld X.1 X.2.1 X.2.2.2.2.2.1 X.2.2.2.2.2.2.1 hbA hS (by rw [nI_add]; exact vp_in_nI (by omega) (by omega)) dL_law_431 ?_
  refine lc_i (As := [.int (xs (nI i + nI 1).toNatClampNeg), .int (xs (nI i + nI 2).toNatClampNeg), .int (xs (nI i + nI 3).toNatClampNeg)]) X (c4_written (SF_ok tk) l D cI q FU (xs (nI i + nI 1).toNatClampNeg) (xs (nI i + nI 2).toNatClampNeg) (xs (nI i + nI 3).toNatClampNeg) S) hF1 (cwVC (fr := 13) (lo := 516) (k := 3) X.2.2.2.2.1 tlL_58 tiL_X4_written teL_X4_written tcL_X4_written ini_4 (by decide +kernel) ⟨by decide, by decide⟩) rfl rfl (Nat.le_of_ble_eq_true rfl) dL_law_432 (by rw [e1]; have := h3 _ _ _ hI2; omega) (by rw [e2]; have := h3 _ _ _ hI2; omega) hl.1 hz (fun H1 locs1 hz => ?_)
  rw [e1, e2]
  obtain ⟨_, _, _, _, _, _, hS⟩ := id hz
  refine lv_aload_n X.1 X.2.1 dL_law_435 rfl (lvg_at hl (i := 2) rfl) ?_
  refine lv_aload_n X.1 X.2.1 dL_law_436 rfl (lvg_at hl (i := 0) rfl) ?_
  refine lv_iload_n X.1 X.2.1 dL_law_437 rfl (lvg_at hl (i := 3) rfl) ?_
  refine lv_iconst (v := nI 1) X.1 X.2.1 dL_law_438 (by decide) ?_
  refine lv_iadd X.1 X.2.1 dL_law_439 ?_
  refine va_sld X.1 X.2.1 X.2.2.2.2.2.1 X.2.2.2.2.2.2.1 hbA hS (by rw [nI_add]; exact vp_in_nI (by omega) (by omega)) dL_law_440 ?_
  refine lv_aload_n X.1 X.2.1 dL_law_441 rfl (lvg_at hl (i := 0) rfl) ?_
  refine lv_iload_n X.1 X.2.1 dL_law_442 rfl (lvg_at hl (i := 3) rfl) ?_
  refine lv_iconst (v := nI 2) X.1 X.2.1 dL_law_443 (by decide) ?_
  refine lv_iadd X.1 X.2.1 dL_law_444 ?_
  refine va_sld X.1 X.2.1 X.2.2.2.2.2.1 X.2.2.2.2.2.2.1 hbA hS (by rw [nI_add]; exact vp_in_nI (by omega) (by omega)) dL_law_445 ?_
  refine lv_aload_n X.1 X.2.1 dL_law_446 rfl (lvg_at hl (i := 0) rfl) ?_
  refine lv_iload_n X.1 X.2.1 dL_law_447 rfl (lvg_at hl (i := 3) rfl) ?_
  refine lv_iconst (v := nI 3) X.1 X.2.1 dL_law_448 (by decide) ?_
  refine lv_iadd X.1 X.2.1 dL_law_449 ?_
  refine va_sld X.1 X.2.1 X.2.2.2.2.2.1 X.2.2.2.2.2.2.1 hbA hS (by rw [nI_add]; exact vp_in_nI (by omega) (by omega)) dL_law_450 ?_
  refine lr_i (As := [.int (xs (nI i + nI 1).toNatClampNeg), .int (xs (nI i + nI 2).toNatClampNeg), .int (xs (nI i + nI 3).toNatClampNeg)]) X (c_written l D cI cZ qr FU (xs (nI i + nI 1).toNatClampNeg) (xs (nI i + nI 2).toNatClampNeg) (xs (nI i + nI 3).toNatClampNeg) M) hF2 (cwVR (k := 3) X.2.2.2.2.1 tlL_62 tiL_X5_written teL_X5_written tcL_X5_written ini5 (by decide +kernel) ⟨Nat.le_of_ble_eq_true rfl, Nat.le_of_ble_eq_true rfl⟩) rfl rfl (Nat.le_of_ble_eq_true rfl) dL_law_451 (by have := h3 _ _ _ hI2; omega) (by have := h3 _ _ _ hI2; omega) hl.1 hz (fun H1 locs1 hz => ?_)
  exact lv_icmp_eq (tgt := 782) X.1 X.2.1 dL_law_454 (by decide) (fun _ => IH _ _ _ _ _ hI2 hz) (fun h => absurd rfl h)
theorem lop_count (h1 : ∀ (S : CS) (k : Nat → Option CS) (M : MR) (x1 : Int32), Inv S k M → ∃ (r : Int32) (S' : CS) (M' : MR), f4_count FU x1 S = some (r, S') ∧ fR_count FU x1 M = some (r, M') ∧ Inv S' k M') (h3 : SimRoom Inv) (X : lC p s m meth c b L xs D cI cZ cO tk) (hi : i + 6 ≤ L) (hL : L ≤ 3072) (hI : Inv S k M) (hz : lZ s D cI cZ cO q qr S k M H locs) (hl : lv_has ls 4 [(0, .ref b), (1, .ref (q 50)), (2, .ref (qr 34)), (3, .int (nI i))]) (IH : ∀ S' k' M' H1 locs1, Inv S' k' M' → lZ s D cI cZ cO q qr S' k' M' H1 locs1 → W p l e room_1 s m #[Value.ref b] below meth c H1 locs1 (48 + cS S') (68674 + sS S') (lw_Z below #[Value.ref b] s) (F0 m 782 ls [])) : W p l e room_1 s m #[Value.ref b] below meth c H locs (48 + cS S) (68674 + sS S) (lw_Z below #[Value.ref b] s) (F0 m 459 ls []) := by
  have hbA : ¬ (fun x => s.heap.size ≤ x) b := Nat.not_le.mpr X.2.2.2.2.2.2.1
  obtain ⟨_, _, _, _, _, _, hS⟩ := id hz
  obtain ⟨r, S1, M1, hF1, hF2, hI2⟩ := h1 S k M (xs (nI i + nI 1).toNatClampNeg) hI
  have hm : le S S1 := mo4_count FU (xs (nI i + nI 1).toNatClampNeg) S _ hF1
  have e1 : 48 + cS S + (cS S1 - cS S) = 48 + cS S1 := by have := hm.1; omega
  have e2 : 68674 + sS S + (sS S1 - sS S) = 68674 + sS S1 := by have := hm.2; omega
  refine lv_aload_n X.1 X.2.1 dL_law_459 rfl (lvg_at hl (i := 1) rfl) ?_
  refine lv_aload_n X.1 X.2.1 dL_law_460 rfl (lvg_at hl (i := 0) rfl) ?_
  refine lv_iload_n X.1 X.2.1 dL_law_461 rfl (lvg_at hl (i := 3) rfl) ?_
  refine lv_iconst (v := nI 1) X.1 X.2.1 dL_law_462 (by decide) ?_
  refine lv_iadd X.1 X.2.1 dL_law_463 ?_
  refine va_sld X.1 X.2.1 X.2.2.2.2.2.1 X.2.2.2.2.2.2.1 hbA hS (by rw [nI_add]; exact vp_in_nI (by omega) (by omega)) dL_law_464 ?_
  refine lc_i (As := [.int (xs (nI i + nI 1).toNatClampNeg)]) X (c4_count (SF_ok tk) l D cI q FU (xs (nI i + nI 1).toNatClampNeg) S) hF1 (cwVC (fr := 13) (lo := 516) (k := 1) X.2.2.2.2.1 tlL_63 tiL_X4_count teL_X4_count tcL_X4_count ini_4 (by decide +kernel) ⟨by decide, by decide⟩) rfl rfl (Nat.le_of_ble_eq_true rfl) dL_law_465 (by rw [e1]; have := h3 _ _ _ hI2; omega) (by rw [e2]; have := h3 _ _ _ hI2; omega) hl.1 hz (fun H1 locs1 hz => ?_)
  rw [e1, e2]
  obtain ⟨_, _, _, _, _, _, hS⟩ := id hz
  refine lv_aload_n X.1 X.2.1 dL_law_468 rfl (lvg_at hl (i := 2) rfl) ?_
  refine lv_aload_n X.1 X.2.1 dL_law_469 rfl (lvg_at hl (i := 0) rfl) ?_
  refine lv_iload_n X.1 X.2.1 dL_law_470 rfl (lvg_at hl (i := 3) rfl) ?_
  refine lv_iconst (v := nI 1) X.1 X.2.1 dL_law_471 (by decide) ?_
  refine lv_iadd X.1 X.2.1 dL_law_472 ?_
  refine va_sld X.1 X.2.1 X.2.2.2.2.2.1 X.2.2.2.2.2.2.1 hbA hS (by rw [nI_add]; exact vp_in_nI (by omega) (by omega)) dL_law_473 ?_
  refine lr_i (As := [.int (xs (nI i + nI 1).toNatClampNeg)]) X (c_count l D cI cZ qr FU (xs (nI i + nI 1).toNatClampNeg) M) hF2 (cwVR (k := 1) X.2.2.2.2.1 tlL_66 tiL_X5_count teL_X5_count tcL_X5_count ini5 (by decide +kernel) ⟨Nat.le_of_ble_eq_true rfl, Nat.le_of_ble_eq_true rfl⟩) rfl rfl (Nat.le_of_ble_eq_true rfl) dL_law_474 (by have := h3 _ _ _ hI2; omega) (by have := h3 _ _ _ hI2; omega) hl.1 hz (fun H1 locs1 hz => ?_)
  exact lv_icmp_eq (tgt := 782) X.1 X.2.1 dL_law_477 (by decide) (fun _ => IH _ _ _ _ _ hI2 hz) (fun h => absurd rfl h)
theorem lop_newest (h1 : ∀ (S : CS) (k : Nat → Option CS) (M : MR) (x1 : Int32), Inv S k M → ∃ (r : Int32) (S' : CS) (M' : MR), f4_newest FU x1 S = some (r, S') ∧ fR_newest FU x1 M = some (r, M') ∧ Inv S' k M') (h3 : SimRoom Inv) (X : lC p s m meth c b L xs D cI cZ cO tk) (hi : i + 6 ≤ L) (hL : L ≤ 3072) (hI : Inv S k M) (hz : lZ s D cI cZ cO q qr S k M H locs) (hl : lv_has ls 4 [(0, .ref b), (1, .ref (q 50)), (2, .ref (qr 34)), (3, .int (nI i))]) (IH : ∀ S' k' M' H1 locs1, Inv S' k' M' → lZ s D cI cZ cO q qr S' k' M' H1 locs1 → W p l e room_1 s m #[Value.ref b] below meth c H1 locs1 (48 + cS S') (68674 + sS S') (lw_Z below #[Value.ref b] s) (F0 m 782 ls [])) : W p l e room_1 s m #[Value.ref b] below meth c H locs (48 + cS S) (68674 + sS S) (lw_Z below #[Value.ref b] s) (F0 m 482 ls []) := by
  have hbA : ¬ (fun x => s.heap.size ≤ x) b := Nat.not_le.mpr X.2.2.2.2.2.2.1
  obtain ⟨_, _, _, _, _, _, hS⟩ := id hz
  obtain ⟨r, S1, M1, hF1, hF2, hI2⟩ := h1 S k M (xs (nI i + nI 1).toNatClampNeg) hI
  have hm : le S S1 := mo4_newest FU (xs (nI i + nI 1).toNatClampNeg) S _ hF1
  have e1 : 48 + cS S + (cS S1 - cS S) = 48 + cS S1 := by have := hm.1; omega
  have e2 : 68674 + sS S + (sS S1 - sS S) = 68674 + sS S1 := by have := hm.2; omega
  refine lv_aload_n X.1 X.2.1 dL_law_482 rfl (lvg_at hl (i := 1) rfl) ?_
  refine lv_aload_n X.1 X.2.1 dL_law_483 rfl (lvg_at hl (i := 0) rfl) ?_
  refine lv_iload_n X.1 X.2.1 dL_law_484 rfl (lvg_at hl (i := 3) rfl) ?_
  refine lv_iconst (v := nI 1) X.1 X.2.1 dL_law_485 (by decide) ?_
  refine lv_iadd X.1 X.2.1 dL_law_486 ?_
  refine va_sld X.1 X.2.1 X.2.2.2.2.2.1 X.2.2.2.2.2.2.1 hbA hS (by rw [nI_add]; exact vp_in_nI (by omega) (by omega)) dL_law_487 ?_
  refine lc_i (As := [.int (xs (nI i + nI 1).toNatClampNeg)]) X (c4_newest (SF_ok tk) l D cI q FU (xs (nI i + nI 1).toNatClampNeg) S) hF1 (cwVC (fr := 13) (lo := 516) (k := 1) X.2.2.2.2.1 tlL_67 tiL_X4_newest teL_X4_newest tcL_X4_newest ini_4 (by decide +kernel) ⟨by decide, by decide⟩) rfl rfl (Nat.le_of_ble_eq_true rfl) dL_law_488 (by rw [e1]; have := h3 _ _ _ hI2; omega) (by rw [e2]; have := h3 _ _ _ hI2; omega) hl.1 hz (fun H1 locs1 hz => ?_)
  rw [e1, e2]
  obtain ⟨_, _, _, _, _, _, hS⟩ := id hz
  refine lv_aload_n X.1 X.2.1 dL_law_491 rfl (lvg_at hl (i := 2) rfl) ?_
  refine lv_aload_n X.1 X.2.1 dL_law_492 rfl (lvg_at hl (i := 0) rfl) ?_
  refine lv_iload_n X.1 X.2.1 dL_law_493 rfl (lvg_at hl (i := 3) rfl) ?_
  refine lv_iconst (v := nI 1) X.1 X.2.1 dL_law_494 (by decide) ?_
  refine lv_iadd X.1 X.2.1 dL_law_495 ?_
  refine va_sld X.1 X.2.1 X.2.2.2.2.2.1 X.2.2.2.2.2.2.1 hbA hS (by rw [nI_add]; exact vp_in_nI (by omega) (by omega)) dL_law_496 ?_
  refine lr_i (As := [.int (xs (nI i + nI 1).toNatClampNeg)]) X (c_newest l D cI cZ qr FU (xs (nI i + nI 1).toNatClampNeg) M) hF2 (cwVR (k := 1) X.2.2.2.2.1 tlL_70 tiL_X5_newest teL_X5_newest tcL_X5_newest ini5 (by decide +kernel) ⟨Nat.le_of_ble_eq_true rfl, Nat.le_of_ble_eq_true rfl⟩) rfl rfl (Nat.le_of_ble_eq_true rfl) dL_law_497 (by have := h3 _ _ _ hI2; omega) (by have := h3 _ _ _ hI2; omega) hl.1 hz (fun H1 locs1 hz => ?_)
  exact lv_icmp_eq (tgt := 782) X.1 X.2.1 dL_law_500 (by decide) (fun _ => IH _ _ _ _ _ hI2 hz) (fun h => absurd rfl h)
theorem lop_edition (h1 : ∀ (S : CS) (k : Nat → Option CS) (M : MR) (x1 : Int32) (x2 : Int32), Inv S k M → ∃ (r : Int32) (S' : CS) (M' : MR), f4_edition FU x1 x2 S = some (r, S') ∧ fR_edition FU x1 x2 M = some (r, M') ∧ Inv S' k M') (h3 : SimRoom Inv) (X : lC p s m meth c b L xs D cI cZ cO tk) (hi : i + 6 ≤ L) (hL : L ≤ 3072) (hI : Inv S k M) (hz : lZ s D cI cZ cO q qr S k M H locs) (hl : lv_has ls 4 [(0, .ref b), (1, .ref (q 50)), (2, .ref (qr 34)), (3, .int (nI i))]) (IH : ∀ S' k' M' H1 locs1, Inv S' k' M' → lZ s D cI cZ cO q qr S' k' M' H1 locs1 → W p l e room_1 s m #[Value.ref b] below meth c H1 locs1 (48 + cS S') (68674 + sS S') (lw_Z below #[Value.ref b] s) (F0 m 782 ls [])) : W p l e room_1 s m #[Value.ref b] below meth c H locs (48 + cS S) (68674 + sS S) (lw_Z below #[Value.ref b] s) (F0 m 505 ls []) := by
  have hbA : ¬ (fun x => s.heap.size ≤ x) b := Nat.not_le.mpr X.2.2.2.2.2.2.1
  obtain ⟨_, _, _, _, _, _, hS⟩ := id hz
  obtain ⟨r, S1, M1, hF1, hF2, hI2⟩ := h1 S k M (xs (nI i + nI 1).toNatClampNeg) (xs (nI i + nI 2).toNatClampNeg) hI
  have hm : le S S1 := mo4_edition FU (xs (nI i + nI 1).toNatClampNeg) (xs (nI i + nI 2).toNatClampNeg) S _ hF1
  have e1 : 48 + cS S + (cS S1 - cS S) = 48 + cS S1 := by have := hm.1; omega
  have e2 : 68674 + sS S + (sS S1 - sS S) = 68674 + sS S1 := by have := hm.2; omega
  refine lv_aload_n X.1 X.2.1 dL_law_505 rfl (lvg_at hl (i := 1) rfl) ?_
  refine lv_aload_n X.1 X.2.1 dL_law_506 rfl (lvg_at hl (i := 0) rfl) ?_
  refine lv_iload_n X.1 X.2.1 dL_law_507 rfl (lvg_at hl (i := 3) rfl) ?_
  refine lv_iconst (v := nI 1) X.1 X.2.1 dL_law_508 (by decide) ?_
  refine lv_iadd X.1 X.2.1 dL_law_509 ?_
  refine va_sld X.1 X.2.1 X.2.2.2.2.2.1 X.2.2.2.2.2.2.1 hbA hS (by rw [nI_add]; exact vp_in_nI (by omega) (by omega)) dL_law_510 ?_
  refine lv_aload_n X.1 X.2.1 dL_law_511 rfl (lvg_at hl (i := 0) rfl) ?_
  refine lv_iload_n X.1 X.2.1 dL_law_512 rfl (lvg_at hl (i := 3) rfl) ?_
  refine lv_iconst (v := nI 2) X.1 X.2.1 dL_law_513 (by decide) ?_
  refine lv_iadd X.1 X.2.1 dL_law_514 ?_
  refine va_sld X.1 X.2.1 X.2.2.2.2.2.1 X.2.2.2.2.2.2.1 hbA hS (by rw [nI_add]; exact vp_in_nI (by omega) (by omega)) dL_law_515 ?_
  refine lc_i (As := [.int (xs (nI i + nI 1).toNatClampNeg), .int (xs (nI i + nI 2).toNatClampNeg)]) X (c4_edition (SF_ok tk) l D cI q FU (xs (nI i + nI 1).toNatClampNeg) (xs (nI i + nI 2).toNatClampNeg) S) hF1 (cwVC (fr := 13) (lo := 516) (k := 2) X.2.2.2.2.1 tlL_71 tiL_X4_edition teL_X4_edition tcL_X4_edition ini_4 (by decide +kernel) ⟨by decide, by decide⟩) rfl rfl (Nat.le_of_ble_eq_true rfl) dL_law_516 (by rw [e1]; have := h3 _ _ _ hI2; omega) (by rw [e2]; have := h3 _ _ _ hI2; omega) hl.1 hz (fun H1 locs1 hz => ?_)
  rw [e1, e2]
  obtain ⟨_, _, _, _, _, _, hS⟩ := id hz
  refine lv_aload_n X.1 X.2.1 dL_law_519 rfl (lvg_at hl (i := 2) rfl) ?_
  refine lv_aload_n X.1 X.2.1 dL_law_520 rfl (lvg_at hl (i := 0) rfl) ?_
  refine lv_iload_n X.1 X.2.1 dL_law_521 rfl (lvg_at hl (i := 3) rfl) ?_
  refine lv_iconst (v := nI 1) X.1 X.2.1 dL_law_522 (by decide) ?_
  refine lv_iadd X.1 X.2.1 dL_law_523 ?_
  refine va_sld X.1 X.2.1 X.2.2.2.2.2.1 X.2.2.2.2.2.2.1 hbA hS (by rw [nI_add]; exact vp_in_nI (by omega) (by omega)) dL_law_524 ?_
  refine lv_aload_n X.1 X.2.1 dL_law_525 rfl (lvg_at hl (i := 0) rfl) ?_
  refine lv_iload_n X.1 X.2.1 dL_law_526 rfl (lvg_at hl (i := 3) rfl) ?_
  refine lv_iconst (v := nI 2) X.1 X.2.1 dL_law_527 (by decide) ?_
  refine lv_iadd X.1 X.2.1 dL_law_528 ?_
  refine va_sld X.1 X.2.1 X.2.2.2.2.2.1 X.2.2.2.2.2.2.1 hbA hS (by rw [nI_add]; exact vp_in_nI (by omega) (by omega)) dL_law_529 ?_
  refine lr_i (As := [.int (xs (nI i + nI 1).toNatClampNeg), .int (xs (nI i + nI 2).toNatClampNeg)]) X (c_edition l D cI cZ qr FU (xs (nI i + nI 1).toNatClampNeg) (xs (nI i + nI 2).toNatClampNeg) M) hF2 (cwVR (k := 2) X.2.2.2.2.1 tlL_74 tiL_X5_edition teL_X5_edition tcL_X5_edition ini5 (by decide +kernel) ⟨Nat.le_of_ble_eq_true rfl, Nat.le_of_ble_eq_true rfl⟩) rfl rfl (Nat.le_of_ble_eq_true rfl) dL_law_530 (by have := h3 _ _ _ hI2; omega) (by have := h3 _ _ _ hI2; omega) hl.1 hz (fun H1 locs1 hz => ?_)
  exact lv_icmp_eq (tgt := 782) X.1 X.2.1 dL_law_533 (by decide) (fun _ => IH _ _ _ _ _ hI2 hz) (fun h => absurd rfl h)
theorem lop_classOf (h1 : ∀ (S : CS) (k : Nat → Option CS) (M : MR) (x1 : Int32), Inv S k M → ∃ (r : Int32) (S' : CS) (M' : MR), f4_classOf FU x1 S = some (r, S') ∧ fR_classOf FU x1 M = some (r, M') ∧ Inv S' k M') (h3 : SimRoom Inv) (X : lC p s m meth c b L xs D cI cZ cO tk) (hi : i + 6 ≤ L) (hL : L ≤ 3072) (hI : Inv S k M) (hz : lZ s D cI cZ cO q qr S k M H locs) (hl : lv_has ls 4 [(0, .ref b), (1, .ref (q 50)), (2, .ref (qr 34)), (3, .int (nI i))]) (IH : ∀ S' k' M' H1 locs1, Inv S' k' M' → lZ s D cI cZ cO q qr S' k' M' H1 locs1 → W p l e room_1 s m #[Value.ref b] below meth c H1 locs1 (48 + cS S') (68674 + sS S') (lw_Z below #[Value.ref b] s) (F0 m 782 ls [])) : W p l e room_1 s m #[Value.ref b] below meth c H locs (48 + cS S) (68674 + sS S) (lw_Z below #[Value.ref b] s) (F0 m 538 ls []) := by
  have hbA : ¬ (fun x => s.heap.size ≤ x) b := Nat.not_le.mpr X.2.2.2.2.2.2.1
  obtain ⟨_, _, _, _, _, _, hS⟩ := id hz
  obtain ⟨r, S1, M1, hF1, hF2, hI2⟩ := h1 S k M (xs (nI i + nI 1).toNatClampNeg) hI
  have hm : le S S1 := mo4_classOf FU (xs (nI i + nI 1).toNatClampNeg) S _ hF1
  have e1 : 48 + cS S + (cS S1 - cS S) = 48 + cS S1 := by have := hm.1; omega
  have e2 : 68674 + sS S + (sS S1 - sS S) = 68674 + sS S1 := by have := hm.2; omega
  refine lv_aload_n X.1 X.2.1 dL_law_538 rfl (lvg_at hl (i := 1) rfl) ?_
  refine lv_aload_n X.1 X.2.1 dL_law_539 rfl (lvg_at hl (i := 0) rfl) ?_
  refine lv_iload_n X.1 X.2.1 dL_law_540 rfl (lvg_at hl (i := 3) rfl) ?_
  refine lv_iconst (v := nI 1) X.1 X.2.1 dL_law_541 (by decide) ?_
  refine lv_iadd X.1 X.2.1 dL_law_542 ?_
  refine va_sld X.1 X.2.1 X.2.2.2.2.2.1 X.2.2.2.2.2.2.1 hbA hS (by rw [nI_add]; exact vp_in_nI (by omega) (by omega)) dL_law_543 ?_
  refine lc_i (As := [.int (xs (nI i + nI 1).toNatClampNeg)]) X (c4_classOf (SF_ok tk) l D cI q FU (xs (nI i + nI 1).toNatClampNeg) S) hF1 (cwVC (fr := 13) (lo := 516) (k := 1) X.2.2.2.2.1 tlL_75 tiL_X4_classOf teL_X4_classOf tcL_X4_classOf ini_4 (by decide +kernel) ⟨by decide, by decide⟩) rfl rfl (Nat.le_of_ble_eq_true rfl) dL_law_544 (by rw [e1]; have := h3 _ _ _ hI2; omega) (by rw [e2]; have := h3 _ _ _ hI2; omega) hl.1 hz (fun H1 locs1 hz => ?_)
  rw [e1, e2]
  obtain ⟨_, _, _, _, _, _, hS⟩ := id hz
  refine lv_aload_n X.1 X.2.1 dL_law_547 rfl (lvg_at hl (i := 2) rfl) ?_
  refine lv_aload_n X.1 X.2.1 dL_law_548 rfl (lvg_at hl (i := 0) rfl) ?_
  refine lv_iload_n X.1 X.2.1 dL_law_549 rfl (lvg_at hl (i := 3) rfl) ?_
  refine lv_iconst (v := nI 1) X.1 X.2.1 dL_law_550 (by decide) ?_
  refine lv_iadd X.1 X.2.1 dL_law_551 ?_
  refine va_sld X.1 X.2.1 X.2.2.2.2.2.1 X.2.2.2.2.2.2.1 hbA hS (by rw [nI_add]; exact vp_in_nI (by omega) (by omega)) dL_law_552 ?_
  refine lr_i (As := [.int (xs (nI i + nI 1).toNatClampNeg)]) X (c_classOf l D cI cZ qr FU (xs (nI i + nI 1).toNatClampNeg) M) hF2 (cwVR (k := 1) X.2.2.2.2.1 tlL_78 tiL_X5_classOf teL_X5_classOf tcL_X5_classOf ini5 (by decide +kernel) ⟨Nat.le_of_ble_eq_true rfl, Nat.le_of_ble_eq_true rfl⟩) rfl rfl (Nat.le_of_ble_eq_true rfl) dL_law_553 (by have := h3 _ _ _ hI2; omega) (by have := h3 _ _ _ hI2; omega) hl.1 hz (fun H1 locs1 hz => ?_)
  exact lv_icmp_eq (tgt := 782) X.1 X.2.1 dL_law_556 (by decide) (fun _ => IH _ _ _ _ _ hI2 hz) (fun h => absurd rfl h)
theorem lop_field (h1 : ∀ (S : CS) (k : Nat → Option CS) (M : MR) (x1 : Int32) (x2 : Int32) (x3 : Int32), Inv S k M → ∃ (r : Int32) (S' : CS) (M' : MR), f4_field FU x1 x2 x3 S = some (r, S') ∧ fR_field FU x1 x2 x3 M = some (r, M') ∧ Inv S' k M') (h3 : SimRoom Inv) (X : lC p s m meth c b L xs D cI cZ cO tk) (hi : i + 6 ≤ L) (hL : L ≤ 3072) (hI : Inv S k M) (hz : lZ s D cI cZ cO q qr S k M H locs) (hl : lv_has ls 4 [(0, .ref b), (1, .ref (q 50)), (2, .ref (qr 34)), (3, .int (nI i))]) (IH : ∀ S' k' M' H1 locs1, Inv S' k' M' → lZ s D cI cZ cO q qr S' k' M' H1 locs1 → W p l e room_1 s m #[Value.ref b] below meth c H1 locs1 (48 + cS S') (68674 + sS S') (lw_Z below #[Value.ref b] s) (F0 m 782 ls [])) : W p l e room_1 s m #[Value.ref b] below meth c H locs (48 + cS S) (68674 + sS S) (lw_Z below #[Value.ref b] s) (F0 m 561 ls []) := by
  have hbA : ¬ (fun x => s.heap.size ≤ x) b := Nat.not_le.mpr X.2.2.2.2.2.2.1
  obtain ⟨_, _, _, _, _, _, hS⟩ := id hz
  obtain ⟨r, S1, M1, hF1, hF2, hI2⟩ := h1 S k M (xs (nI i + nI 1).toNatClampNeg) (xs (nI i + nI 2).toNatClampNeg) (xs (nI i + nI 3).toNatClampNeg) hI
  have hm : le S S1 := mo4_field FU (xs (nI i + nI 1).toNatClampNeg) (xs (nI i + nI 2).toNatClampNeg) (xs (nI i + nI 3).toNatClampNeg) S _ hF1
  have e1 : 48 + cS S + (cS S1 - cS S) = 48 + cS S1 := by have := hm.1; omega
  have e2 : 68674 + sS S + (sS S1 - sS S) = 68674 + sS S1 := by have := hm.2; omega
  refine lv_aload_n X.1 X.2.1 dL_law_561 rfl (lvg_at hl (i := 1) rfl) ?_
  refine lv_aload_n X.1 X.2.1 dL_law_562 rfl (lvg_at hl (i := 0) rfl) ?_
  refine lv_iload_n X.1 X.2.1 dL_law_563 rfl (lvg_at hl (i := 3) rfl) ?_
  refine lv_iconst (v := nI 1) X.1 X.2.1 dL_law_564 (by decide) ?_
  refine lv_iadd X.1 X.2.1 dL_law_565 ?_
  refine va_sld X.1 X.2.1 X.2.2.2.2.2.1 X.2.2.2.2.2.2.1 hbA hS (by rw [nI_add]; exact vp_in_nI (by omega) (by omega)) dL_law_566 ?_
  refine lv_aload_n X.1 X.2.1 dL_law_567 rfl (lvg_at hl (i := 0) rfl) ?_
  refine lv_iload_n X.1 X.2.1 dL_law_568 rfl (lvg_at hl (i := 3) rfl) ?_
  refine lv_iconst (v := nI 2) X.1 X.2.1 dL_law_569 (by decide) ?_
  refine lv_iadd X.1 X.2.1 dL_law_570 ?_
  refine va_sld X.1 X.2.1 X.2.2.2.2.2.1 X.2.2.2.2.2.2.1 hbA hS (by rw [nI_add]; exact vp_in_nI (by omega) (by omega)) dL_law_571 ?_
  refine lv_aload_n X.1 X.2.1 dL_law_572 rfl (lvg_at hl (i := 0) rfl) ?_
  refine lv_iload_n X.1 X.2.1 dL_law_573 rfl (lvg_at hl (i := 3) rfl) ?_
  refine lv_iconst (v := nI 3) X.1 X.2.1 dL_law_574 (by decide) ?_
  refine lv_iadd X.1 X.2.1 dL_law_575 ?_
  refine va_sld X.1 X.2.1 X.2.2.2.2.2.1 X.2.2.2.2.2.2.1 hbA hS (by rw [nI_add]; exact vp_in_nI (by omega) (by omega)) dL_law_576 ?_
  refine lc_i (As := [.int (xs (nI i + nI 1).toNatClampNeg), .int (xs (nI i + nI 2).toNatClampNeg), .int (xs (nI i + nI 3).toNatClampNeg)]) X (c4_field (SF_ok tk) l D cI q FU (xs (nI i + nI 1).toNatClampNeg) (xs (nI i + nI 2).toNatClampNeg) (xs (nI i + nI 3).toNatClampNeg) S) hF1 (cwVC (fr := 13) (lo := 516) (k := 3) X.2.2.2.2.1 tlL_79 tiL_X4_field teL_X4_field tcL_X4_field ini_4 (by decide +kernel) ⟨by decide, by decide⟩) rfl rfl (Nat.le_of_ble_eq_true rfl) dL_law_577 (by rw [e1]; have := h3 _ _ _ hI2; omega) (by rw [e2]; have := h3 _ _ _ hI2; omega) hl.1 hz (fun H1 locs1 hz => ?_)
  rw [e1, e2]
  obtain ⟨_, _, _, _, _, _, hS⟩ := id hz
  refine lv_aload_n X.1 X.2.1 dL_law_580 rfl (lvg_at hl (i := 2) rfl) ?_
  refine lv_aload_n X.1 X.2.1 dL_law_581 rfl (lvg_at hl (i := 0) rfl) ?_
  refine lv_iload_n X.1 X.2.1 dL_law_582 rfl (lvg_at hl (i := 3) rfl) ?_
  refine lv_iconst (v := nI 1) X.1 X.2.1 dL_law_583 (by decide) ?_
  refine lv_iadd X.1 X.2.1 dL_law_584 ?_
  refine va_sld X.1 X.2.1 X.2.2.2.2.2.1 X.2.2.2.2.2.2.1 hbA hS (by rw [nI_add]; exact vp_in_nI (by omega) (by omega)) dL_law_585 ?_
  refine lv_aload_n X.1 X.2.1 dL_law_586 rfl (lvg_at hl (i := 0) rfl) ?_
  refine lv_iload_n X.1 X.2.1 dL_law_587 rfl (lvg_at hl (i := 3) rfl) ?_
  refine lv_iconst (v := nI 2) X.1 X.2.1 dL_law_588 (by decide) ?_
  refine lv_iadd X.1 X.2.1 dL_law_589 ?_
  refine va_sld X.1 X.2.1 X.2.2.2.2.2.1 X.2.2.2.2.2.2.1 hbA hS (by rw [nI_add]; exact vp_in_nI (by omega) (by omega)) dL_law_590 ?_
  refine lv_aload_n X.1 X.2.1 dL_law_591 rfl (lvg_at hl (i := 0) rfl) ?_
  refine lv_iload_n X.1 X.2.1 dL_law_592 rfl (lvg_at hl (i := 3) rfl) ?_
  refine lv_iconst (v := nI 3) X.1 X.2.1 dL_law_593 (by decide) ?_
  refine lv_iadd X.1 X.2.1 dL_law_594 ?_
  refine va_sld X.1 X.2.1 X.2.2.2.2.2.1 X.2.2.2.2.2.2.1 hbA hS (by rw [nI_add]; exact vp_in_nI (by omega) (by omega)) dL_law_595 ?_
  refine lr_i (As := [.int (xs (nI i + nI 1).toNatClampNeg), .int (xs (nI i + nI 2).toNatClampNeg), .int (xs (nI i + nI 3).toNatClampNeg)]) X (c_field l D cI cZ qr FU (xs (nI i + nI 1).toNatClampNeg) (xs (nI i + nI 2).toNatClampNeg) (xs (nI i + nI 3).toNatClampNeg) M) hF2 (cwVR (k := 3) X.2.2.2.2.1 tlL_82 tiL_X5_field teL_X5_field tcL_X5_field ini5 (by decide +kernel) ⟨Nat.le_of_ble_eq_true rfl, Nat.le_of_ble_eq_true rfl⟩) rfl rfl (Nat.le_of_ble_eq_true rfl) dL_law_596 (by have := h3 _ _ _ hI2; omega) (by have := h3 _ _ _ hI2; omega) hl.1 hz (fun H1 locs1 hz => ?_)
  exact lv_icmp_eq (tgt := 782) X.1 X.2.1 dL_law_599 (by decide) (fun _ => IH _ _ _ _ _ hI2 hz) (fun h => absurd rfl h)
theorem lop_is (h1 : ∀ (S : CS) (k : Nat → Option CS) (M : MR) (x1 : Int32) (x2 : Int32), Inv S k M → ∃ (r : Int32) (S' : CS) (M' : MR), f4_is FU x1 x2 S = some (r, S') ∧ fR_is FU x1 x2 M = some (r, M') ∧ Inv S' k M') (h3 : SimRoom Inv) (X : lC p s m meth c b L xs D cI cZ cO tk) (hi : i + 6 ≤ L) (hL : L ≤ 3072) (hI : Inv S k M) (hz : lZ s D cI cZ cO q qr S k M H locs) (hl : lv_has ls 4 [(0, .ref b), (1, .ref (q 50)), (2, .ref (qr 34)), (3, .int (nI i))]) (IH : ∀ S' k' M' H1 locs1, Inv S' k' M' → lZ s D cI cZ cO q qr S' k' M' H1 locs1 → W p l e room_1 s m #[Value.ref b] below meth c H1 locs1 (48 + cS S') (68674 + sS S') (lw_Z below #[Value.ref b] s) (F0 m 782 ls [])) : W p l e room_1 s m #[Value.ref b] below meth c H locs (48 + cS S) (68674 + sS S) (lw_Z below #[Value.ref b] s) (F0 m 604 ls []) := by
  have hbA : ¬ (fun x => s.heap.size ≤ x) b := Nat.not_le.mpr X.2.2.2.2.2.2.1
  obtain ⟨_, _, _, _, _, _, hS⟩ := id hz
  obtain ⟨r, S1, M1, hF1, hF2, hI2⟩ := h1 S k M (xs (nI i + nI 1).toNatClampNeg) (xs (nI i + nI 2).toNatClampNeg) hI
  have hm : le S S1 := mo4_is FU (xs (nI i + nI 1).toNatClampNeg) (xs (nI i + nI 2).toNatClampNeg) S _ hF1
  have e1 : 48 + cS S + (cS S1 - cS S) = 48 + cS S1 := by have := hm.1; omega
  have e2 : 68674 + sS S + (sS S1 - sS S) = 68674 + sS S1 := by have := hm.2; omega
  refine lv_aload_n X.1 X.2.1 dL_law_604 rfl (lvg_at hl (i := 1) rfl) ?_
  refine lv_aload_n X.1 X.2.1 dL_law_605 rfl (lvg_at hl (i := 0) rfl) ?_
  refine lv_iload_n X.1 X.2.1 dL_law_606 rfl (lvg_at hl (i := 3) rfl) ?_
  refine lv_iconst (v := nI 1) X.1 X.2.1 dL_law_607 (by decide) ?_
  refine lv_iadd X.1 X.2.1 dL_law_608 ?_
  refine va_sld X.1 X.2.1 X.2.2.2.2.2.1 X.2.2.2.2.2.2.1 hbA hS (by rw [nI_add]; exact vp_in_nI (by omega) (by omega)) dL_law_609 ?_
  refine lv_aload_n X.1 X.2.1 dL_law_610 rfl (lvg_at hl (i := 0) rfl) ?_
  refine lv_iload_n X.1 X.2.1 dL_law_611 rfl (lvg_at hl (i := 3) rfl) ?_
  refine lv_iconst (v := nI 2) X.1 X.2.1 dL_law_612 (by decide) ?_
  refine lv_iadd X.1 X.2.1 dL_law_613 ?_
  refine va_sld X.1 X.2.1 X.2.2.2.2.2.1 X.2.2.2.2.2.2.1 hbA hS (by rw [nI_add]; exact vp_in_nI (by omega) (by omega)) dL_law_614 ?_
  refine lc_i (As := [.int (xs (nI i + nI 1).toNatClampNeg), .int (xs (nI i + nI 2).toNatClampNeg)]) X (c4_is (SF_ok tk) l D cI q FU (xs (nI i + nI 1).toNatClampNeg) (xs (nI i + nI 2).toNatClampNeg) S) hF1 (cwVC (fr := 13) (lo := 516) (k := 2) X.2.2.2.2.1 tlL_83 tiL_X4_is teL_X4_is tcL_X4_is ini_4 (by decide +kernel) ⟨by decide, by decide⟩) rfl rfl (Nat.le_of_ble_eq_true rfl) dL_law_615 (by rw [e1]; have := h3 _ _ _ hI2; omega) (by rw [e2]; have := h3 _ _ _ hI2; omega) hl.1 hz (fun H1 locs1 hz => ?_)
  rw [e1, e2]
  obtain ⟨_, _, _, _, _, _, hS⟩ := id hz
  refine lv_aload_n X.1 X.2.1 dL_law_618 rfl (lvg_at hl (i := 2) rfl) ?_
  refine lv_aload_n X.1 X.2.1 dL_law_619 rfl (lvg_at hl (i := 0) rfl) ?_
  refine lv_iload_n X.1 X.2.1 dL_law_620 rfl (lvg_at hl (i := 3) rfl) ?_
  refine lv_iconst (v := nI 1) X.1 X.2.1 dL_law_621 (by decide) ?_
  refine lv_iadd X.1 X.2.1 dL_law_622 ?_
  refine va_sld X.1 X.2.1 X.2.2.2.2.2.1 X.2.2.2.2.2.2.1 hbA hS (by rw [nI_add]; exact vp_in_nI (by omega) (by omega)) dL_law_623 ?_
  refine lv_aload_n X.1 X.2.1 dL_law_624 rfl (lvg_at hl (i := 0) rfl) ?_
  refine lv_iload_n X.1 X.2.1 dL_law_625 rfl (lvg_at hl (i := 3) rfl) ?_
  refine lv_iconst (v := nI 2) X.1 X.2.1 dL_law_626 (by decide) ?_
  refine lv_iadd X.1 X.2.1 dL_law_627 ?_
  refine va_sld X.1 X.2.1 X.2.2.2.2.2.1 X.2.2.2.2.2.2.1 hbA hS (by rw [nI_add]; exact vp_in_nI (by omega) (by omega)) dL_law_628 ?_
  refine lr_i (As := [.int (xs (nI i + nI 1).toNatClampNeg), .int (xs (nI i + nI 2).toNatClampNeg)]) X (c_is l D cI cZ qr FU (xs (nI i + nI 1).toNatClampNeg) (xs (nI i + nI 2).toNatClampNeg) M) hF2 (cwVR (k := 2) X.2.2.2.2.1 tlL_87 tiL_X5_is teL_X5_is tcL_X5_is ini5 (by decide +kernel) ⟨Nat.le_of_ble_eq_true rfl, Nat.le_of_ble_eq_true rfl⟩) rfl rfl (Nat.le_of_ble_eq_true rfl) dL_law_629 (by have := h3 _ _ _ hI2; omega) (by have := h3 _ _ _ hI2; omega) hl.1 hz (fun H1 locs1 hz => ?_)
  exact lv_icmp_eq (tgt := 782) X.1 X.2.1 dL_law_632 (by decide) (fun _ => IH _ _ _ _ _ hI2 hz) (fun h => absurd rfl h)
theorem lop_call (h1 : ∀ (S : CS) (k : Nat → Option CS) (M : MR) (x1 : Int32) (x2 : Int32) (x3 : Int32), Inv S k M → ∃ (r : Int32) (S' : CS) (M' : MR), f4_call FU x1 x2 x3 S = some (r, S') ∧ fR_call FU x1 x2 x3 M = some (r, M') ∧ Inv S' k M') (h3 : SimRoom Inv) (X : lC p s m meth c b L xs D cI cZ cO tk) (hi : i + 6 ≤ L) (hL : L ≤ 3072) (hI : Inv S k M) (hz : lZ s D cI cZ cO q qr S k M H locs) (hl : lv_has ls 4 [(0, .ref b), (1, .ref (q 50)), (2, .ref (qr 34)), (3, .int (nI i))]) (IH : ∀ S' k' M' H1 locs1, Inv S' k' M' → lZ s D cI cZ cO q qr S' k' M' H1 locs1 → W p l e room_1 s m #[Value.ref b] below meth c H1 locs1 (48 + cS S') (68674 + sS S') (lw_Z below #[Value.ref b] s) (F0 m 782 ls [])) : W p l e room_1 s m #[Value.ref b] below meth c H locs (48 + cS S) (68674 + sS S) (lw_Z below #[Value.ref b] s) (F0 m 637 ls []) := by
  have hbA : ¬ (fun x => s.heap.size ≤ x) b := Nat.not_le.mpr X.2.2.2.2.2.2.1
  obtain ⟨_, _, _, _, _, _, hS⟩ := id hz
  obtain ⟨r, S1, M1, hF1, hF2, hI2⟩ := h1 S k M (xs (nI i + nI 1).toNatClampNeg) (xs (nI i + nI 2).toNatClampNeg) (xs (nI i + nI 3).toNatClampNeg) hI
  have hm : le S S1 := mo4_call FU (xs (nI i + nI 1).toNatClampNeg) (xs (nI i + nI 2).toNatClampNeg) (xs (nI i + nI 3).toNatClampNeg) S _ hF1
  have e1 : 48 + cS S + (cS S1 - cS S) = 48 + cS S1 := by have := hm.1; omega
  have e2 : 68674 + sS S + (sS S1 - sS S) = 68674 + sS S1 := by have := hm.2; omega
  refine lv_aload_n X.1 X.2.1 dL_law_637 rfl (lvg_at hl (i := 1) rfl) ?_
  refine lv_aload_n X.1 X.2.1 dL_law_638 rfl (lvg_at hl (i := 0) rfl) ?_
  refine lv_iload_n X.1 X.2.1 dL_law_639 rfl (lvg_at hl (i := 3) rfl) ?_
  refine lv_iconst (v := nI 1) X.1 X.2.1 dL_law_640 (by decide) ?_
  refine lv_iadd X.1 X.2.1 dL_law_641 ?_
  refine va_sld X.1 X.2.1 X.2.2.2.2.2.1 X.2.2.2.2.2.2.1 hbA hS (by rw [nI_add]; exact vp_in_nI (by omega) (by omega)) dL_law_642 ?_
  refine lv_aload_n X.1 X.2.1 dL_law_643 rfl (lvg_at hl (i := 0) rfl) ?_
  refine lv_iload_n X.1 X.2.1 dL_law_644 rfl (lvg_at hl (i := 3) rfl) ?_
  refine lv_iconst (v := nI 2) X.1 X.2.1 dL_law_645 (by decide) ?_
  refine lv_iadd X.1 X.2.1 dL_law_646 ?_
  refine va_sld X.1 X.2.1 X.2.2.2.2.2.1 X.2.2.2.2.2.2.1 hbA hS (by rw [nI_add]; exact vp_in_nI (by omega) (by omega)) dL_law_647 ?_
  refine lv_aload_n X.1 X.2.1 dL_law_648 rfl (lvg_at hl (i := 0) rfl) ?_
  refine lv_iload_n X.1 X.2.1 dL_law_649 rfl (lvg_at hl (i := 3) rfl) ?_
  refine lv_iconst (v := nI 3) X.1 X.2.1 dL_law_650 (by decide) ?_
  refine lv_iadd X.1 X.2.1 dL_law_651 ?_
  refine va_sld X.1 X.2.1 X.2.2.2.2.2.1 X.2.2.2.2.2.2.1 hbA hS (by rw [nI_add]; exact vp_in_nI (by omega) (by omega)) dL_law_652 ?_
  refine lc_i (As := [.int (xs (nI i + nI 1).toNatClampNeg), .int (xs (nI i + nI 2).toNatClampNeg), .int (xs (nI i + nI 3).toNatClampNeg)]) X (c4_call (SF_ok tk) l D cI q FU (xs (nI i + nI 1).toNatClampNeg) (xs (nI i + nI 2).toNatClampNeg) (xs (nI i + nI 3).toNatClampNeg) S) hF1 (cwVC (fr := 13) (lo := 516) (k := 3) X.2.2.2.2.1 tlL_88 tiL_X4_call teL_X4_call tcL_X4_call ini_4 (by decide +kernel) ⟨by decide, by decide⟩) rfl rfl (Nat.le_of_ble_eq_true rfl) dL_law_653 (by rw [e1]; have := h3 _ _ _ hI2; omega) (by rw [e2]; have := h3 _ _ _ hI2; omega) hl.1 hz (fun H1 locs1 hz => ?_)
  rw [e1, e2]
  obtain ⟨_, _, _, _, _, _, hS⟩ := id hz
  refine lv_aload_n X.1 X.2.1 dL_law_656 rfl (lvg_at hl (i := 2) rfl) ?_
  refine lv_aload_n X.1 X.2.1 dL_law_657 rfl (lvg_at hl (i := 0) rfl) ?_
  refine lv_iload_n X.1 X.2.1 dL_law_658 rfl (lvg_at hl (i := 3) rfl) ?_
  refine lv_iconst (v := nI 1) X.1 X.2.1 dL_law_659 (by decide) ?_
  refine lv_iadd X.1 X.2.1 dL_law_660 ?_
  refine va_sld X.1 X.2.1 X.2.2.2.2.2.1 X.2.2.2.2.2.2.1 hbA hS (by rw [nI_add]; exact vp_in_nI (by omega) (by omega)) dL_law_661 ?_
  refine lv_aload_n X.1 X.2.1 dL_law_662 rfl (lvg_at hl (i := 0) rfl) ?_
  refine lv_iload_n X.1 X.2.1 dL_law_663 rfl (lvg_at hl (i := 3) rfl) ?_
  refine lv_iconst (v := nI 2) X.1 X.2.1 dL_law_664 (by decide) ?_
  refine lv_iadd X.1 X.2.1 dL_law_665 ?_
  refine va_sld X.1 X.2.1 X.2.2.2.2.2.1 X.2.2.2.2.2.2.1 hbA hS (by rw [nI_add]; exact vp_in_nI (by omega) (by omega)) dL_law_666 ?_
  refine lv_aload_n X.1 X.2.1 dL_law_667 rfl (lvg_at hl (i := 0) rfl) ?_
  refine lv_iload_n X.1 X.2.1 dL_law_668 rfl (lvg_at hl (i := 3) rfl) ?_
  refine lv_iconst (v := nI 3) X.1 X.2.1 dL_law_669 (by decide) ?_
  refine lv_iadd X.1 X.2.1 dL_law_670 ?_
  refine va_sld X.1 X.2.1 X.2.2.2.2.2.1 X.2.2.2.2.2.2.1 hbA hS (by rw [nI_add]; exact vp_in_nI (by omega) (by omega)) dL_law_671 ?_
  refine lr_i (As := [.int (xs (nI i + nI 1).toNatClampNeg), .int (xs (nI i + nI 2).toNatClampNeg), .int (xs (nI i + nI 3).toNatClampNeg)]) X (c_call l D cI cZ qr FU (xs (nI i + nI 1).toNatClampNeg) (xs (nI i + nI 2).toNatClampNeg) (xs (nI i + nI 3).toNatClampNeg) M) hF2 (cwVR (k := 3) X.2.2.2.2.1 tlL_91 tiL_X5_call teL_X5_call tcL_X5_call ini5 (by decide +kernel) ⟨Nat.le_of_ble_eq_true rfl, Nat.le_of_ble_eq_true rfl⟩) rfl rfl (Nat.le_of_ble_eq_true rfl) dL_law_672 (by have := h3 _ _ _ hI2; omega) (by have := h3 _ _ _ hI2; omega) hl.1 hz (fun H1 locs1 hz => ?_)
  exact lv_icmp_eq (tgt := 782) X.1 X.2.1 dL_law_675 (by decide) (fun _ => IH _ _ _ _ _ hI2 hz) (fun h => absurd rfl h)
theorem lop_came (h1 : ∀ (S : CS) (k : Nat → Option CS) (M : MR) (x1 : Int32), Inv S k M → ∃ (r : Int32) (S' : CS) (M' : MR), f4_came FU x1 S = some (r, S') ∧ fR_came FU x1 M = some (r, M') ∧ Inv S' k M') (h3 : SimRoom Inv) (X : lC p s m meth c b L xs D cI cZ cO tk) (hi : i + 6 ≤ L) (hL : L ≤ 3072) (hI : Inv S k M) (hz : lZ s D cI cZ cO q qr S k M H locs) (hl : lv_has ls 4 [(0, .ref b), (1, .ref (q 50)), (2, .ref (qr 34)), (3, .int (nI i))]) (IH : ∀ S' k' M' H1 locs1, Inv S' k' M' → lZ s D cI cZ cO q qr S' k' M' H1 locs1 → W p l e room_1 s m #[Value.ref b] below meth c H1 locs1 (48 + cS S') (68674 + sS S') (lw_Z below #[Value.ref b] s) (F0 m 782 ls [])) : W p l e room_1 s m #[Value.ref b] below meth c H locs (48 + cS S) (68674 + sS S) (lw_Z below #[Value.ref b] s) (F0 m 680 ls []) := by
  have hbA : ¬ (fun x => s.heap.size ≤ x) b := Nat.not_le.mpr X.2.2.2.2.2.2.1
  obtain ⟨_, _, _, _, _, _, hS⟩ := id hz
  obtain ⟨r, S1, M1, hF1, hF2, hI2⟩ := h1 S k M (xs (nI i + nI 1).toNatClampNeg) hI
  have hm : le S S1 := mo4_came FU (xs (nI i + nI 1).toNatClampNeg) S _ hF1
  have e1 : 48 + cS S + (cS S1 - cS S) = 48 + cS S1 := by have := hm.1; omega
  have e2 : 68674 + sS S + (sS S1 - sS S) = 68674 + sS S1 := by have := hm.2; omega
  refine lv_aload_n X.1 X.2.1 dL_law_680 rfl (lvg_at hl (i := 1) rfl) ?_
  refine lv_aload_n X.1 X.2.1 dL_law_681 rfl (lvg_at hl (i := 0) rfl) ?_
  refine lv_iload_n X.1 X.2.1 dL_law_682 rfl (lvg_at hl (i := 3) rfl) ?_
  refine lv_iconst (v := nI 1) X.1 X.2.1 dL_law_683 (by decide) ?_
  refine lv_iadd X.1 X.2.1 dL_law_684 ?_
  refine va_sld X.1 X.2.1 X.2.2.2.2.2.1 X.2.2.2.2.2.2.1 hbA hS (by rw [nI_add]; exact vp_in_nI (by omega) (by omega)) dL_law_685 ?_
  refine lc_i (As := [.int (xs (nI i + nI 1).toNatClampNeg)]) X (c4_came (SF_ok tk) l D cI q FU (xs (nI i + nI 1).toNatClampNeg) S) hF1 (cwVC (fr := 13) (lo := 516) (k := 1) X.2.2.2.2.1 tlL_92 tiL_X4_came teL_X4_came tcL_X4_came ini_4 (by decide +kernel) ⟨by decide, by decide⟩) rfl rfl (Nat.le_of_ble_eq_true rfl) dL_law_686 (by rw [e1]; have := h3 _ _ _ hI2; omega) (by rw [e2]; have := h3 _ _ _ hI2; omega) hl.1 hz (fun H1 locs1 hz => ?_)
  rw [e1, e2]
  obtain ⟨_, _, _, _, _, _, hS⟩ := id hz
  refine lv_aload_n X.1 X.2.1 dL_law_689 rfl (lvg_at hl (i := 2) rfl) ?_
  refine lv_aload_n X.1 X.2.1 dL_law_690 rfl (lvg_at hl (i := 0) rfl) ?_
  refine lv_iload_n X.1 X.2.1 dL_law_691 rfl (lvg_at hl (i := 3) rfl) ?_
  refine lv_iconst (v := nI 1) X.1 X.2.1 dL_law_692 (by decide) ?_
  refine lv_iadd X.1 X.2.1 dL_law_693 ?_
  refine va_sld X.1 X.2.1 X.2.2.2.2.2.1 X.2.2.2.2.2.2.1 hbA hS (by rw [nI_add]; exact vp_in_nI (by omega) (by omega)) dL_law_694 ?_
  refine lr_i (As := [.int (xs (nI i + nI 1).toNatClampNeg)]) X (c_came l D cI cZ qr FU (xs (nI i + nI 1).toNatClampNeg) M) hF2 (cwVR (k := 1) X.2.2.2.2.1 tlL_95 tiL_X5_came teL_X5_came tcL_X5_came ini5 (by decide +kernel) ⟨Nat.le_of_ble_eq_true rfl, Nat.le_of_ble_eq_true rfl⟩) rfl rfl (Nat.le_of_ble_eq_true rfl) dL_law_695 (by have := h3 _ _ _ hI2; omega) (by have := h3 _ _ _ hI2; omega) hl.1 hz (fun H1 locs1 hz => ?_)
  exact lv_icmp_eq (tgt := 782) X.1 X.2.1 dL_law_698 (by decide) (fun _ => IH _ _ _ _ _ hI2 hz) (fun h => absurd rfl h)
theorem lop_convert (h1 : ∀ (S : CS) (k : Nat → Option CS) (M : MR) (x1 : Int32) (x2 : Int32), Inv S k M → ∃ (r : Int32) (S' : CS) (M' : MR), f4_convert FU x1 x2 S = some (r, S') ∧ fR_convert FU x1 x2 M = some (r, M') ∧ Inv S' k M') (h3 : SimRoom Inv) (X : lC p s m meth c b L xs D cI cZ cO tk) (hi : i + 6 ≤ L) (hL : L ≤ 3072) (hI : Inv S k M) (hz : lZ s D cI cZ cO q qr S k M H locs) (hl : lv_has ls 4 [(0, .ref b), (1, .ref (q 50)), (2, .ref (qr 34)), (3, .int (nI i))]) (IH : ∀ S' k' M' H1 locs1, Inv S' k' M' → lZ s D cI cZ cO q qr S' k' M' H1 locs1 → W p l e room_1 s m #[Value.ref b] below meth c H1 locs1 (48 + cS S') (68674 + sS S') (lw_Z below #[Value.ref b] s) (F0 m 782 ls [])) : W p l e room_1 s m #[Value.ref b] below meth c H locs (48 + cS S) (68674 + sS S) (lw_Z below #[Value.ref b] s) (F0 m 703 ls []) := by
  have hbA : ¬ (fun x => s.heap.size ≤ x) b := Nat.not_le.mpr X.2.2.2.2.2.2.1
  obtain ⟨_, _, _, _, _, _, hS⟩ := id hz
  obtain ⟨r, S1, M1, hF1, hF2, hI2⟩ := h1 S k M (xs (nI i + nI 1).toNatClampNeg) (xs (nI i + nI 2).toNatClampNeg) hI
  have hm : le S S1 := mo4_convert FU (xs (nI i + nI 1).toNatClampNeg) (xs (nI i + nI 2).toNatClampNeg) S _ hF1
  have e1 : 48 + cS S + (cS S1 - cS S) = 48 + cS S1 := by have := hm.1; omega
  have e2 : 68674 + sS S + (sS S1 - sS S) = 68674 + sS S1 := by have := hm.2; omega
  refine lv_aload_n X.1 X.2.1 dL_law_703 rfl (lvg_at hl (i := 1) rfl) ?_
  refine lv_aload_n X.1 X.2.1 dL_law_704 rfl (lvg_at hl (i := 0) rfl) ?_
  refine lv_iload_n X.1 X.2.1 dL_law_705 rfl (lvg_at hl (i := 3) rfl) ?_
  refine lv_iconst (v := nI 1) X.1 X.2.1 dL_law_706 (by decide) ?_
  refine lv_iadd X.1 X.2.1 dL_law_707 ?_
  refine va_sld X.1 X.2.1 X.2.2.2.2.2.1 X.2.2.2.2.2.2.1 hbA hS (by rw [nI_add]; exact vp_in_nI (by omega) (by omega)) dL_law_708 ?_
  refine lv_aload_n X.1 X.2.1 dL_law_709 rfl (lvg_at hl (i := 0) rfl) ?_
  refine lv_iload_n X.1 X.2.1 dL_law_710 rfl (lvg_at hl (i := 3) rfl) ?_
  refine lv_iconst (v := nI 2) X.1 X.2.1 dL_law_711 (by decide) ?_
  refine lv_iadd X.1 X.2.1 dL_law_712 ?_
  refine va_sld X.1 X.2.1 X.2.2.2.2.2.1 X.2.2.2.2.2.2.1 hbA hS (by rw [nI_add]; exact vp_in_nI (by omega) (by omega)) dL_law_713 ?_
  refine lc_i (As := [.int (xs (nI i + nI 1).toNatClampNeg), .int (xs (nI i + nI 2).toNatClampNeg)]) X (c4_convert (SF_ok tk) l D cI q FU (xs (nI i + nI 1).toNatClampNeg) (xs (nI i + nI 2).toNatClampNeg) S) hF1 (cwVC (fr := 13) (lo := 516) (k := 2) X.2.2.2.2.1 tlL_96 tiL_X4_convert teL_X4_convert tcL_X4_convert ini_4 (by decide +kernel) ⟨by decide, by decide⟩) rfl rfl (Nat.le_of_ble_eq_true rfl) dL_law_714 (by rw [e1]; have := h3 _ _ _ hI2; omega) (by rw [e2]; have := h3 _ _ _ hI2; omega) hl.1 hz (fun H1 locs1 hz => ?_)
  rw [e1, e2]
  obtain ⟨_, _, _, _, _, _, hS⟩ := id hz
  refine lv_aload_n X.1 X.2.1 dL_law_717 rfl (lvg_at hl (i := 2) rfl) ?_
  refine lv_aload_n X.1 X.2.1 dL_law_718 rfl (lvg_at hl (i := 0) rfl) ?_
  refine lv_iload_n X.1 X.2.1 dL_law_719 rfl (lvg_at hl (i := 3) rfl) ?_
  refine lv_iconst (v := nI 1) X.1 X.2.1 dL_law_720 (by decide) ?_
  refine lv_iadd X.1 X.2.1 dL_law_721 ?_
  refine va_sld X.1 X.2.1 X.2.2.2.2.2.1 X.2.2.2.2.2.2.1 hbA hS (by rw [nI_add]; exact vp_in_nI (by omega) (by omega)) dL_law_722 ?_
  refine lv_aload_n X.1 X.2.1 dL_law_723 rfl (lvg_at hl (i := 0) rfl) ?_
  refine lv_iload_n X.1 X.2.1 dL_law_724 rfl (lvg_at hl (i := 3) rfl) ?_
  refine lv_iconst (v := nI 2) X.1 X.2.1 dL_law_725 (by decide) ?_
  refine lv_iadd X.1 X.2.1 dL_law_726 ?_
  refine va_sld X.1 X.2.1 X.2.2.2.2.2.1 X.2.2.2.2.2.2.1 hbA hS (by rw [nI_add]; exact vp_in_nI (by omega) (by omega)) dL_law_727 ?_
  refine lr_i (As := [.int (xs (nI i + nI 1).toNatClampNeg), .int (xs (nI i + nI 2).toNatClampNeg)]) X (c_convert l D cI cZ qr FU (xs (nI i + nI 1).toNatClampNeg) (xs (nI i + nI 2).toNatClampNeg) M) hF2 (cwVR (k := 2) X.2.2.2.2.1 tlL_99 tiL_X5_convert teL_X5_convert tcL_X5_convert ini5 (by decide +kernel) ⟨Nat.le_of_ble_eq_true rfl, Nat.le_of_ble_eq_true rfl⟩) rfl rfl (Nat.le_of_ble_eq_true rfl) dL_law_728 (by have := h3 _ _ _ hI2; omega) (by have := h3 _ _ _ hI2; omega) hl.1 hz (fun H1 locs1 hz => ?_)
  exact lv_icmp_eq (tgt := 782) X.1 X.2.1 dL_law_731 (by decide) (fun _ => IH _ _ _ _ _ hI2 hz) (fun h => absurd rfl h)
theorem lop_keep (h2 : SimKeep Inv) (h3 : SimRoom Inv) (X : lC p s m meth c b L xs D cI cZ cO tk) (hi : i + 6 ≤ L) (hL : L ≤ 3072) (hI : Inv S k M) (hz : lZ s D cI cZ cO q qr S k M H locs) (hl : lv_has ls 4 [(0, .ref b), (1, .ref (q 50)), (2, .ref (qr 34)), (3, .int (nI i))]) (IH : ∀ S' k' M' H1 locs1, Inv S' k' M' → lZ s D cI cZ cO q qr S' k' M' H1 locs1 → W p l e room_1 s m #[Value.ref b] below meth c H1 locs1 (48 + cS S') (68674 + sS S') (lw_Z below #[Value.ref b] s) (F0 m 782 ls [])) : W p l e room_1 s m #[Value.ref b] below meth c H locs (48 + cS S) (68674 + sS S) (lw_Z below #[Value.ref b] s) (F0 m 736 ls []) := by
  have hbA : ¬ (fun x => s.heap.size ≤ x) b := Nat.not_le.mpr X.2.2.2.2.2.2.1
  obtain ⟨_, _, _, _, _, _, hS⟩ := id hz
  obtain ⟨g1, g2, g3⟩ := h2
  refine lv_aload_n X.1 X.2.1 dL_law_736 rfl (lvg_at hl (i := 1) rfl) ?_
  refine lv_aload_n X.1 X.2.1 dL_law_737 rfl (lvg_at hl (i := 0) rfl) ?_
  refine lv_iload_n X.1 X.2.1 dL_law_738 rfl (lvg_at hl (i := 3) rfl) ?_
  refine lv_iconst (v := nI 1) X.1 X.2.1 dL_law_739 (by decide) ?_
  refine lv_iadd X.1 X.2.1 dL_law_740 ?_
  refine va_sld X.1 X.2.1 X.2.2.2.2.2.1 X.2.2.2.2.2.2.1 hbA hS (by rw [nI_add]; exact vp_in_nI (by omega) (by omega)) dL_law_741 ?_
  by_cases hbad : (xs (nI i + nI 1).toNatClampNeg) < 0 ∨ ¬ (xs (nI i + nI 1).toNatClampNeg) < nI 2
  · obtain ⟨q1, q2⟩ := g1 S k M _ hI hbad
    have hI2 := hI
    refine lk_bad_keep X hbad (Nat.le_of_ble_eq_true rfl) dL_law_742 (by have := h3 _ _ _ hI; omega) (by have := h3 _ _ _ hI; omega) hl.1 hz (fun H1 locs1 hz => ?_)
    rw [Nat.add_zero, Nat.add_zero]
    obtain ⟨_, _, _, _, _, _, hS⟩ := id hz
    refine lv_aload_n X.1 X.2.1 dL_law_745 rfl (lvg_at hl (i := 2) rfl) ?_
    refine lv_aload_n X.1 X.2.1 dL_law_746 rfl (lvg_at hl (i := 0) rfl) ?_
    refine lv_iload_n X.1 X.2.1 dL_law_747 rfl (lvg_at hl (i := 3) rfl) ?_
    refine lv_iconst (v := nI 1) X.1 X.2.1 dL_law_748 (by decide) ?_
    refine lv_iadd X.1 X.2.1 dL_law_749 ?_
    refine va_sld X.1 X.2.1 X.2.2.2.2.2.1 X.2.2.2.2.2.2.1 hbA hS (by rw [nI_add]; exact vp_in_nI (by omega) (by omega)) dL_law_750 ?_
    refine lr_i (As := [.int (xs (nI i + nI 1).toNatClampNeg)]) X (c_keep l D cI cZ qr FU (xs (nI i + nI 1).toNatClampNeg) M) q1 (cwVR (k := 1) X.2.2.2.2.1 tlL_103 tiL_X5_keep teL_X5_keep tcL_X5_keep ini5 (by decide +kernel) ⟨Nat.le_of_ble_eq_true rfl, Nat.le_of_ble_eq_true rfl⟩) rfl rfl (Nat.le_of_ble_eq_true rfl) dL_law_751 (by have := h3 _ _ _ hI2; omega) (by have := h3 _ _ _ hI2; omega) hl.1 hz (fun H1 locs1 hz => ?_)
    exact lv_icmp_eq (tgt := 782) X.1 X.2.1 dL_law_754 (by decide) (fun _ => IH _ _ _ _ _ hI2 hz) (fun h => absurd rfl h)
  · obtain ⟨z, hz2, hx⟩ : ∃ z : Nat, z < 2 ∧ (xs (nI i + nI 1).toNatClampNeg) = nI z := by
      have h := not_or.mp hbad
      exact vp_in_of (n := 2) (fun hh => hh.elim h.1 (fun h9 => by
        have h8 := Int32.lt_iff_toInt_lt.mp (Classical.not_not.mp h.2)
        rw [show (nI 2).toInt = (2 : Int) from by decide] at h8
        have h7 : (2 : Nat) ≤ ((xs (nI i + nI 1).toNatClampNeg)).toInt.toNat := h9
        omega)) (by decide)
    generalize hge : (xs (nI i + nI 1).toNatClampNeg) = y at hx ⊢
    subst hx
    cases hkz : k z with
    | none =>
      obtain ⟨_, hok, M1, hF2, hI2⟩ := g2 S k M z hI hz2 hkz
      refine lk_keepN X hz2 hkz hok (Nat.le_of_ble_eq_true rfl) dL_law_742 (by have := (h3 _ _ _ hI2).1; have e : cS (adG S (8 + cpC I00 S) (1032 + cpS I00 S)) = cS S + (8 + cpC I00 S) := rfl; omega) (by have := (h3 _ _ _ hI2).2; have e : sS (adG S (8 + cpC I00 S) (1032 + cpS I00 S)) = sS S + (1032 + cpS I00 S) := rfl; omega) hl.1 hz (fun H1 locs1 hz => ?_)
      rw [Nat.add_assoc, Nat.add_assoc]
      show W p l e room_1 s m #[Value.ref b] below meth c H1 locs1 (48 + cS (adG S (8 + cpC I00 S) (1032 + cpS I00 S))) (68674 + sS (adG S (8 + cpC I00 S) (1032 + cpS I00 S))) (lw_Z below #[Value.ref b] s) _
      obtain ⟨_, _, _, _, _, _, hS⟩ := id hz
      refine lv_aload_n X.1 X.2.1 dL_law_745 rfl (lvg_at hl (i := 2) rfl) ?_
      refine lv_aload_n X.1 X.2.1 dL_law_746 rfl (lvg_at hl (i := 0) rfl) ?_
      refine lv_iload_n X.1 X.2.1 dL_law_747 rfl (lvg_at hl (i := 3) rfl) ?_
      refine lv_iconst (v := nI 1) X.1 X.2.1 dL_law_748 (by decide) ?_
      refine lv_iadd X.1 X.2.1 dL_law_749 ?_
      refine va_sld X.1 X.2.1 X.2.2.2.2.2.1 X.2.2.2.2.2.2.1 hbA hS (by rw [nI_add]; exact vp_in_nI (by omega) (by omega)) dL_law_750 ?_
      rw [hge]
      refine lr_i (As := [.int (nI z)]) X (c_keep l D cI cZ qr FU (nI z) M) hF2 (cwVR (k := 1) X.2.2.2.2.1 tlL_103 tiL_X5_keep teL_X5_keep tcL_X5_keep ini5 (by decide +kernel) ⟨Nat.le_of_ble_eq_true rfl, Nat.le_of_ble_eq_true rfl⟩) rfl rfl (Nat.le_of_ble_eq_true rfl) dL_law_751 (by have := h3 _ _ _ hI2; omega) (by have := h3 _ _ _ hI2; omega) hl.1 hz (fun H1 locs1 hz => ?_)
      exact lv_icmp_eq (tgt := 782) X.1 X.2.1 dL_law_754 (by decide) (fun _ => IH _ _ _ _ _ hI2 hz) (fun h => absurd rfl h)
    | some I =>
      obtain ⟨hok, _, ⟨M1, hF2, hI2⟩, _⟩ := g3 S k M z I hI hz2 hkz
      have e1 : cS (adG S (cpC I S) (cpS I S)) = cS S + cpC I S := rfl
      have e2 : sS (adG S (cpC I S) (cpS I S)) = sS S + cpS I S := rfl
      refine lk_keepE X hz2 hkz hok (Nat.le_of_ble_eq_true rfl) dL_law_742 (by have := (h3 _ _ _ hI2).1; omega) (by have := (h3 _ _ _ hI2).2; omega) hl.1 hz (fun H1 locs1 hz => ?_)
      rw [Nat.add_assoc, Nat.add_assoc, ← e1, ← e2]
      obtain ⟨_, _, _, _, _, _, hS⟩ := id hz
      refine lv_aload_n X.1 X.2.1 dL_law_745 rfl (lvg_at hl (i := 2) rfl) ?_
      refine lv_aload_n X.1 X.2.1 dL_law_746 rfl (lvg_at hl (i := 0) rfl) ?_
      refine lv_iload_n X.1 X.2.1 dL_law_747 rfl (lvg_at hl (i := 3) rfl) ?_
      refine lv_iconst (v := nI 1) X.1 X.2.1 dL_law_748 (by decide) ?_
      refine lv_iadd X.1 X.2.1 dL_law_749 ?_
      refine va_sld X.1 X.2.1 X.2.2.2.2.2.1 X.2.2.2.2.2.2.1 hbA hS (by rw [nI_add]; exact vp_in_nI (by omega) (by omega)) dL_law_750 ?_
      rw [hge]
      refine lr_i (As := [.int (nI z)]) X (c_keep l D cI cZ qr FU (nI z) M) hF2 (cwVR (k := 1) X.2.2.2.2.1 tlL_103 tiL_X5_keep teL_X5_keep tcL_X5_keep ini5 (by decide +kernel) ⟨Nat.le_of_ble_eq_true rfl, Nat.le_of_ble_eq_true rfl⟩) rfl rfl (Nat.le_of_ble_eq_true rfl) dL_law_751 (by have := h3 _ _ _ hI2; omega) (by have := h3 _ _ _ hI2; omega) hl.1 hz (fun H1 locs1 hz => ?_)
      exact lv_icmp_eq (tgt := 782) X.1 X.2.1 dL_law_754 (by decide) (fun _ => IH _ _ _ _ _ hI2 hz) (fun h => absurd rfl h)
theorem lop_back (h2 : SimKeep Inv) (h3 : SimRoom Inv) (X : lC p s m meth c b L xs D cI cZ cO tk) (hi : i + 6 ≤ L) (hL : L ≤ 3072) (hI : Inv S k M) (hz : lZ s D cI cZ cO q qr S k M H locs) (hl : lv_has ls 4 [(0, .ref b), (1, .ref (q 50)), (2, .ref (qr 34)), (3, .int (nI i))]) (IH : ∀ S' k' M' H1 locs1, Inv S' k' M' → lZ s D cI cZ cO q qr S' k' M' H1 locs1 → W p l e room_1 s m #[Value.ref b] below meth c H1 locs1 (48 + cS S') (68674 + sS S') (lw_Z below #[Value.ref b] s) (F0 m 782 ls [])) : W p l e room_1 s m #[Value.ref b] below meth c H locs (48 + cS S) (68674 + sS S) (lw_Z below #[Value.ref b] s) (F0 m 759 ls []) := by
  have hbA : ¬ (fun x => s.heap.size ≤ x) b := Nat.not_le.mpr X.2.2.2.2.2.2.1
  obtain ⟨_, _, _, _, _, _, hS⟩ := id hz
  obtain ⟨g1, g2, g3⟩ := h2
  refine lv_aload_n X.1 X.2.1 dL_law_759 rfl (lvg_at hl (i := 1) rfl) ?_
  refine lv_aload_n X.1 X.2.1 dL_law_760 rfl (lvg_at hl (i := 0) rfl) ?_
  refine lv_iload_n X.1 X.2.1 dL_law_761 rfl (lvg_at hl (i := 3) rfl) ?_
  refine lv_iconst (v := nI 1) X.1 X.2.1 dL_law_762 (by decide) ?_
  refine lv_iadd X.1 X.2.1 dL_law_763 ?_
  refine va_sld X.1 X.2.1 X.2.2.2.2.2.1 X.2.2.2.2.2.2.1 hbA hS (by rw [nI_add]; exact vp_in_nI (by omega) (by omega)) dL_law_764 ?_
  by_cases hbad : (xs (nI i + nI 1).toNatClampNeg) < 0 ∨ ¬ (xs (nI i + nI 1).toNatClampNeg) < nI 2
  · obtain ⟨q1, q2⟩ := g1 S k M _ hI hbad
    have hI2 := hI
    refine lk_bad_back X hbad (Nat.le_of_ble_eq_true rfl) dL_law_765 (by have := h3 _ _ _ hI; omega) (by have := h3 _ _ _ hI; omega) hl.1 hz (fun H1 locs1 hz => ?_)
    rw [Nat.add_zero, Nat.add_zero]
    obtain ⟨_, _, _, _, _, _, hS⟩ := id hz
    refine lv_aload_n X.1 X.2.1 dL_law_768 rfl (lvg_at hl (i := 2) rfl) ?_
    refine lv_aload_n X.1 X.2.1 dL_law_769 rfl (lvg_at hl (i := 0) rfl) ?_
    refine lv_iload_n X.1 X.2.1 dL_law_770 rfl (lvg_at hl (i := 3) rfl) ?_
    refine lv_iconst (v := nI 1) X.1 X.2.1 dL_law_771 (by decide) ?_
    refine lv_iadd X.1 X.2.1 dL_law_772 ?_
    refine va_sld X.1 X.2.1 X.2.2.2.2.2.1 X.2.2.2.2.2.2.1 hbA hS (by rw [nI_add]; exact vp_in_nI (by omega) (by omega)) dL_law_773 ?_
    refine lr_i (As := [.int (xs (nI i + nI 1).toNatClampNeg)]) X (c_back l D cI cZ qr FU (xs (nI i + nI 1).toNatClampNeg) M) q2 (cwVR (k := 1) X.2.2.2.2.1 tlL_107 tiL_X5_back teL_X5_back tcL_X5_back ini5 (by decide +kernel) ⟨Nat.le_of_ble_eq_true rfl, Nat.le_of_ble_eq_true rfl⟩) rfl rfl (Nat.le_of_ble_eq_true rfl) dL_law_774 (by have := h3 _ _ _ hI2; omega) (by have := h3 _ _ _ hI2; omega) hl.1 hz (fun H1 locs1 hz => ?_)
    exact lv_icmp_eq (tgt := 782) X.1 X.2.1 dL_law_777 (by decide) (fun _ => IH _ _ _ _ _ hI2 hz) (fun h => absurd rfl h)
  · obtain ⟨z, hz2, hx⟩ : ∃ z : Nat, z < 2 ∧ (xs (nI i + nI 1).toNatClampNeg) = nI z := by
      have h := not_or.mp hbad
      exact vp_in_of (n := 2) (fun hh => hh.elim h.1 (fun h9 => by
        have h8 := Int32.lt_iff_toInt_lt.mp (Classical.not_not.mp h.2)
        rw [show (nI 2).toInt = (2 : Int) from by decide] at h8
        have h7 : (2 : Nat) ≤ ((xs (nI i + nI 1).toNatClampNeg)).toInt.toNat := h9
        omega)) (by decide)
    generalize hge : (xs (nI i + nI 1).toNatClampNeg) = y at hx ⊢
    subst hx
    cases hkz : k z with
    | none =>
      obtain ⟨hF2, _⟩ := g2 S k M z hI hz2 hkz
      have hI2 := hI
      refine lk_backN X hz2 hkz (Nat.le_of_ble_eq_true rfl) dL_law_765 (by have := h3 _ _ _ hI; omega) (by have := h3 _ _ _ hI; omega) hl.1 hz (fun H1 locs1 hz => ?_)
      rw [Nat.add_zero, Nat.add_zero]
      obtain ⟨_, _, _, _, _, _, hS⟩ := id hz
      refine lv_aload_n X.1 X.2.1 dL_law_768 rfl (lvg_at hl (i := 2) rfl) ?_
      refine lv_aload_n X.1 X.2.1 dL_law_769 rfl (lvg_at hl (i := 0) rfl) ?_
      refine lv_iload_n X.1 X.2.1 dL_law_770 rfl (lvg_at hl (i := 3) rfl) ?_
      refine lv_iconst (v := nI 1) X.1 X.2.1 dL_law_771 (by decide) ?_
      refine lv_iadd X.1 X.2.1 dL_law_772 ?_
      refine va_sld X.1 X.2.1 X.2.2.2.2.2.1 X.2.2.2.2.2.2.1 hbA hS (by rw [nI_add]; exact vp_in_nI (by omega) (by omega)) dL_law_773 ?_
      rw [hge]
      refine lr_i (As := [.int (nI z)]) X (c_back l D cI cZ qr FU (nI z) M) hF2 (cwVR (k := 1) X.2.2.2.2.1 tlL_107 tiL_X5_back teL_X5_back tcL_X5_back ini5 (by decide +kernel) ⟨Nat.le_of_ble_eq_true rfl, Nat.le_of_ble_eq_true rfl⟩) rfl rfl (Nat.le_of_ble_eq_true rfl) dL_law_774 (by have := h3 _ _ _ hI2; omega) (by have := h3 _ _ _ hI2; omega) hl.1 hz (fun H1 locs1 hz => ?_)
      exact lv_icmp_eq (tgt := 782) X.1 X.2.1 dL_law_777 (by decide) (fun _ => IH _ _ _ _ _ hI2 hz) (fun h => absurd rfl h)
    | some I =>
      obtain ⟨_, hok, _, M1, hF2, hI2⟩ := g3 S k M z I hI hz2 hkz
      have e1 : cS (cpI S I) = cS S + cpC S I := rfl
      have e2 : sS (cpI S I) = sS S + cpS S I := rfl
      refine lk_backE X hz2 hkz hok (Nat.le_of_ble_eq_true rfl) dL_law_765 (by have := (h3 _ _ _ hI2).1; omega) (by have := (h3 _ _ _ hI2).2; omega) hl.1 hz (fun H1 locs1 hz => ?_)
      rw [Nat.add_assoc, Nat.add_assoc, ← e1, ← e2]
      obtain ⟨_, _, _, _, _, _, hS⟩ := id hz
      refine lv_aload_n X.1 X.2.1 dL_law_768 rfl (lvg_at hl (i := 2) rfl) ?_
      refine lv_aload_n X.1 X.2.1 dL_law_769 rfl (lvg_at hl (i := 0) rfl) ?_
      refine lv_iload_n X.1 X.2.1 dL_law_770 rfl (lvg_at hl (i := 3) rfl) ?_
      refine lv_iconst (v := nI 1) X.1 X.2.1 dL_law_771 (by decide) ?_
      refine lv_iadd X.1 X.2.1 dL_law_772 ?_
      refine va_sld X.1 X.2.1 X.2.2.2.2.2.1 X.2.2.2.2.2.2.1 hbA hS (by rw [nI_add]; exact vp_in_nI (by omega) (by omega)) dL_law_773 ?_
      rw [hge]
      refine lr_i (As := [.int (nI z)]) X (c_back l D cI cZ qr FU (nI z) M) hF2 (cwVR (k := 1) X.2.2.2.2.1 tlL_107 tiL_X5_back teL_X5_back tcL_X5_back ini5 (by decide +kernel) ⟨Nat.le_of_ble_eq_true rfl, Nat.le_of_ble_eq_true rfl⟩) rfl rfl (Nat.le_of_ble_eq_true rfl) dL_law_774 (by have := h3 _ _ _ hI2; omega) (by have := h3 _ _ _ hI2; omega) hl.1 hz (fun H1 locs1 hz => ?_)
      exact lv_icmp_eq (tgt := 782) X.1 X.2.1 dL_law_777 (by decide) (fun _ => IH _ _ _ _ _ hI2 hz) (fun h => absurd rfl h)
end LO
