theorem i_cases (x : Int32) : x < 0 ∨ ∃ m, m < 2147483648 ∧ x = nI m := by
  by_cases h : x < 0
  · exact Or.inl h
  · right
    rw [Int32.lt_iff_toInt_lt] at h
    have h0 : (0 : Int32).toInt = 0 := by decide
    have hl := Int32.toInt_lt x
    refine ⟨x.toInt.toNat, by omega, ?_⟩
    rw [← Int32.toInt_inj, nI_toInt (by omega)]
    omega
-- conditions that are settled
theorem y_lt {a b : Nat} (h : a < b) (hb : b < 2147483648) : (nI a < nI b) = True := eq_true (nI_lt h hb)
theorem y_nlt {a b : Nat} (h : b ≤ a) (hb : a < 2147483648) : (nI a < nI b) = False := eq_false (nI_nlt h hb)
theorem y_le {a b : Nat} (h : a ≤ b) (hb : b < 2147483648) : (nI a ≤ nI b) = True := eq_true (nI_le h hb)
theorem y_nle {a b : Nat} (h : b < a) (hb : a < 2147483648) : (nI a ≤ nI b) = False := eq_false (nI_ge h hb)
theorem y_ne {a b : Nat} (h : a ≠ b) (ha : a < 2147483648) (hb : b < 2147483648) : (nI a = nI b) = False := eq_false (fun e => h ((nI_eq ha hb).mp e))
theorem y_eq {a b : Nat} (h : a = b) : (nI a = nI b) = True := eq_true (by rw [h])
theorem y_n0 {a : Nat} (h : 0 < a) (ha : a < 2147483648) : (nI a = 0) = False := eq_false (fun e => by rw [← nI_0, nI_eq ha (by omega)] at e; omega)
theorem y_00 : (nI 0 = 0) = True := eq_true nI_0
theorem y_l0 {a : Nat} (ha : a < 2147483648) : (nI a < 0) = False := eq_false (nI_pos ha)
theorem y_0l {a : Nat} (ha : a < 2147483648) : (0 ≤ nI a) = True := eq_true (nI_pos' ha)
theorem y_le0 {a : Nat} (h : 0 < a) (ha : a < 2147483648) : (nI a ≤ 0) = False := eq_false (nI_nle h ha)
theorem y_m1 {a : Nat} (ha : a < 2147483648) : (nI a = -1) = False := eq_false (fun e => m1_n a ha e.symm)
theorem y_m1' {a : Nat} (ha : a < 2147483648) : (-1 = nI a) = False := eq_false (m1_n a ha)
theorem y_ml : ((-1 : Int32) < 0) = True := eq_true (by decide)
theorem y_m0 : ((-1 : Int32) = 0) = False := eq_false (by decide)
theorem y_0m : ((0 : Int32) ≤ -1) = False := eq_false (by decide)
theorem y_mm : ((-1 : Int32) = -1) = True := eq_true rfl
theorem s_if {c d : Prop} [Decidable c] [Decidable d] {α : Type} {a b : α} (h : c = d) : (if c then a else b) = (if d then a else b) := by subst h; congr
theorem p1_m1 (x : Int32) : x + nI 1 - nI 1 = x := by
  rw [Int32.add_sub_cancel]
abbrev Im : Type := Nat × Nat × Nat × (Nat → Nat → Int32) × (Nat → Nat → Int32) × (Nat → Nat → Int32) × (Nat → Int32)
abbrev bC (B : Im) : Nat := B.1
abbrev bE (B : Im) : Nat := B.2.1
abbrev bO (B : Im) : Nat := B.2.2.1
abbrev bce (B : Im) : Nat → Nat → Int32 := B.2.2.2.1
abbrev bed (B : Im) : Nat → Nat → Int32 := B.2.2.2.2.1
abbrev bob (B : Im) : Nat → Nat → Int32 := B.2.2.2.2.2.1
abbrev bnw (B : Im) : Nat → Int32 := B.2.2.2.2.2.2
def im (x : X) : Im := (x.2.1 5, x.2.1 6, x.2.1 7, x.2.2.1 5, x.2.2.1 6, x.2.2.1 7, x.1 20)
def cnt (P : Nat → Bool) : Nat → Nat
  | 0 => 0
  | n + 1 => cnt P n + (if P n = true then 1 else 0)
theorem cnt_le (P : Nat → Bool) : ∀ n, cnt P n ≤ n
  | 0 => Nat.le_refl _
  | n + 1 => by
    have := cnt_le P n
    unfold cnt
    split <;> omega
theorem cnt_congr {P P' : Nat → Bool} : ∀ n, (∀ i, i < n → P i = P' i) → cnt P n = cnt P' n
  | 0, _ => rfl
  | n + 1, h => by
    unfold cnt
    rw [cnt_congr n (fun i hi => h i (by omega)), h n (by omega)]
def cntO (B : Im) (e : Nat) : Nat := cnt (fun o => decide (bob B o 0 = nI e)) (bO B)
-- ===== how the reference's one row of ints lies against the class's tables =====
/-- what was noted of a cell's last run, and what it leaned on; column 125 lies behind the table: 0 all is noted, 1 the leans are, 2 nothing is -/
def relN (r h : Nat → Int32) : Prop := h 3 = r 0 ∧ h 4 = r 1 ∧ h 5 = r 2 ∧ h 6 = r 3 ∧ h 7 = r 4 + nI 1 ∧ ∀ i, i < 20 → nI i < r 3 → h (71 + 2 * i) = r (85 + i) ∧ h (72 + 2 * i) = r (105 + i)
def relL (r h : Nat → Int32) : Prop := h 8 = r 7 ∧ ∀ i, i < 16 → nI i < r 7 → h (10 + i) = r (69 + i)
def relC (r h : Nat → Int32) : Prop := h 0 = r 5 ∧ h 1 = r 6 ∧ h 2 = r 8 ∧ (∀ i, i < 60 → nI i < r 8 → h (112 + i) = r (9 + i)) ∧ (¬ r 125 = nI 2 → relL r h) ∧ (r 125 = nI 0 → relN r h)
def relE (r h : Nat → Int32) : Prop := h 0 = r 0 ∧ h 1 = r 2 ∧ h 2 = r 1 ∧ h 3 = r 3 ∧ h 4 = r 4 ∧ h 5 = r 6 ∧ (r 2 = nI 1 → h 7 = r 8 ∧ ∀ i, i < 60 → nI i < r 8 → h (8 + i) = r (44 + i))
def relO (r h : Nat → Int32) : Prop := h 0 = r 0 ∧ ∀ f, f < 10 → h (1 + f) = r (1 + f) + nI 1 ∧ h (11 + f) = r (11 + f)
theorem relC_c {r r' h h' : Nat → Int32} (k : relC r h) (hr : ∀ i, i < 126 → r' i = r i) (hh : ∀ i, i < 180 → h' i = h i) : relC r' h' := by
  obtain ⟨a0, a1, a2, a3, a4, a5⟩ := k
  refine ⟨?_, ?_, ?_, fun i hi hl => ?_, fun hf => ?_, fun hf => ?_⟩
  · rw [hh 0 (by omega), hr 5 (by omega), a0]
  · rw [hh 1 (by omega), hr 6 (by omega), a1]
  · rw [hh 2 (by omega), hr 8 (by omega), a2]
  · rw [hr 8 (by omega)] at hl
    rw [hh _ (by omega), hr _ (by omega), a3 i hi hl]
  · rw [hr 125 (by omega)] at hf
    obtain ⟨b1, b2⟩ := a4 hf
    refine ⟨by rw [hh 8 (by omega), hr 7 (by omega), b1], fun i hi hl => ?_⟩
    rw [hr 7 (by omega)] at hl
    rw [hh _ (by omega), hr _ (by omega), b2 i hi hl]
  · rw [hr 125 (by omega)] at hf
    obtain ⟨b3, b4, b5, b6, b7, b8⟩ := a5 hf
    refine ⟨?_, ?_, ?_, ?_, ?_, fun i hi hl => ?_⟩
    · rw [hh 3 (by omega), hr 0 (by omega), b3]
    · rw [hh 4 (by omega), hr 1 (by omega), b4]
    · rw [hh 5 (by omega), hr 2 (by omega), b5]
    · rw [hh 6 (by omega), hr 3 (by omega), b6]
    · rw [hh 7 (by omega), hr 4 (by omega), b7]
    · rw [hr 3 (by omega)] at hl
      rw [hh _ (by omega), hh _ (by omega), hr _ (by omega), hr _ (by omega)]
      exact b8 i hi hl
theorem relE_c {r r' h h' : Nat → Int32} (k : relE r h) (hr : ∀ i, i < 104 → r' i = r i) (hh : ∀ i, i < 70 → i ≠ 6 → h' i = h i) : relE r' h' := by
  obtain ⟨a0, a1, a2, a3, a4, a5, a6⟩ := k
  refine ⟨?_, ?_, ?_, ?_, ?_, ?_, fun hl => ?_⟩
  · rw [hh 0 (by omega) (by omega), hr 0 (by omega), a0]
  · rw [hh 1 (by omega) (by omega), hr 2 (by omega), a1]
  · rw [hh 2 (by omega) (by omega), hr 1 (by omega), a2]
  · rw [hh 3 (by omega) (by omega), hr 3 (by omega), a3]
  · rw [hh 4 (by omega) (by omega), hr 4 (by omega), a4]
  · rw [hh 5 (by omega) (by omega), hr 6 (by omega), a5]
  · rw [hr 2 (by omega)] at hl
    refine ⟨?_, fun i hi hl2 => ?_⟩
    · rw [hh 7 (by omega) (by omega), hr 8 (by omega), (a6 hl).1]
    · rw [hr 8 (by omega)] at hl2
      rw [hh _ (by omega) (by omega), hr _ (by omega), (a6 hl).2 i hi hl2]
theorem relO_c {r r' h h' : Nat → Int32} (k : relO r h) (hr : ∀ i, i < 21 → r' i = r i) (hh : ∀ i, i < 21 → h' i = h i) : relO r' h' := by
  obtain ⟨a0, a1⟩ := k
  refine ⟨?_, fun f hf => ⟨?_, ?_⟩⟩
  · rw [hh 0 (by omega), hr 0 (by omega), a0]
  · rw [hh _ (by omega), hr _ (by omega), (a1 f hf).1]
  · rw [hh _ (by omega), hr _ (by omega), (a1 f hf).2]
def RelI (B : Im) (g : Nat → Int32) : Prop :=
  (g 0 = nI (bC B) ∧ g 1 = nI (bE B) ∧ g 2 = nI (bO B) ∧ ∀ j, j < 16 → g (4 + j) = bnw B j + nI 1) ∧
  (∀ c, c < bC B → relC (bce B c) (fun i => g (20 + 180 * c + i))) ∧
  (∀ e, e < bE B → relE (bed B e) (fun i => g (7220 + 70 * e + i)) ∧ (bed B e 2 = nI 1 → g (7220 + 70 * e + 6) = nI (cntO B e))) ∧
  (∀ o, o < bO B → relO (bob B o) (fun i => g (17720 + 21 * o + i)))
section RI
variable {B : Im} {g : Nat → Int32}
theorem ri_o0 (h : RelI B g) {o : Nat} (ho : o < bO B) : g (17720 + 21 * o) = bob B o 0 := (h.2.2.2 o ho).1
theorem ri_ok (h : RelI B g) {o f : Nat} (ho : o < bO B) (hf : f < 10) : g (17720 + 21 * o + 1 + f) = bob B o (1 + f) + nI 1 := by
  have := ((h.2.2.2 o ho).2 f hf).1
  rw [Nat.add_assoc]
  exact this
theorem ri_ov (h : RelI B g) {o f : Nat} (ho : o < bO B) (hf : f < 10) : g (17720 + 21 * o + 11 + f) = bob B o (11 + f) := by
  have := ((h.2.2.2 o ho).2 f hf).2
  rw [Nat.add_assoc]
  exact this
theorem ri_e0 (h : RelI B g) {e : Nat} (he : e < bE B) : g (7220 + 70 * e) = bed B e 0 := (h.2.2.1 e he).1.1
theorem ri_e1 (h : RelI B g) {e : Nat} (he : e < bE B) : g (7220 + 70 * e + 1) = bed B e 2 := (h.2.2.1 e he).1.2.1
theorem ri_e2 (h : RelI B g) {e : Nat} (he : e < bE B) : g (7220 + 70 * e + 2) = bed B e 1 := (h.2.2.1 e he).1.2.2.1
theorem ri_e3 (h : RelI B g) {e : Nat} (he : e < bE B) : g (7220 + 70 * e + 3) = bed B e 3 := (h.2.2.1 e he).1.2.2.2.1
theorem ri_e4 (h : RelI B g) {e : Nat} (he : e < bE B) : g (7220 + 70 * e + 4) = bed B e 4 := (h.2.2.1 e he).1.2.2.2.2.1
theorem ri_e5 (h : RelI B g) {e : Nat} (he : e < bE B) : g (7220 + 70 * e + 5) = bed B e 6 := (h.2.2.1 e he).1.2.2.2.2.2.1
theorem ri_e6 (h : RelI B g) {e : Nat} (he : e < bE B) (hc : bed B e 2 = nI 1) : g (7220 + 70 * e + 6) = nI (cntO B e) := (h.2.2.1 e he).2 hc
theorem ri_e7 (h : RelI B g) {e : Nat} (he : e < bE B) (hc : bed B e 2 = nI 1) : g (7220 + 70 * e + 7) = bed B e 8 := ((h.2.2.1 e he).1.2.2.2.2.2.2 hc).1
theorem ri_et (h : RelI B g) {e i : Nat} (he : e < bE B) (hc : bed B e 2 = nI 1) (hi : i < 60) (hl : nI i < bed B e 8) : g (7220 + 70 * e + 8 + i) = bed B e (44 + i) := by
  have := ((h.2.2.1 e he).1.2.2.2.2.2.2 hc).2 i hi hl
  rw [Nat.add_assoc]
  exact this
/-- all is noted -/
def Fz (B : Im) : Prop := ∀ c, c < bC B → bce B c 125 = nI 0
theorem ri_c0 (h : RelI B g) {c : Nat} (hc : c < bC B) : g (20 + 180 * c) = bce B c 5 := (h.2.1 c hc).1
theorem ri_c1 (h : RelI B g) {c : Nat} (hc : c < bC B) : g (20 + 180 * c + 1) = bce B c 6 := (h.2.1 c hc).2.1
theorem ri_c2 (h : RelI B g) {c : Nat} (hc : c < bC B) : g (20 + 180 * c + 2) = bce B c 8 := (h.2.1 c hc).2.2.1
theorem ri_c3 (h : RelI B g) (hF : Fz B) {c : Nat} (hc : c < bC B) : g (20 + 180 * c + 3) = bce B c 0 := ((h.2.1 c hc).2.2.2.2.2 (hF c hc)).1
theorem ri_c4 (h : RelI B g) (hF : Fz B) {c : Nat} (hc : c < bC B) : g (20 + 180 * c + 4) = bce B c 1 := ((h.2.1 c hc).2.2.2.2.2 (hF c hc)).2.1
theorem ri_c5 (h : RelI B g) (hF : Fz B) {c : Nat} (hc : c < bC B) : g (20 + 180 * c + 5) = bce B c 2 := ((h.2.1 c hc).2.2.2.2.2 (hF c hc)).2.2.1
theorem ri_c6 (h : RelI B g) (hF : Fz B) {c : Nat} (hc : c < bC B) : g (20 + 180 * c + 6) = bce B c 3 := ((h.2.1 c hc).2.2.2.2.2 (hF c hc)).2.2.2.1
theorem ri_c7 (h : RelI B g) (hF : Fz B) {c : Nat} (hc : c < bC B) : g (20 + 180 * c + 7) = bce B c 4 + nI 1 := ((h.2.1 c hc).2.2.2.2.2 (hF c hc)).2.2.2.2.1
theorem Fz_2 (hF : Fz B) {c : Nat} (hc : c < bC B) : ¬ bce B c 125 = nI 2 := by rw [hF c hc]; decide
theorem ri_c8 (h : RelI B g) (hF : Fz B) {c : Nat} (hc : c < bC B) : g (20 + 180 * c + 8) = bce B c 7 := ((h.2.1 c hc).2.2.2.2.1 (Fz_2 hF hc)).1
theorem ri_cl (h : RelI B g) (hF : Fz B) {c i : Nat} (hc : c < bC B) (hi : i < 16) (hl : nI i < bce B c 7) : g (20 + 180 * c + 10 + i) = bce B c (69 + i) := by
  have := ((h.2.1 c hc).2.2.2.2.1 (Fz_2 hF hc)).2 i hi hl
  rw [Nat.add_assoc]
  exact this
theorem ri_cw (h : RelI B g) (hF : Fz B) {c i : Nat} (hc : c < bC B) (hi : i < 20) (hl : nI i < bce B c 3) : g (20 + 180 * c + 71 + 2 * i) = bce B c (85 + i) ∧ g (20 + 180 * c + 71 + 2 * i + 1) = bce B c (105 + i) := by
  have := ((h.2.1 c hc).2.2.2.2.2 (hF c hc)).2.2.2.2.2 i hi hl
  refine ⟨?_, ?_⟩
  · rw [Nat.add_assoc]
    exact this.1
  · rw [show 20 + 180 * c + 71 + 2 * i + 1 = 20 + 180 * c + (72 + 2 * i) by omega]
    exact this.2
theorem ri_ct (h : RelI B g) {c i : Nat} (hc : c < bC B) (hi : i < 60) (hl : nI i < bce B c 8) : g (20 + 180 * c + 112 + i) = bce B c (9 + i) := by
  have := (h.2.1 c hc).2.2.2.1 i hi hl
  rw [Nat.add_assoc]
  exact this
end RI
-- ===== code that is right =====
def tks (a : Nat) : Nat := if a ≤ 2 then 0 else if a ≤ 5 then 1 else if a ≤ 13 then 2 else if a = 14 then 3 else if a = 15 then 1 else if a ≤ 17 then 0 else 2
def sz (a : Nat) : Nat := if a ≤ 7 then 2 else 1
def Vv (B : Im) (e : Nat) : Prop := e < bE B ∧ bed B e 2 = nI 0
def Cc (B : Im) (e : Nat) : Prop := e < bE B ∧ bed B e 2 = nI 1
def okK (V C : Nat → Prop) (a : Nat) (k : Int32) : Prop := (a = 1 → ∃ e, k = nI e ∧ V e) ∧ (a = 2 ∨ a = 3 ∨ a = 4 → ∃ e, k = nI e ∧ C e) ∧ (a = 5 ∨ a = 6 → ∃ f, f < 10 ∧ k = nI f) ∧ (a = 7 → ∃ m, m < 5 ∧ k = nI m)
def okc (V C : Nat → Prop) (tx : Nat → Int32) (im : Bool) (en : Nat) : Nat → Nat → Nat → Prop
  | 0, p, h => p = en ∧ h = 1
  | n + 1, p, h => (p = en ∧ h = 1) ∨ (p < en ∧ ∃ a, a ≤ 18 ∧ tx p = nI a ∧ tks a ≤ h ∧ p + sz a ≤ en ∧ (a = 16 ∨ a = 17 → im = true) ∧ okK V C a (tx (p + 1)) ∧ okc V C tx im en n (p + sz a) (h + 1 - tks a))
def okC (B : Im) (tx : Nat → Int32) (im : Bool) (en p h : Nat) : Prop := ∃ n, okc (Vv B) (Cc B) tx im en n p h
def fnd (P : Nat → Bool) : Nat → Nat → Option Nat
  | _, 0 => none
  | k, r + 1 => if P k = true then some k else fnd P (k + 1) r
def mpl (tx : Nat → Int32) (nf : Nat) : Nat → Nat
  | 0 => 4 + 2 * nf
  | k + 1 => mpl tx nf k + 2 + (tx (mpl tx nf k)).toNatClampNeg
def fOf (tx : Nat → Int32) (nf f : Nat) : Option Nat := fnd (fun k => decide (tx (2 + 2 * k) = nI f)) 0 nf
def mOf (tx : Nat → Int32) (nf nm m : Nat) : Option Nat := fnd (fun k => decide (tx (mpl tx nf k - 1) = nI m)) 0 nm
def ohd {α : Type} (o : Option Nat) (d : α) (f : Nat → α) : α := match o with
  | none => d
  | some k => f k
def inh (B : Im) (e c : Nat) (d : Int32) : Int32 := if bed B e 5 = -1 then d else bed B (bed B e 5).toNatClampNeg c
def ett (B : Im) (e : Nat) : Nat → Int32 := fun i => bed B e (44 + i)
/-- a class edition: its text, and what the class has drawn out of it -/
def ClsOk (B : Im) (e nf nm l : Nat) : Prop :=
  (ett B e 1 = nI nf ∧ nf ≤ 4 ∧ ett B e (2 + 2 * nf) = nI nm ∧ nm ≤ 3 ∧ bed B e 7 = nI (mpl (ett B e) nf nm - 1) ∧ bed B e 8 = nI l ∧ mpl (ett B e) nf nm ≤ l + 1 ∧ l ≤ 60) ∧
  (∀ k, k < nm → ∃ len, ett B e (mpl (ett B e) nf k) = nI len ∧ len ≤ 60 ∧ okC B (ett B e) true (mpl (ett B e) nf k + 1 + len) (mpl (ett B e) nf k + 1) 0) ∧
  (mpl (ett B e) nf nm = l + 1 ∨ okC B (ett B e) false l (mpl (ett B e) nf nm - 1) 0) ∧
  (ett B e 0 = bed B e 5 ∧ (bed B e 5 = -1 ∨ ∃ p, bed B e 5 = nI p ∧ p < e ∧ bed B p 2 = nI 1)) ∧
  (∀ f, f < 10 → bed B e (24 + f) = ohd (fOf (ett B e) nf f) (inh B e (24 + f) 0) (fun _ => nI 1) ∧ bed B e (34 + f) = ohd (fOf (ett B e) nf f) (inh B e (34 + f) 0) (fun k => ett B e (3 + 2 * k))) ∧
  (∀ m, m < 5 → bed B e (9 + m) = ohd (mOf (ett B e) nf nm m) (inh B e (9 + m) (-1)) (fun _ => nI e) ∧ bed B e (14 + m) = ohd (mOf (ett B e) nf nm m) (inh B e (14 + m) 0) (fun k => nI (mpl (ett B e) nf k + 1)) ∧ bed B e (19 + m) = ohd (mOf (ett B e) nf nm m) (inh B e (19 + m) 0) (fun k => nI (mpl (ett B e) nf k + 1 + (ett B e (mpl (ett B e) nf k)).toNatClampNeg)))
def StOk (B : Im) (e : Nat) : Prop := (bed B e 6 = nI 0 ∨ bed B e 6 = nI 1 ∨ bed B e 6 = nI 2) ∧ ∀ p, p < bE B → bed B e 5 = nI p → bed B p 6 = nI 0 → bed B e 6 = nI 0
def VOk (B : Im) (k v : Int32) : Prop := k = nI 0 ∨ (k = nI 1 ∧ ∃ o, o < bO B ∧ v = nI o)
def CelOk (B : Im) (c : Nat) : Prop := (∃ j, j < 16 ∧ bce B c 5 = nI j) ∧ (bce B c 6 = nI 0 ∨ bce B c 6 = nI 1) ∧ (∃ l, l ≤ 60 ∧ bce B c 8 = nI l) ∧ (∃ q, q ≤ 16 ∧ bce B c 7 = nI q ∧ ∀ i, i < q → ∃ e, e < bE B ∧ bce B c (69 + i) = nI e)
def EdOk (B : Im) (e : Nat) : Prop := (∃ j, j < 16 ∧ bed B e 0 = nI j) ∧ (∃ c, c < bC B ∧ bed B e 1 = nI c) ∧ (bed B e 2 = nI 0 ∨ bed B e 2 = nI 1) ∧ (bed B e 2 = nI 0 → VOk B (bed B e 3) (bed B e 4)) ∧ (bed B e 2 = nI 1 → (∃ nf nm l, ClsOk B e nf nm l) ∧ StOk B e)
def ObOk (B : Im) (o : Nat) : Prop := (∃ e, Cc B e ∧ bob B o 0 = nI e) ∧ ∀ f, f < 10 → bob B o (1 + f) = -1 ∨ VOk B (bob B o (1 + f)) (bob B o (11 + f))
def WF (B : Im) : Prop := (bC B ≤ 40 ∧ bE B ≤ 150 ∧ bO B ≤ 150) ∧ (∀ c, c < bC B → CelOk B c) ∧ (∀ e, e < bE B → EdOk B e) ∧ (∀ o, o < bO B → ObOk B o) ∧ (∀ j, j < 16 → bnw B j = -1 ∨ ∃ e, e < bE B ∧ bnw B j = nI e ∧ bed B e 0 = nI j)
