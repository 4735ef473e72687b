-- ===== the number of marks =====
def tn (x : Int64) : Nat := x.toBitVec.toNat
def sR (s : Nat) (x : Int64) : Int64 := (Int64.toUInt64 x >>> ((Int32.toInt64 (nI s)).toUInt64 &&& Int64.toUInt64 63)).toInt64
theorem tn_sR {s : Nat} {x : Int64} (hs : s < 40) : tn (sR s x) = tn x / 2 ^ s := by
  unfold tn sR
  show ((Int64.toUInt64 x >>> ((Int32.toInt64 (nI s)).toUInt64 &&& Int64.toUInt64 63)).toBitVec).toNat = _
  rw [UInt64.toBitVec_shiftRight, l_um s hs]
  show (x.toBitVec >>> (BitVec.ofNat 64 s)).toNat = _
  rw [BitVec.ushiftRight_eq', BitVec.toNat_ushiftRight, BitVec.toNat_ofNat, Nat.mod_eq_of_lt (by omega), Nat.shiftRight_eq_div_pow]
theorem tn_and {a b : Int64} : tn (a &&& b) = tn a &&& tn b := by
  unfold tn
  rw [Int64.toBitVec_and, BitVec.toNat_and]
theorem tn_add {a b : Int64} (h : tn a + tn b < 18446744073709551616) : tn (a + b) = tn a + tn b := by
  unfold tn at *
  rw [Int64.toBitVec_add, BitVec.toNat_add, Nat.mod_eq_of_lt h]
theorem tn_sub {a b : Int64} (h : tn b ≤ tn a) : tn (a - b) = tn a - tn b := by
  unfold tn at *
  rw [Int64.toBitVec_sub, BitVec.toNat_sub_of_le h]
def pq1 (x : Int64) : Int64 := x - (sR 1 x &&& (6148914691236517205 : Int64))
def pq2 (x : Int64) : Int64 := (x &&& (3689348814741910323 : Int64)) + (sR 2 x &&& (3689348814741910323 : Int64))
def pq3 (x : Int64) : Int64 := (x + sR 4 x) &&& (1085102592571150095 : Int64)
def pq4 (s : Nat) (x : Int64) : Int64 := x + sR s x
theorem pq_eq (n : Nat) (x : Int64) (S : CS) : fj13_bitCount n x S = some (Int64.toInt32 (pq4 32 (pq4 16 (pq4 8 (pq3 (pq2 (pq1 x)))))) &&& nI 127, S) := rfl
theorem pq_7 (y : Int64) : Int64.toInt32 y &&& nI 127 = nI (tn y % 128) := by
  apply Int32.toBitVec_inj.mp
  rw [Int32.toBitVec_and, Int64.toBitVec_toInt32, BitVec.signExtend_eq_setWidth_of_le _ (by decide)]
  show y.toBitVec.setWidth 32 &&& 127#32 = BitVec.ofNat 32 (tn y % 128)
  apply BitVec.eq_of_toNat_eq
  rw [BitVec.toNat_and, BitVec.toNat_setWidth, BitVec.toNat_ofNat, BitVec.toNat_ofNat]
  show (tn y % 2 ^ 32) &&& (2 ^ 7 - 1) = _
  rw [Nat.and_two_pow_sub_one_eq_mod]
  omega
def rep (b : Nat) : Nat → Nat
  | 0 => 0
  | k + 1 => b + 256 * rep b k
theorem land_s {a m h H : Nat} (ha : a < 256) (hm : m < 256) : ((a + 256 * h) &&& (m + 256 * H)) = (a &&& m) + 256 * (h &&& H) := by
  have e1 : ((a + 256 * h) &&& (m + 256 * H)) % 2 ^ 8 = (a &&& m) := by
    rw [Nat.and_mod_two_pow, show (a + 256 * h) % 2 ^ 8 = a by omega, show (m + 256 * H) % 2 ^ 8 = m by omega]
  have e2 : ((a + 256 * h) &&& (m + 256 * H)) / 2 ^ 8 = (h &&& H) := by
    rw [Nat.and_div_two_pow, show (a + 256 * h) / 2 ^ 8 = h by omega, show (m + 256 * H) / 2 ^ 8 = H by omega]
  omega
def vA (k x : Nat) : Nat := x - ((x / 2) &&& rep 85 k)
def vB (k x : Nat) : Nat := (x &&& rep 51 k) + ((x / 4) &&& rep 51 k)
def vC (k x : Nat) : Nat := (x + x / 16) &&& rep 15 k
def uA (a : Nat) : Nat := a - ((a / 2) &&& 85)
def uB (a : Nat) : Nat := (a &&& 51) + ((a / 4) &&& 51)
def uD (a : Nat) : Nat := (a + a / 16) &&& 15
theorem uA_t : ∀ a, a < 256 → ∀ t, t < 2 → ((a / 2 + 128 * t) &&& 85) = ((a / 2) &&& 85) := by decide +kernel
theorem uB_t : ∀ a, a < 256 → ∀ t, t < 4 → ((a / 4 + 64 * t) &&& 51) = ((a / 4) &&& 51) := by decide +kernel
theorem uD_t : ∀ a, a < 70 → ∀ t, t < 16 → ((a + a / 16 + 16 * t) &&& 15) = ((a + a / 16) &&& 15) := by decide +kernel
theorem uA_l : ∀ a, a < 256 → uA a < 256 := by decide +kernel
theorem uAB_l : ∀ a, a < 256 → uB (uA a) < 69 ∧ uB (uA a) % 16 ≤ 4 := by decide +kernel
theorem u_cnt : ∀ a, a < 256 → uD (uB (uA a)) = cnt (fun j => Nat.testBit a j) 8 := by decide +kernel
theorem vA_s {k a h : Nat} (ha : a < 256) : vA (k + 1) (a + 256 * h) = uA a + 256 * vA k h := by
  unfold vA uA
  rw [show (a + 256 * h) / 2 = (a / 2 + 128 * (h % 2)) + 256 * (h / 2) by omega]
  rw [show rep 85 (k + 1) = 85 + 256 * rep 85 k from rfl, land_s (by omega) (by omega), uA_t a ha (h % 2) (by omega)]
  have h1 := Nat.and_le_left (n := a / 2) (m := 85)
  have h2 := Nat.and_le_left (n := h / 2) (m := rep 85 k)
  omega
theorem vB_s {k a h : Nat} (ha : a < 256) : vB (k + 1) (a + 256 * h) = uB a + 256 * vB k h := by
  unfold vB uB
  rw [show (a + 256 * h) / 4 = (a / 4 + 64 * (h % 4)) + 256 * (h / 4) by omega]
  rw [show rep 51 (k + 1) = 51 + 256 * rep 51 k from rfl, land_s ha (by omega), land_s (by omega) (by omega), uB_t a ha (h % 4) (by omega)]
  omega
theorem vC_s {k a h : Nat} (ha : a < 69) (hh : h % 16 ≤ 4) : vC (k + 1) (a + 256 * h) = uD a + 256 * vC k h := by
  unfold vC uD
  rw [show a + 256 * h + (a + 256 * h) / 16 = (a + a / 16 + 16 * (h % 16)) + 256 * (h + h / 16) by omega]
  rw [show rep 15 (k + 1) = 15 + 256 * rep 15 k from rfl, land_s (by omega) (by omega), uD_t a (by omega) (h % 16) (by omega)]
theorem tn_1 {x : Int64} : tn (pq1 x) = vA 8 (tn x) := by
  unfold pq1 vA
  have e : tn (sR 1 x &&& (6148914691236517205 : Int64)) = ((tn x / 2) &&& rep 85 8) := by
    rw [tn_and, tn_sR (by omega)]; rfl
  have h1 := Nat.and_le_left (n := tn x / 2) (m := rep 85 8)
  rw [tn_sub (by rw [e]; omega), e]
theorem tn_2 {x : Int64} : tn (pq2 x) = vB 8 (tn x) := by
  unfold pq2 vB
  have e1 : tn (x &&& (3689348814741910323 : Int64)) = ((tn x) &&& rep 51 8) := by rw [tn_and]; rfl
  have e2 : tn (sR 2 x &&& (3689348814741910323 : Int64)) = ((tn x / 4) &&& rep 51 8) := by rw [tn_and, tn_sR (by omega)]; rfl
  have h1 := Nat.and_le_right (n := tn x) (m := rep 51 8)
  have h2 := Nat.and_le_right (n := tn x / 4) (m := rep 51 8)
  have h3 : rep 51 8 = 3689348814741910323 := by decide
  rw [tn_add (by rw [e1, e2]; omega), e1, e2]
theorem tn_3 {x : Int64} (h : tn x < 1099511627776) : tn (pq3 x) = vC 8 (tn x) := by
  unfold pq3 vC
  have e2 : tn (sR 4 x) = tn x / 16 := by rw [tn_sR (by omega)]
  rw [tn_and, tn_add (by rw [e2]; omega), e2]
  rfl
theorem tn_4 {s : Nat} {x : Int64} (hs : s < 40) (h : tn x < 4503599627370496) : tn (pq4 s x) = tn x + tn x / 2 ^ s := by
  unfold pq4
  have h2 := Nat.div_le_self (tn x) (2 ^ s)
  rw [tn_add (by rw [tn_sR hs]; omega), tn_sR hs]
theorem cnt_add (P : Nat → Bool) (a : Nat) : ∀ b, cnt P (a + b) = cnt P a + cnt (fun j => P (a + j)) b
  | 0 => rfl
  | b + 1 => by
    show cnt P (a + b) + _ = cnt P a + (cnt (fun j => P (a + j)) b + _)
    rw [cnt_add P a b]
    show _ + (if P (a + b) = true then 1 else 0) = _ + (_ + (if P (a + b) = true then 1 else 0))
    omega
theorem cnt_by {x i : Nat} : cnt (fun j => Nat.testBit x (i + j)) 8 = cnt (fun j => Nat.testBit (x / 2 ^ i % 256) j) 8 := by
  refine cnt_congr 8 (fun j hj => ?_)
  rw [show (256 : Nat) = 2 ^ 8 from rfl, Nat.testBit_mod_two_pow, decide_eq_true hj, Bool.true_and, Nat.testBit_div_two_pow, Nat.add_comm]
theorem pq_nat {p0 p1 p2 p3 p4 y3 y4 y5 y6 : Nat} (c0 : p0 ≤ 8) (c1 : p1 ≤ 8) (c2 : p2 ≤ 8) (c3 : p3 ≤ 8) (c4 : p4 ≤ 8) (h3 : y3 = p0 + 256 * (p1 + 256 * (p2 + 256 * (p3 + 256 * (p4 + 256 * 0))))) (h4 : y4 = y3 + y3 / 2 ^ 8) (h5 : y5 = y4 + y4 / 2 ^ 16) (h6 : y6 = y5 + y5 / 2 ^ 32) : y6 % 128 = p0 + p1 + p2 + p3 + p4 := by
  have d3 : y3 / 2 ^ 8 = p1 + 256 * (p2 + 256 * (p3 + 256 * p4)) := by omega
  rw [d3] at h4
  have e4 : y4 = (p0 + p1) + 256 * ((p1 + p2) + 256 * ((p2 + p3) + 256 * ((p3 + p4) + 256 * p4))) := by omega
  clear h3 h4 d3
  have d4 : y4 / 2 ^ 16 = (p2 + p3) + 256 * ((p3 + p4) + 256 * p4) := by omega
  rw [d4] at h5
  have e5 : y5 = (p0 + p1 + p2 + p3) + 256 * ((p1 + p2 + p3 + p4) + 256 * ((p2 + p3 + p4) + 256 * ((p3 + p4) + 256 * p4))) := by omega
  clear e4 d4 h5
  have d5 : y5 / 2 ^ 32 = p4 := by omega
  rw [d5] at h6
  omega
theorem x_bitCount (n : Nat) {S : CS} {m : Int64} (hm : ∀ c, 40 ≤ c → mb m c = false) : fj13_bitCount n m S = some (nI (cnt (mb m) 40), S) := by
  have hx : tn m < 2 ^ 40 := Nat.lt_pow_two_of_testBit _ (fun i hi => hm i hi)
  have ec : cnt (mb m) 40 = cnt (fun j => Nat.testBit (tn m) j) 40 := rfl
  obtain ⟨x, hxe⟩ : ∃ x, x = tn m := ⟨_, rfl⟩
  rw [← hxe] at hx ec
  obtain ⟨a0, h0⟩ : ∃ a, a = x / 2 ^ 0 % 256 := ⟨_, rfl⟩
  obtain ⟨a1, h1⟩ : ∃ a, a = x / 2 ^ 8 % 256 := ⟨_, rfl⟩
  obtain ⟨a2, h2⟩ : ∃ a, a = x / 2 ^ 16 % 256 := ⟨_, rfl⟩
  obtain ⟨a3, h3⟩ : ∃ a, a = x / 2 ^ 24 % 256 := ⟨_, rfl⟩
  obtain ⟨a4, h4⟩ : ∃ a, a = x / 2 ^ 32 % 256 := ⟨_, rfl⟩
  have hs : x = a0 + 256 * (a1 + 256 * (a2 + 256 * (a3 + 256 * (a4 + 256 * 0)))) := by omega
  have l0 : a0 < 256 := by omega
  have l1 : a1 < 256 := by omega
  have l2 : a2 < 256 := by omega
  have l3 : a3 < 256 := by omega
  have l4 : a4 < 256 := by omega
  have ecn : cnt (mb m) 40 = cnt (fun j => Nat.testBit a0 j) 8 + cnt (fun j => Nat.testBit a1 j) 8 + cnt (fun j => Nat.testBit a2 j) 8 + cnt (fun j => Nat.testBit a3 j) 8 + cnt (fun j => Nat.testBit a4 j) 8 := by
    rw [ec, show 40 = 32 + 8 from rfl, cnt_add, show 32 = 24 + 8 from rfl, cnt_add, show 24 = 16 + 8 from rfl, cnt_add, show 16 = 8 + 8 from rfl, cnt_add, show 8 = 0 + 8 from rfl, cnt_add]
    rw [h0, h1, h2, h3, h4, ← cnt_by, ← cnt_by, ← cnt_by, ← cnt_by, ← cnt_by]
    show 0 + _ + _ + _ + _ + _ = _
    rw [Nat.zero_add]
  have t1 : tn (pq1 m) = uA a0 + 256 * (uA a1 + 256 * (uA a2 + 256 * (uA a3 + 256 * (uA a4 + 256 * 0)))) := by
    rw [tn_1, ← hxe, hs, vA_s l0, vA_s l1, vA_s l2, vA_s l3, vA_s l4]
    rfl
  have t2 : tn (pq2 (pq1 m)) = uB (uA a0) + 256 * (uB (uA a1) + 256 * (uB (uA a2) + 256 * (uB (uA a3) + 256 * (uB (uA a4) + 256 * 0)))) := by
    rw [tn_2, t1, vB_s (uA_l a0 l0), vB_s (uA_l a1 l1), vB_s (uA_l a2 l2), vB_s (uA_l a3 l3), vB_s (uA_l a4 l4)]
    rfl
  have d0 := uAB_l a0 l0
  have d1 := uAB_l a1 l1
  have d2 := uAB_l a2 l2
  have d3 := uAB_l a3 l3
  have d4 := uAB_l a4 l4
  have t3 : tn (pq3 (pq2 (pq1 m))) = uD (uB (uA a0)) + 256 * (uD (uB (uA a1)) + 256 * (uD (uB (uA a2)) + 256 * (uD (uB (uA a3)) + 256 * (uD (uB (uA a4)) + 256 * 0)))) := by
    rw [tn_3 (by rw [t2]; omega), t2, vC_s d0.1 (by omega), vC_s d1.1 (by omega), vC_s d2.1 (by omega), vC_s d3.1 (by omega), vC_s d4.1 (by omega)]
    rfl
  rw [u_cnt a0 l0, u_cnt a1 l1, u_cnt a2 l2, u_cnt a3 l3, u_cnt a4 l4] at t3
  rw [pq_eq, pq_7, ecn]
  have c0 := cnt_le (fun j => Nat.testBit a0 j) 8
  have c1 := cnt_le (fun j => Nat.testBit a1 j) 8
  have c2 := cnt_le (fun j => Nat.testBit a2 j) 8
  have c3 := cnt_le (fun j => Nat.testBit a3 j) 8
  have c4 := cnt_le (fun j => Nat.testBit a4 j) 8
  generalize cnt (fun j => Nat.testBit a0 j) 8 = p0 at *
  generalize cnt (fun j => Nat.testBit a1 j) 8 = p1 at *
  generalize cnt (fun j => Nat.testBit a2 j) 8 = p2 at *
  generalize cnt (fun j => Nat.testBit a3 j) 8 = p3 at *
  generalize cnt (fun j => Nat.testBit a4 j) 8 = p4 at *
  have f4 := tn_4 (s := 8) (x := pq3 (pq2 (pq1 m))) (by omega) (by omega)
  have f5 := tn_4 (s := 16) (x := pq4 8 (pq3 (pq2 (pq1 m)))) (by omega) (by omega)
  have f6 := tn_4 (s := 32) (x := pq4 16 (pq4 8 (pq3 (pq2 (pq1 m))))) (by omega) (by omega)
  rw [pq_nat c0 c1 c2 c3 c4 t3 f4 f5 f6]
