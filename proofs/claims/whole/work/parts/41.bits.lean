/-! how many bits of a long -/
def kN (x : Int64) : Nat := x.toBitVec.toNat
theorem kN_lt (x : Int64) : kN x < 2 ^ 64 := x.toBitVec.isLt
theorem kN_add {x y : Int64} (h : kN x + kN y < 2 ^ 64) : kN (x + y) = kN x + kN y := by
  unfold kN at h ⊢
  rw [Int64.toBitVec_add, BitVec.toNat_add, Nat.mod_eq_of_lt h]
theorem kN_sub {x y : Int64} (h : kN y ≤ kN x) : kN (x - y) = kN x - kN y := by
  have hx := kN_lt x
  unfold kN at h hx ⊢
  rw [Int64.toBitVec_sub, BitVec.toNat_sub]
  omega
theorem kN_and (x y : Int64) : kN (x &&& y) = kN x &&& kN y := by
  unfold kN
  rw [Int64.toBitVec_and, BitVec.toNat_and]
theorem kN_shr (x : Int64) (s : UInt64) : kN (x.toUInt64 >>> s).toInt64 = kN x / 2 ^ (s.toNat % 64) := by
  show (x.toUInt64 >>> s).toNat = _
  rw [UInt64.toNat_shiftRight, Nat.shiftRight_eq_div_pow]
  rfl
def mk8 (m : Nat) : Nat → Nat
  | 0 => 0
  | n + 1 => m + 256 * mk8 m n
theorem mk8_s (m n : Nat) : mk8 m (n + 1) = m + 256 * mk8 m n := rfl
theorem and8 {a m : Nat} (r M : Nat) (ha : a < 256) (hm : m < 256) : (a + 256 * r) &&& (m + 256 * M) = (a &&& m) + 256 * (r &&& M) := by
  have hl : a &&& m < 256 := Nat.lt_of_le_of_lt Nat.and_le_left ha
  apply Nat.eq_of_testBit_eq
  intro i
  rw [Nat.testBit_and, show a + 256 * r = 2 ^ 8 * r + a by omega, show m + 256 * M = 2 ^ 8 * M + m by omega, show (a &&& m) + 256 * (r &&& M) = 2 ^ 8 * (r &&& M) + (a &&& m) by omega, Nat.testBit_two_pow_mul_add r (i := 8) ha, Nat.testBit_two_pow_mul_add M (i := 8) hm, Nat.testBit_two_pow_mul_add (r &&& M) (i := 8) hl]
  by_cases h : i < 8
  · rw [if_pos h, if_pos h, if_pos h, Nat.testBit_and]
  · rw [if_neg h, if_neg h, if_neg h, Nat.testBit_and]
theorem lo55 : ∀ a : Fin 256, ∀ b : Fin 2, (a.1 / 2 + 128 * b.1) &&& 85 = (a.1 / 2) &&& 85 := by decide +kernel
theorem lo33 : ∀ a : Fin 256, ∀ b : Fin 4, (a.1 / 4 + 64 * b.1) &&& 51 = (a.1 / 4) &&& 51 := by decide +kernel
theorem lo0f : ∀ a : Fin 69, ∀ b : Fin 5, (a.1 + a.1 / 16 + 16 * b.1) &&& 15 = (a.1 + a.1 / 16) &&& 15 := by decide +kernel
def b1 (x : Nat) : Nat := x - ((x / 2) &&& 85)
def b2 (x : Nat) : Nat := (x &&& 51) + ((x / 4) &&& 51)
def b3 (x : Nat) : Nat := (x + x / 16) &&& 15
def pcb (x : Nat) : Nat → Nat
  | 0 => 0
  | n + 1 => pcb x n + if x.testBit n = true then 1 else 0
theorem pcb_s (x n : Nat) : pcb x (n + 1) = pcb x n + if x.testBit n = true then 1 else 0 := rfl
theorem b_all : ∀ a : Fin 256, b1 a.1 < 256 ∧ b2 (b1 a.1) < 69 ∧ b2 (b1 a.1) % 16 < 5 ∧ b3 (b2 (b1 a.1)) = pcb a.1 8 ∧ pcb a.1 8 ≤ 8 := by decide +kernel
def q1 (n x : Nat) : Nat := x - ((x / 2) &&& mk8 85 n)
def q2 (n x : Nat) : Nat := (x &&& mk8 51 n) + ((x / 4) &&& mk8 51 n)
def q3 (n x : Nat) : Nat := (x + x / 16) &&& mk8 15 n
theorem q1_s (n a r : Nat) (ha : a < 256) : q1 (n + 1) (a + 256 * r) = b1 a + 256 * q1 n r := by
  have e : (a + 256 * r) / 2 = (a / 2 + 128 * (r % 2)) + 256 * (r / 2) := by omega
  have l := lo55 ⟨a, ha⟩ ⟨r % 2, by omega⟩
  have h1 : (a / 2) &&& 85 ≤ a := Nat.le_trans Nat.and_le_left (by omega)
  have h2 : (r / 2) &&& mk8 85 n ≤ r := Nat.le_trans Nat.and_le_left (by omega)
  unfold q1 b1
  rw [mk8_s, e, and8 _ _ (by omega) (by omega)]
  simp only at l
  rw [l]
  omega
theorem q2_s (n a r : Nat) (ha : a < 256) : q2 (n + 1) (a + 256 * r) = b2 a + 256 * q2 n r := by
  have e : (a + 256 * r) / 4 = (a / 4 + 64 * (r % 4)) + 256 * (r / 4) := by omega
  have l := lo33 ⟨a, ha⟩ ⟨r % 4, by omega⟩
  unfold q2 b2
  rw [mk8_s, e, and8 (a := a) _ _ ha (by omega), and8 (a := a / 4 + 64 * (r % 4)) _ _ (by omega) (by omega)]
  simp only at l
  rw [l]
  omega
theorem q3_s (n a r : Nat) (ha : a < 69) (hr : r % 16 < 5) : q3 (n + 1) (a + 256 * r) = b3 a + 256 * q3 n r := by
  have e : (a + 256 * r) + (a + 256 * r) / 16 = (a + a / 16 + 16 * (r % 16)) + 256 * (r + r / 16) := by omega
  have l := lo0f ⟨a, ha⟩ ⟨r % 16, hr⟩
  unfold q3 b3
  rw [mk8_s, e, and8 _ _ (by omega) (by omega)]
  simp only at l
  rw [l]
theorem q2_lo (n x : Nat) : q2 n (q1 n x) % 16 < 5 := by
  cases n with
  | zero =>
    unfold q2 mk8
    rw [Nat.and_zero, Nat.and_zero]
    decide
  | succ n =>
    have hx : x = x % 256 + 256 * (x / 256) := by omega
    have h := b_all ⟨x % 256, by omega⟩
    rw [hx, q1_s n _ _ (by omega), q2_s n _ _ h.1]
    have := h.2.2.1
    simp only at this
    omega
def qq (n x : Nat) : Nat := q3 n (q2 n (q1 n x))
theorem qq_s (n a r : Nat) (ha : a < 256) : qq (n + 1) (a + 256 * r) = pcb a 8 + 256 * qq n r := by
  have h := b_all ⟨a, ha⟩
  unfold qq
  rw [q1_s n a r ha, q2_s n _ _ h.1, q3_s n _ _ h.2.1 (q2_lo n r), h.2.2.2.1]
theorem qq_0 (x : Nat) : qq 0 x = 0 := Nat.and_zero _
theorem pcb_lo {a : Nat} (r : Nat) (ha : a < 256) : ∀ n, n ≤ 8 → pcb (a + 256 * r) n = pcb a n
  | 0, _ => rfl
  | n + 1, h => by
    rw [pcb_s, pcb_s, pcb_lo r ha n (by omega), show a + 256 * r = 2 ^ 8 * r + a by omega, Nat.testBit_two_pow_mul_add r (i := 8) ha, if_pos (c := n < 8) (by omega)]
theorem pcb_hi {a : Nat} (r : Nat) (ha : a < 256) : ∀ n, pcb (a + 256 * r) (8 + n) = pcb a 8 + pcb r n
  | 0 => pcb_lo r ha 8 (by omega)
  | n + 1 => by
    rw [show 8 + (n + 1) = (8 + n) + 1 by omega]
    rw [pcb_s (a + 256 * r) (8 + n), pcb_s r n, pcb_hi r ha n, show a + 256 * r = 2 ^ 8 * r + a by omega, Nat.testBit_two_pow_mul_add r (i := 8) ha, if_neg (c := 8 + n < 8) (by omega), Nat.add_sub_cancel_left, Nat.add_assoc]
/-- x of n bytes, each with its count of bits: their counts as digits, and their sum -/
theorem qq_8 (x : Nat) (hx : x < 2 ^ 64) : ∃ p0 p1 p2 p3 p4 p5 p6 p7 : Nat, (p0 ≤ 8 ∧ p1 ≤ 8 ∧ p2 ≤ 8 ∧ p3 ≤ 8 ∧ p4 ≤ 8 ∧ p5 ≤ 8 ∧ p6 ≤ 8 ∧ p7 ≤ 8) ∧ qq 8 x = p0 + 256 * (p1 + 256 * (p2 + 256 * (p3 + 256 * (p4 + 256 * (p5 + 256 * (p6 + 256 * p7)))))) ∧ pcb x 64 = p0 + (p1 + (p2 + (p3 + (p4 + (p5 + (p6 + p7)))))) := by
  have st : ∀ (n x : Nat), ∃ p, p ≤ 8 ∧ qq (n + 1) x = p + 256 * qq n (x / 256) ∧ pcb x (8 * (n + 1)) = p + pcb (x / 256) (8 * n) := fun n x => by
    have ha : x % 256 < 256 := by omega
    have hx : x = x % 256 + 256 * (x / 256) := by omega
    refine ⟨pcb (x % 256) 8, (b_all ⟨x % 256, ha⟩).2.2.2.2, ?_, ?_⟩
    · conv => lhs; rw [hx]
      exact qq_s n _ _ ha
    · conv => lhs; rw [hx]
      rw [show 8 * (n + 1) = 8 + 8 * n by omega]
      exact pcb_hi _ ha _
  obtain ⟨p0, a0, c0, e0⟩ := st 7 x
  obtain ⟨p1, a1, c1, e1⟩ := st 6 (x / 256)
  obtain ⟨p2, a2, c2, e2⟩ := st 5 (x / 256 / 256)
  obtain ⟨p3, a3, c3, e3⟩ := st 4 (x / 256 / 256 / 256)
  obtain ⟨p4, a4, c4, e4⟩ := st 3 (x / 256 / 256 / 256 / 256)
  obtain ⟨p5, a5, c5, e5⟩ := st 2 (x / 256 / 256 / 256 / 256 / 256)
  obtain ⟨p6, a6, c6, e6⟩ := st 1 (x / 256 / 256 / 256 / 256 / 256 / 256)
  obtain ⟨p7, a7, c7, e7⟩ := st 0 (x / 256 / 256 / 256 / 256 / 256 / 256 / 256)
  refine ⟨p0, p1, p2, p3, p4, p5, p6, p7, ⟨a0, a1, a2, a3, a4, a5, a6, a7⟩, ?_, ?_⟩
  · rw [c0, c1, c2, c3, c4, c5, c6, c7, qq_0]
    rfl
  · rw [show (64 : Nat) = 8 * (7 + 1) by rfl, e0, show 8 * 7 = 8 * (6 + 1) by rfl, e1, show 8 * 6 = 8 * (5 + 1) by rfl, e2, show 8 * 5 = 8 * (4 + 1) by rfl, e3, show 8 * 4 = 8 * (3 + 1) by rfl, e4, show 8 * 3 = 8 * (2 + 1) by rfl, e5, show 8 * 2 = 8 * (1 + 1) by rfl, e6, show 8 * 1 = 8 * (0 + 1) by rfl, e7]
    rfl
theorem mk_55 : mk8 85 8 = 6148914691236517205 := by decide +kernel
theorem mk_33 : mk8 51 8 = 3689348814741910323 := by decide +kernel
theorem mk_0f : mk8 15 8 = 1085102592571150095 := by decide +kernel
def u1 (a : Int64) : Int64 := a - (((a : Int64).toUInt64 >>> ((1 : Int32).toInt64.toUInt64 &&& Int64.toUInt64 63)).toInt64 &&& 6148914691236517205)
def u2 (b : Int64) : Int64 := (b &&& 3689348814741910323) + (((b : Int64).toUInt64 >>> ((2 : Int32).toInt64.toUInt64 &&& Int64.toUInt64 63)).toInt64 &&& 3689348814741910323)
def u3 (b : Int64) : Int64 := (b + ((b : Int64).toUInt64 >>> ((4 : Int32).toInt64.toUInt64 &&& Int64.toUInt64 63)).toInt64) &&& 1085102592571150095
def u4 (b : Int64) : Int64 := b + ((b : Int64).toUInt64 >>> ((8 : Int32).toInt64.toUInt64 &&& Int64.toUInt64 63)).toInt64
def u5 (b : Int64) : Int64 := b + ((b : Int64).toUInt64 >>> ((16 : Int32).toInt64.toUInt64 &&& Int64.toUInt64 63)).toInt64
def u6 (b : Int64) : Int64 := b + ((b : Int64).toUInt64 >>> ((32 : Int32).toInt64.toUInt64 &&& Int64.toUInt64 63)).toInt64
def pc64 (a : Int64) : Int32 := (u6 (u5 (u4 (u3 (u2 (u1 a)))))).toInt32 &&& 127
theorem u1_k (a : Int64) : kN (u1 a) = q1 8 (kN a) := by
  have e : kN ((a.toUInt64 >>> ((1 : Int32).toInt64.toUInt64 &&& Int64.toUInt64 63)).toInt64 &&& 6148914691236517205) = (kN a / 2) &&& mk8 85 8 := by
    rw [kN_and, kN_shr, mk_55]
    rfl
  unfold u1 q1
  rw [kN_sub (by rw [e]; exact Nat.le_trans Nat.and_le_left (Nat.div_le_self _ _)), e]
theorem u2_k (a : Int64) : kN (u2 a) = q2 8 (kN a) := by
  have e1 : kN (a &&& 3689348814741910323) = kN a &&& mk8 51 8 := by
    rw [kN_and, mk_33]
    rfl
  have e : kN ((a.toUInt64 >>> ((2 : Int32).toInt64.toUInt64 &&& Int64.toUInt64 63)).toInt64 &&& 3689348814741910323) = (kN a / 4) &&& mk8 51 8 := by
    rw [kN_and, kN_shr, mk_33]
    rfl
  have h1 : kN a &&& mk8 51 8 ≤ mk8 51 8 := Nat.and_le_right
  have h2 : (kN a / 4) &&& mk8 51 8 ≤ mk8 51 8 := Nat.and_le_right
  rw [mk_33] at h1 h2
  unfold u2 q2
  rw [kN_add (by rw [e1, e, mk_33]; omega), e1, e]
theorem u3_k (a : Int64) (h : kN a < 2 ^ 63) : kN (u3 a) = q3 8 (kN a) := by
  have e : kN (a.toUInt64 >>> ((4 : Int32).toInt64.toUInt64 &&& Int64.toUInt64 63)).toInt64 = kN a / 16 := by
    rw [kN_shr]
    rfl
  unfold u3 q3
  rw [kN_and, kN_add (by rw [e]; omega), e, mk_0f]
  rfl
theorem u4_k (a : Int64) (h : kN a < 2 ^ 63) : kN (u4 a) = kN a + kN a / 256 := by
  have e : kN (a.toUInt64 >>> ((8 : Int32).toInt64.toUInt64 &&& Int64.toUInt64 63)).toInt64 = kN a / 256 := by
    rw [kN_shr]
    rfl
  unfold u4
  rw [kN_add (by rw [e]; omega), e]
theorem u5_k (a : Int64) (h : kN a < 2 ^ 63) : kN (u5 a) = kN a + kN a / 65536 := by
  have e : kN (a.toUInt64 >>> ((16 : Int32).toInt64.toUInt64 &&& Int64.toUInt64 63)).toInt64 = kN a / 65536 := by
    rw [kN_shr]
    rfl
  unfold u5
  rw [kN_add (by rw [e]; omega), e]
theorem u6_k (a : Int64) (h : kN a < 2 ^ 63) : kN (u6 a) = kN a + kN a / 4294967296 := by
  have e : kN (a.toUInt64 >>> ((32 : Int32).toInt64.toUInt64 &&& Int64.toUInt64 63)).toInt64 = kN a / 4294967296 := by
    rw [kN_shr]
    rfl
  unfold u6
  rw [kN_add (by rw [e]; omega), e]
theorem q2_63 (a : Nat) : q2 8 a < 2 ^ 63 := by
  have h1 : a &&& mk8 51 8 ≤ mk8 51 8 := Nat.and_le_right
  have h2 : (a / 4) &&& mk8 51 8 ≤ mk8 51 8 := Nat.and_le_right
  unfold q2
  rw [mk_33] at h1 h2 ⊢
  omega
theorem dvm {a m : Nat} (b : Nat) (h : a < m) : (a + m * b) / m = b := by
  rw [Nat.add_mul_div_left _ _ (by omega), Nat.div_eq_of_lt h, Nat.zero_add]
theorem pc64_a (a : Int64) : ∃ p0 p1 p2 p3 p4 p5 p6 p7 : Nat, (p0 ≤ 8 ∧ p1 ≤ 8 ∧ p2 ≤ 8 ∧ p3 ≤ 8 ∧ p4 ≤ 8 ∧ p5 ≤ 8 ∧ p6 ≤ 8 ∧ p7 ≤ 8) ∧ kN (u4 (u3 (u2 (u1 a)))) = ((p0 + p1) + 256 * (p1 + p2)) + 65536 * ((p2 + p3) + 256 * ((p3 + p4) + 256 * ((p4 + p5) + 256 * ((p5 + p6) + 256 * ((p6 + p7) + 256 * p7))))) ∧ pcb (kN a) 64 = p0 + (p1 + (p2 + (p3 + (p4 + (p5 + (p6 + p7)))))) := by
  obtain ⟨p0, p1, p2, p3, p4, p5, p6, p7, hb, e, es⟩ := qq_8 (kN a) (kN_lt a)
  refine ⟨p0, p1, p2, p3, p4, p5, p6, p7, hb, ?_, es⟩
  obtain ⟨a0, a1, a2, a3, a4, a5, a6, a7⟩ := hb
  have k3 : kN (u3 (u2 (u1 a))) = qq 8 (kN a) := by
    rw [u3_k _ (by rw [u2_k]; exact q2_63 _), u2_k, u1_k]
    rfl
  rw [e] at k3
  have k4 := u4_k (u3 (u2 (u1 a))) (by rw [k3]; omega)
  have d4 : kN (u3 (u2 (u1 a))) / 256 = p1 + 256 * (p2 + 256 * (p3 + 256 * (p4 + 256 * (p5 + 256 * (p6 + 256 * p7))))) := by
    rw [k3]
    exact dvm _ (by omega)
  rw [d4, k3] at k4
  rw [k4]
  omega
theorem pc64_b {x p0 p1 p2 p3 p4 p5 p6 p7 : Nat} (hb : p0 ≤ 8 ∧ p1 ≤ 8 ∧ p2 ≤ 8 ∧ p3 ≤ 8 ∧ p4 ≤ 8 ∧ p5 ≤ 8 ∧ p6 ≤ 8 ∧ p7 ≤ 8) (h : x = ((p0 + p1) + 256 * (p1 + p2)) + 65536 * ((p2 + p3) + 256 * ((p3 + p4) + 256 * ((p4 + p5) + 256 * ((p5 + p6) + 256 * ((p6 + p7) + 256 * p7)))))) : x < 2 ^ 62 ∧ x + x / 65536 = ((p0 + p1 + p2 + p3) + 256 * ((p1 + p2 + p3 + p4) + 256 * ((p2 + p3 + p4 + p5) + 256 * (p3 + p4 + p5 + p6)))) + 4294967296 * ((p4 + p5 + p6 + p7) + 256 * ((p5 + p6 + p7) + 256 * ((p6 + p7) + 256 * p7))) := by
  have d5 : x / 65536 = (p2 + p3) + 256 * ((p3 + p4) + 256 * ((p4 + p5) + 256 * ((p5 + p6) + 256 * ((p6 + p7) + 256 * p7)))) := by
    rw [h]
    exact dvm _ (by omega)
  rw [d5, h]
  constructor <;> omega
theorem pc64_c {x p0 p1 p2 p3 p4 p5 p6 p7 : Nat} (hb : p0 ≤ 8 ∧ p1 ≤ 8 ∧ p2 ≤ 8 ∧ p3 ≤ 8 ∧ p4 ≤ 8 ∧ p5 ≤ 8 ∧ p6 ≤ 8 ∧ p7 ≤ 8) (h : x = ((p0 + p1 + p2 + p3) + 256 * ((p1 + p2 + p3 + p4) + 256 * ((p2 + p3 + p4 + p5) + 256 * (p3 + p4 + p5 + p6)))) + 4294967296 * ((p4 + p5 + p6 + p7) + 256 * ((p5 + p6 + p7) + 256 * ((p6 + p7) + 256 * p7)))) : x < 2 ^ 63 ∧ (x + x / 4294967296) % 128 = p0 + (p1 + (p2 + (p3 + (p4 + (p5 + (p6 + p7)))))) := by
  have d6 : x / 4294967296 = (p4 + p5 + p6 + p7) + 256 * ((p5 + p6 + p7) + 256 * ((p6 + p7) + 256 * p7)) := by
    rw [h]
    exact dvm _ (by omega)
  refine ⟨by omega, ?_⟩
  have e : x + x / 4294967296 = (p0 + (p1 + (p2 + (p3 + (p4 + (p5 + (p6 + p7))))))) + 128 * (2 * (((p1 + p2 + p3 + p4) + 256 * ((p2 + p3 + p4 + p5) + 256 * (p3 + p4 + p5 + p6))) + 16777216 * ((p4 + p5 + p6 + p7) + 256 * ((p5 + p6 + p7) + 256 * ((p6 + p7) + 256 * p7))) + ((p5 + p6 + p7) + 256 * ((p6 + p7) + 256 * p7)))) := by
    rw [d6, h]
    omega
  rw [e, Nat.add_mul_mod_self_left, Nat.mod_eq_of_lt (by omega)]
theorem pc64_is (a : Int64) : pc64 a = nI (pcb (kN a) 64) := by
  obtain ⟨p0, p1, p2, p3, p4, p5, p6, p7, hb, k4, es⟩ := pc64_a a
  obtain ⟨l4, k5⟩ := pc64_b hb k4
  have m5 := u5_k (u4 (u3 (u2 (u1 a)))) (by omega)
  obtain ⟨l5, k6⟩ := pc64_c hb (m5.trans k5)
  have m6 := u6_k (u5 (u4 (u3 (u2 (u1 a))))) l5
  rw [← m6] at k6
  rw [es, ← k6]
  clear k6 m6 l5 m5 k5 l4 es k4
  unfold pc64
  generalize u6 (u5 (u4 (u3 (u2 (u1 a))))) = y
  have := pk_and y.toInt32 (m := 127) 7 (by decide)
  rw [this]
  congr 1
  have e2 : y.toInt32.toBitVec.toNat = kN y % 2 ^ 32 := by
    rw [Int64.toBitVec_toInt32, BitVec.signExtend_eq_setWidth_of_le _ (by omega), BitVec.toNat_setWidth]
    rfl
  rw [e2]
  omega
def lb (x : Int64) (i : Nat) : Bool := x.toBitVec.getLsbD i
theorem pcb_cn (x : Int64) : ∀ n, pcb (kN x) n = cn (fun i => lb x i = true) n
  | 0 => rfl
  | n + 1 => by
    have eb : (kN x).testBit n = lb x n := rfl
    rw [pcb_s, pcb_cn x n, eb]
    by_cases h : lb x n = true
    · rw [cn_yes (p := fun i => lb x i = true) h, if_pos h]
    · rw [cn_no (p := fun i => lb x i = true) h, if_neg h]
      rfl
theorem sJ13_bitCount {d : Nat} {st : xSt} {P : Int32 → xSt → Prop} (a : Int64) (h : P (nI (cn (fun i => lb a i = true) 64)) st) : Ct d M_J13_bitCount_95d88 [.long a] st (Qi P) := by
  refine eJ13_bitCount_95d88 a st (qi ?_)
  rw [← pcb_cn, ← pc64_is] at h
  exact h
