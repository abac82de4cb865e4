/-! HOW MANY BITS -/
theorem and_c (a b c d : Nat) (hb : b < 256) (hd : d < 256) : (256 * a + b) &&& (256 * c + d) = 256 * (a &&& c) + (b &&& d) := by
  apply Nat.eq_of_testBit_eq
  intro i
  have h1 : b < 2 ^ 8 := hb
  have h2 : d < 2 ^ 8 := hd
  have h3 : b &&& d < 2 ^ 8 := Nat.and_lt_two_pow _ h2
  rw [Nat.testBit_and, show 256 * a + b = 2 ^ 8 * a + b from rfl, show 256 * c + d = 2 ^ 8 * c + d from rfl, show 256 * (a &&& c) + (b &&& d) = 2 ^ 8 * (a &&& c) + (b &&& d) from rfl, Nat.testBit_two_pow_mul_add _ h1, Nat.testBit_two_pow_mul_add _ h2, Nat.testBit_two_pow_mul_add _ h3]
  by_cases h : i < 8
  · rw [if_pos h, if_pos h, if_pos h, Nat.testBit_and]
  · rw [if_neg h, if_neg h, if_neg h, Nat.testBit_and]
def b1_ (M x : Nat) : Nat := x - (x / 2 &&& M)
def b2_ (M x : Nat) : Nat := (x &&& M) + (x / 4 &&& M)
def b3_ (M x : Nat) : Nat := (x + x / 16) &&& M
theorem b1_c (M hi lo : Nat) (h : lo < 256) : b1_ (256 * M + 85) (256 * hi + lo) = 256 * b1_ M hi + b1_ 85 lo := by
  have e : (256 * hi + lo) / 2 = 256 * (hi / 2) + (128 * (hi % 2) + lo / 2) := by omega
  have f : ∀ q, q < 2 → ∀ l, l < 256 → (128 * q + l / 2) &&& 85 = l / 2 &&& 85 := by decide +kernel
  unfold b1_
  rw [e, and_c _ _ _ _ (by omega) (by omega), f _ (by omega) _ h]
  have g1 : (hi / 2 &&& M) ≤ hi / 2 := Nat.and_le_left
  have g2 : (lo / 2 &&& 85) ≤ lo / 2 := Nat.and_le_left
  omega
theorem b2_c (M hi lo : Nat) (h : lo < 256) : b2_ (256 * M + 51) (256 * hi + lo) = 256 * b2_ M hi + b2_ 51 lo := by
  have e : (256 * hi + lo) / 4 = 256 * (hi / 4) + (64 * (hi % 4) + lo / 4) := by omega
  have f : ∀ q, q < 4 → ∀ l, l < 256 → (64 * q + l / 4) &&& 51 = l / 4 &&& 51 := by decide +kernel
  unfold b2_
  rw [e, and_c _ _ _ _ (by omega) (by omega), and_c _ _ _ _ (by omega) (by omega), f _ (by omega) _ h]
  omega
theorem b3_c (M hi lo : Nat) (h : lo < 69) (h2 : lo % 16 ≤ 4) (h3 : hi % 16 ≤ 4) : b3_ (256 * M + 15) (256 * hi + lo) = 256 * b3_ M hi + b3_ 15 lo := by
  have e : (256 * hi + lo) + (256 * hi + lo) / 16 = 256 * (hi + hi / 16) + (16 * (hi % 16) + (lo + lo / 16)) := by omega
  have f : ∀ q, q < 5 → ∀ l, l < 69 → (16 * q + (l + l / 16)) &&& 15 = (l + l / 16) &&& 15 := by decide +kernel
  unfold b3_
  rw [e, and_c _ _ _ _ (by omega) (by omega), f _ (by omega) _ h]
def c8_ (x : Nat) : Nat := x % 2 + x / 2 % 2 + x / 4 % 2 + x / 8 % 2 + x / 16 % 2 + x / 32 % 2 + x / 64 % 2 + x / 128 % 2
theorem c8_d : ∀ d, d < 256 → b1_ 85 d < 256 ∧ b2_ 51 (b1_ 85 d) < 69 ∧ b2_ 51 (b1_ 85 d) % 16 ≤ 4 ∧ b3_ 15 (b2_ 51 (b1_ 85 d)) = c8_ d ∧ c8_ d ≤ 8 := by decide +kernel
theorem c8_t : ∀ d, d < 256 → b1_ 1431655765 d = b1_ 85 d ∧ b2_ 858993459 (b1_ 85 d) = b2_ 51 (b1_ 85 d) ∧ b3_ 252645135 (b2_ 51 (b1_ 85 d)) = b3_ 15 (b2_ 51 (b1_ 85 d)) := by decide +kernel
def d5_ (a b c d e : Nat) : Nat := 256 * (256 * (256 * (256 * e + d) + c) + b) + a
theorem s1_5 (a b c d e : Nat) (ha : a < 256) (hb : b < 256) (hc : c < 256) (hd : d < 256) (he : e < 256) : b1_ 6148914691236517205 (d5_ a b c d e) = d5_ (b1_ 85 a) (b1_ 85 b) (b1_ 85 c) (b1_ 85 d) (b1_ 85 e) := by
  unfold d5_
  rw [show 6148914691236517205 = 256 * (256 * (256 * (256 * 1431655765 + 85) + 85) + 85) + 85 from rfl, b1_c _ _ _ ha, b1_c _ _ _ hb, b1_c _ _ _ hc, b1_c _ _ _ hd, (c8_t e he).1]
theorem s2_5 (a b c d e : Nat) (ha : a < 256) (hb : b < 256) (hc : c < 256) (hd : d < 256) (he : e < 256) : b2_ 3689348814741910323 (d5_ (b1_ 85 a) (b1_ 85 b) (b1_ 85 c) (b1_ 85 d) (b1_ 85 e)) = d5_ (b2_ 51 (b1_ 85 a)) (b2_ 51 (b1_ 85 b)) (b2_ 51 (b1_ 85 c)) (b2_ 51 (b1_ 85 d)) (b2_ 51 (b1_ 85 e)) := by
  unfold d5_
  rw [show 3689348814741910323 = 256 * (256 * (256 * (256 * 858993459 + 51) + 51) + 51) + 51 from rfl, b2_c _ _ _ (c8_d a ha).1, b2_c _ _ _ (c8_d b hb).1, b2_c _ _ _ (c8_d c hc).1, b2_c _ _ _ (c8_d d hd).1, (c8_t e he).2.1]
theorem s3_5 (a b c d e : Nat) (ha : a < 256) (hb : b < 256) (hc : c < 256) (hd : d < 256) (he : e < 256) : b3_ 1085102592571150095 (d5_ (b2_ 51 (b1_ 85 a)) (b2_ 51 (b1_ 85 b)) (b2_ 51 (b1_ 85 c)) (b2_ 51 (b1_ 85 d)) (b2_ 51 (b1_ 85 e))) = d5_ (c8_ a) (c8_ b) (c8_ c) (c8_ d) (c8_ e) := by
  obtain ⟨-, a2, a3, a4, -⟩ := c8_d a ha
  obtain ⟨-, e2, e3, e4, -⟩ := c8_d b hb
  obtain ⟨-, f2, f3, f4, -⟩ := c8_d c hc
  obtain ⟨-, g2, g3, g4, -⟩ := c8_d d hd
  obtain ⟨-, h2, h3, h4, -⟩ := c8_d e he
  unfold d5_
  rw [show 1085102592571150095 = 256 * (256 * (256 * (256 * 252645135 + 15) + 15) + 15) + 15 from rfl, b3_c _ _ _ a2 a3 (by omega), b3_c _ _ _ e2 e3 (by omega), b3_c _ _ _ f2 f3 (by omega), b3_c _ _ _ g2 g3 (by omega), (c8_t e he).2.2, a4, e4, f4, g4, h4]
/-- the same on longs -/
def B1_ (x : Int64) : Int64 := x - (((x.toUInt64 >>> ((1 : Int32).toInt64.toUInt64 &&& Int64.toUInt64 63)).toInt64) &&& (6148914691236517205 : Int64))
def B2_ (x : Int64) : Int64 := (x &&& (3689348814741910323 : Int64)) + (((x.toUInt64 >>> ((2 : Int32).toInt64.toUInt64 &&& Int64.toUInt64 63)).toInt64) &&& (3689348814741910323 : Int64))
def B3_ (x : Int64) : Int64 := (x + ((x.toUInt64 >>> ((4 : Int32).toInt64.toUInt64 &&& Int64.toUInt64 63)).toInt64)) &&& (1085102592571150095 : Int64)
def B4_ (x : Int64) : Int64 := x + ((x.toUInt64 >>> ((8 : Int32).toInt64.toUInt64 &&& Int64.toUInt64 63)).toInt64)
def B5_ (x : Int64) : Int64 := x + ((x.toUInt64 >>> ((16 : Int32).toInt64.toUInt64 &&& Int64.toUInt64 63)).toInt64)
def B6_ (x : Int64) : Int64 := x + ((x.toUInt64 >>> ((32 : Int32).toInt64.toUInt64 &&& Int64.toUInt64 63)).toInt64)
theorem bc_eq (x : Int64) : f_J13_bitCount_95d88 x = ((B6_ (B5_ (B4_ (B3_ (B2_ (B1_ x)))))).toInt32) &&& (127 : Int32) := rfl
theorem B1_n {a : Nat} (h : a < 2 ^ 62) : B1_ (lN a) = lN (b1_ 6148914691236517205 a) := by
  unfold B1_ b1_
  rw [show (6148914691236517205 : Int64) = lN 6148914691236517205 from rfl, show (1 : Int32) = nI 1 from rfl, wb_shr (by omega) (by decide), wb_and (by omega) (by omega), lN_sub]
  have : (a / 2 ^ 1 &&& 6148914691236517205) ≤ a / 2 ^ 1 := Nat.and_le_left
  omega
theorem B2_n {a : Nat} (h : a < 2 ^ 62) : B2_ (lN a) = lN (b2_ 3689348814741910323 a) := by
  unfold B2_ b2_
  rw [show (3689348814741910323 : Int64) = lN 3689348814741910323 from rfl, show (2 : Int32) = nI 2 from rfl, wb_shr (by omega) (by decide), wb_and (by omega) (by omega), wb_and (by omega) (by omega), lN_add]
theorem B3_n {a : Nat} (h : a < 2 ^ 62) : B3_ (lN a) = lN (b3_ 1085102592571150095 a) := by
  unfold B3_ b3_
  rw [show (1085102592571150095 : Int64) = lN 1085102592571150095 from rfl, show (4 : Int32) = nI 4 from rfl, wb_shr (by omega) (by decide), lN_add, wb_and (by omega) (by omega)]
theorem B4_n {a : Nat} (h : a < 2 ^ 62) : B4_ (lN a) = lN (a + a / 256) := by
  unfold B4_
  rw [show (8 : Int32) = nI 8 from rfl, wb_shr (by omega) (by decide), lN_add]
theorem B5_n {a : Nat} (h : a < 2 ^ 62) : B5_ (lN a) = lN (a + a / 65536) := by
  unfold B5_
  rw [show (16 : Int32) = nI 16 from rfl, wb_shr (by omega) (by decide), lN_add]
theorem B6_n {a : Nat} (h : a < 2 ^ 62) : B6_ (lN a) = lN (a + a / 4294967296) := by
  unfold B6_
  rw [show (32 : Int32) = nI 32 from rfl, wb_shr (by omega) (by decide), lN_add]
theorem d5_b (a b c d e : Nat) (ha : a < 256) (hb : b < 256) (hc : c < 256) (hd : d < 256) (he : e < 256) : d5_ a b c d e < 2 ^ 40 := by unfold d5_; omega
theorem bc_5 (a b c d e : Nat) (ha : a < 256) (hb : b < 256) (hc : c < 256) (hd : d < 256) (he : e < 256) : f_J13_bitCount_95d88 (lN (d5_ a b c d e)) = nI (c8_ a + c8_ b + c8_ c + c8_ d + c8_ e) := by
  obtain ⟨a1, a2, a3, a4, a5⟩ := c8_d a ha
  obtain ⟨e1, e2, e3, e4, e5⟩ := c8_d b hb
  obtain ⟨f1, f2, f3, f4, f5⟩ := c8_d c hc
  obtain ⟨g1, g2, g3, g4, g5⟩ := c8_d d hd
  obtain ⟨h1, h2, h3, h4, h5⟩ := c8_d e he
  have q0 := d5_b a b c d e ha hb hc hd he
  have q1 := d5_b _ _ _ _ _ a1 e1 f1 g1 h1
  have q2 := d5_b (b2_ 51 (b1_ 85 a)) (b2_ 51 (b1_ 85 b)) (b2_ 51 (b1_ 85 c)) (b2_ 51 (b1_ 85 d)) (b2_ 51 (b1_ 85 e)) (by omega) (by omega) (by omega) (by omega) (by omega)
  rw [bc_eq, B1_n (by omega), s1_5 a b c d e ha hb hc hd he, B2_n (by omega), s2_5 a b c d e ha hb hc hd he, B3_n (by omega), s3_5 a b c d e ha hb hc hd he]
  unfold d5_
  generalize c8_ a = p0 at *
  generalize c8_ b = p1 at *
  generalize c8_ c = p2 at *
  generalize c8_ d = p3 at *
  generalize c8_ e = p4 at *
  have i1 : (256 * (256 * (256 * (256 * p4 + p3) + p2) + p1) + p0) + (256 * (256 * (256 * (256 * p4 + p3) + p2) + p1) + p0) / 256 = 256 * (256 * (256 * (256 * p4 + (p3 + p4)) + (p2 + p3)) + (p1 + p2)) + (p0 + p1) := by omega
  rw [B4_n (by omega), i1]
  have i2 : (256 * (256 * (256 * (256 * p4 + (p3 + p4)) + (p2 + p3)) + (p1 + p2)) + (p0 + p1)) + (256 * (256 * (256 * (256 * p4 + (p3 + p4)) + (p2 + p3)) + (p1 + p2)) + (p0 + p1)) / 65536 = 256 * (256 * (256 * (256 * p4 + (p3 + p4)) + (p2 + p3 + p4)) + (p1 + p2 + (p3 + p4))) + (p0 + p1 + (p2 + p3)) := by omega
  rw [B5_n (by omega), i2]
  have i3 : (256 * (256 * (256 * (256 * p4 + (p3 + p4)) + (p2 + p3 + p4)) + (p1 + p2 + (p3 + p4))) + (p0 + p1 + (p2 + p3))) + (256 * (256 * (256 * (256 * p4 + (p3 + p4)) + (p2 + p3 + p4)) + (p1 + p2 + (p3 + p4))) + (p0 + p1 + (p2 + p3))) / 4294967296 = 128 * (2 * (256 * (256 * (256 * p4 + (p3 + p4)) + (p2 + p3 + p4)) + (p1 + p2 + (p3 + p4)))) + (p0 + p1 + p2 + p3 + p4) := by omega
  rw [B6_n (by omega), i3, lN_i, show (127 : Int32) = nI 127 from rfl, nx_and, show 127 = 2 ^ 7 - 1 from rfl, Nat.and_two_pow_sub_one_eq_mod]
  congr 1
  omega
def cs_ (m : Nat) : Nat → Nat
  | 0 => 0
  | k + 1 => cs_ m k + m / 2 ^ k % 2
theorem c8_m (x : Nat) : c8_ (x % 256) = c8_ x := by unfold c8_; omega
theorem cs_8 (m k : Nat) : cs_ m (k + 8) = cs_ m k + c8_ (m / 2 ^ k) := by
  have e : ∀ j, m / 2 ^ (k + j) % 2 = m / 2 ^ k / 2 ^ j % 2 := fun j => by rw [Nat.pow_add, Nat.div_div_eq_div_mul]
  show cs_ m k + m / 2 ^ k % 2 + m / 2 ^ (k + 1) % 2 + m / 2 ^ (k + 2) % 2 + m / 2 ^ (k + 3) % 2 + m / 2 ^ (k + 4) % 2 + m / 2 ^ (k + 5) % 2 + m / 2 ^ (k + 6) % 2 + m / 2 ^ (k + 7) % 2 = _
  rw [e, e, e, e, e, e, e]
  unfold c8_
  omega
theorem cs_40 (m : Nat) (h : m < 2 ^ 36) : cs_ m 36 = cs_ m 40 := by
  have e : ∀ j, 36 ≤ j → m / 2 ^ j % 2 = 0 := fun j hj => by
    rw [Nat.div_eq_of_lt (Nat.lt_of_lt_of_le h (Nat.pow_le_pow_right (by decide) hj))]
  show _ = cs_ m 36 + m / 2 ^ 36 % 2 + m / 2 ^ 37 % 2 + m / 2 ^ 38 % 2 + m / 2 ^ 39 % 2
  rw [e 36 (by omega), e 37 (by omega), e 38 (by omega), e 39 (by omega)]
  rfl
theorem bc_ok (m : Nat) (h : m < 2 ^ 36) : f_J13_bitCount_95d88 (lN m) = nI (cs_ m 36) := by
  have e : m = d5_ (m % 256) (m / 256 % 256) (m / 65536 % 256) (m / 16777216 % 256) (m / 4294967296 % 256) := by unfold d5_; omega
  conv => lhs; rw [e]
  rw [bc_5 _ _ _ _ _ (by omega) (by omega) (by omega) (by omega) (by omega), c8_m, c8_m, c8_m, c8_m, c8_m, cs_40 m h, cs_8 m 32, cs_8 m 24, cs_8 m 16, cs_8 m 8, cs_8 m 0]
  congr 1
  simp [cs_]
