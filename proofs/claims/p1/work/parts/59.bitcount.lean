/-! ===== bitCount counts bits (of numbers below 2^24) ===== -/
theorem land8 {x p : Nat} (y q : Nat) (hx : x < 256) (hp : p < 256) : (256 * y + x) &&& (256 * q + p) = 256 * (y &&& q) + (x &&& p) := by
  have hxp : x &&& p < 256 := Nat.lt_of_le_of_lt Nat.and_le_left hx
  apply Nat.eq_of_testBit_eq
  intro j
  have e1 := Nat.testBit_two_pow_mul_add y (i := 8) (b := x) hx j
  have e2 := Nat.testBit_two_pow_mul_add q (i := 8) (b := p) hp j
  have e3 := Nat.testBit_two_pow_mul_add (y &&& q) (i := 8) (b := x &&& p) hxp j
  rw [Nat.testBit_and]
  show ((2 ^ 8 * y + x).testBit j && (2 ^ 8 * q + p).testBit j) = (2 ^ 8 * (y &&& q) + (x &&& p)).testBit j
  rw [e1, e2, e3]
  split
  · rw [Nat.testBit_and]
  · rw [Nat.testBit_and]
def p8 (a : Nat) : Nat := a % 2 + a / 2 % 2 + a / 4 % 2 + a / 8 % 2 + a / 16 % 2 + a / 32 % 2 + a / 64 % 2 + a / 128 % 2
def s1 (a : Nat) : Nat := a - (a / 2 &&& 85)
def s2 (a : Nat) : Nat := (a &&& 51) + (a / 4 &&& 51)
theorem t1 : ∀ a, a < 256 → ∀ e, e < 2 → ((a / 2 + 128 * e) &&& 85 = a / 2 &&& 85) ∧ (a / 2 &&& 85) ≤ a ∧ a / 2 + 128 * e < 256 ∧ s1 a < 256 := by decide +kernel
theorem t1c : ∀ c, c < 256 → (c / 2 &&& 21845) = (c / 2 &&& 85) := by decide +kernel
theorem t2 : ∀ a, a < 256 → ∀ e, e < 4 → ((s1 a / 4 + 64 * e) &&& 51 = s1 a / 4 &&& 51) ∧ s1 a / 4 + 64 * e < 256 ∧ s2 (s1 a) < 256 ∧ s2 (s1 a) % 16 < 5 := by decide +kernel
theorem t2c : ∀ c, c < 256 → (s1 c / 4 &&& 13107) = (s1 c / 4 &&& 51) ∧ (s1 c &&& 13107) = (s1 c &&& 51) := by decide +kernel
theorem t3 : ∀ a, a < 256 → ∀ e, e < 5 → ((s2 (s1 a) + s2 (s1 a) / 16 + 16 * e) &&& 15 = p8 a) ∧ s2 (s1 a) + s2 (s1 a) / 16 + 16 * e < 256 := by decide +kernel
theorem t3c : ∀ c, c < 256 → ((s2 (s1 c) + s2 (s1 c) / 16) &&& 3855) = p8 c := by decide +kernel
theorem p8_le : ∀ a, a < 256 → p8 a ≤ 8 := by decide +kernel
def q1 (n : Nat) : Nat := n - (n / 2 &&& 1431655765)
def q2 (n : Nat) : Nat := (n &&& 858993459) + (n / 4 &&& 858993459)
def q3 (n : Nat) : Nat := (n + n / 16) &&& 252645135
def q4 (n : Nat) : Nat := n + n / 256
def q5 (n : Nat) : Nat := n + n / 65536
theorem q1_b {a b c : Nat} (ha : a < 256) (hb : b < 256) (hc : c < 256) : q1 (256 * (256 * c + b) + a) = 256 * (256 * s1 c + s1 b) + s1 a := by
  have h1 : (256 * (256 * c + b) + a) / 2 = 256 * (256 * (c / 2) + (b / 2 + 128 * (c % 2))) + (a / 2 + 128 * (b % 2)) := by omega
  obtain ⟨x1, x2, x3, -⟩ := t1 a ha (b % 2) (Nat.mod_lt _ (by decide))
  obtain ⟨y1, y2, y3, -⟩ := t1 b hb (c % 2) (Nat.mod_lt _ (by decide))
  obtain ⟨z1, z2, -, -⟩ := t1 c hc 0 (by decide)
  have h2 : ((256 * (256 * c + b) + a) / 2 &&& 1431655765) = 256 * (256 * (c / 2 &&& 85) + (b / 2 &&& 85)) + (a / 2 &&& 85) := by
    rw [h1]
    show (256 * (256 * (c / 2) + (b / 2 + 128 * (c % 2))) + (a / 2 + 128 * (b % 2))) &&& (256 * (256 * 21845 + 85) + 85) = _
    rw [land8 _ _ x3 (by decide), land8 _ _ y3 (by decide), x1, y1, t1c c hc]
  unfold q1
  rw [h2]
  unfold s1
  omega
theorem q2_b {a b c : Nat} (ha : a < 256) (hb : b < 256) (hc : c < 256) : q2 (256 * (256 * s1 c + s1 b) + s1 a) = 256 * (256 * s2 (s1 c) + s2 (s1 b)) + s2 (s1 a) := by
  have la := (t1 a ha 0 (by decide)).2.2.2
  have lb := (t1 b hb 0 (by decide)).2.2.2
  have h1 : (256 * (256 * s1 c + s1 b) + s1 a) / 4 = 256 * (256 * (s1 c / 4) + (s1 b / 4 + 64 * (s1 c % 4))) + (s1 a / 4 + 64 * (s1 b % 4)) := by omega
  obtain ⟨x1, x2, -, -⟩ := t2 a ha (s1 b % 4) (Nat.mod_lt _ (by decide))
  obtain ⟨y1, y2, -, -⟩ := t2 b hb (s1 c % 4) (Nat.mod_lt _ (by decide))
  obtain ⟨z1, z2⟩ := t2c c hc
  unfold q2
  rw [h1]
  show ((256 * (256 * s1 c + s1 b) + s1 a) &&& (256 * (256 * 13107 + 51) + 51)) + ((256 * (256 * (s1 c / 4) + (s1 b / 4 + 64 * (s1 c % 4))) + (s1 a / 4 + 64 * (s1 b % 4))) &&& (256 * (256 * 13107 + 51) + 51)) = _
  rw [land8 _ _ la (by decide), land8 _ _ lb (by decide), land8 _ _ x2 (by decide), land8 _ _ y2 (by decide), x1, y1, z1, z2]
  unfold s2
  omega
theorem q3_b {a b c : Nat} (ha : a < 256) (hb : b < 256) (hc : c < 256) : q3 (256 * (256 * s2 (s1 c) + s2 (s1 b)) + s2 (s1 a)) = 256 * (256 * p8 c + p8 b) + p8 a := by
  obtain ⟨-, -, la, -⟩ := t2 a ha 0 (by decide)
  obtain ⟨-, -, lb, nb⟩ := t2 b hb 0 (by decide)
  obtain ⟨-, -, lc, nc⟩ := t2 c hc 0 (by decide)
  obtain ⟨x1, x2⟩ := t3 a ha (s2 (s1 b) % 16) nb
  obtain ⟨y1, y2⟩ := t3 b hb (s2 (s1 c) % 16) nc
  have h1 : 256 * (256 * s2 (s1 c) + s2 (s1 b)) + s2 (s1 a) + (256 * (256 * s2 (s1 c) + s2 (s1 b)) + s2 (s1 a)) / 16 = 256 * (256 * (s2 (s1 c) + s2 (s1 c) / 16) + (s2 (s1 b) + s2 (s1 b) / 16 + 16 * (s2 (s1 c) % 16))) + (s2 (s1 a) + s2 (s1 a) / 16 + 16 * (s2 (s1 b) % 16)) := by omega
  unfold q3
  rw [h1]
  show (256 * (256 * (s2 (s1 c) + s2 (s1 c) / 16) + (s2 (s1 b) + s2 (s1 b) / 16 + 16 * (s2 (s1 c) % 16))) + (s2 (s1 a) + s2 (s1 a) / 16 + 16 * (s2 (s1 b) % 16))) &&& (256 * (256 * 3855 + 15) + 15) = _
  rw [land8 _ _ x2 (by decide), land8 _ _ y2 (by decide), x1, y1, t3c c hc]
theorem q5_b {a b c : Nat} (ha : a < 256) (hb : b < 256) (hc : c < 256) : q5 (q4 (256 * (256 * p8 c + p8 b) + p8 a)) % 64 = p8 a + p8 b + p8 c := by
  have la := p8_le a ha; have lb := p8_le b hb; have lc := p8_le c hc
  unfold q5 q4
  generalize p8 a = A at *
  generalize p8 b = B at *
  generalize p8 c = C at *
  have e1 : (256 * (256 * C + B) + A) / 256 = 256 * C + B := by omega
  rw [e1]
  have e2 : (256 * (256 * C + B) + A + (256 * C + B)) / 65536 = C := by omega
  rw [e2]
  omega
theorem qN {n : Nat} (h : n < 16777216) : q5 (q4 (q3 (q2 (q1 n)))) % 64 = p8 (n % 256) + p8 (n / 256 % 256) + p8 (n / 65536) := by
  have e : n = 256 * (256 * (n / 65536) + n / 256 % 256) + n % 256 := by omega
  have hc : n / 65536 < 256 := by omega
  have hb : n / 256 % 256 < 256 := Nat.mod_lt _ (by decide)
  have ha : n % 256 < 256 := Nat.mod_lt _ (by decide)
  have key : q5 (q4 (q3 (q2 (q1 (256 * (256 * (n / 65536) + n / 256 % 256) + n % 256))))) % 64 = p8 (n % 256) + p8 (n / 256 % 256) + p8 (n / 65536) := by
    rw [q1_b ha hb hc, q2_b ha hb hc, q3_b ha hb hc]
    exact q5_b ha hb hc
  rw [← e] at key
  exact key
/-- the bits of a number below 2^24, counted -/
def cN (n : Nat) : Nat := p8 (n % 256) + p8 (n / 256 % 256) + p8 (n / 65536)
theorem tn_sub {x y : Int32} (h : tn y ≤ tn x) : tn (x - y) = tn x - tn y := by
  unfold tn at *
  rw [Int32.toBitVec_sub]
  exact BitVec.toNat_sub_of_le h
theorem tn_add {x y : Int32} (h : tn x + tn y < 4294967296) : tn (x + y) = tn x + tn y := by
  unfold tn at *
  rw [Int32.toBitVec_add, BitVec.toNat_add]
  exact Nat.mod_eq_of_lt h
theorem tn_and (x y : Int32) : tn (x &&& y) = tn x &&& tn y := by
  unfold tn
  rw [Int32.toBitVec_and, BitVec.toNat_and]
theorem tn_us (x s : Int32) (k : Nat) (hs : ((s.toUInt32 &&& Int32.toUInt32 31).toBitVec % 32).toNat = k) : tn (x.toUInt32 >>> (s.toUInt32 &&& Int32.toUInt32 31)).toInt32 = tn x / 2 ^ k := pk_ushr x s k hs
theorem tn_lt (x : Int32) : tn x < 4294967296 := x.toBitVec.isLt
theorem tn_bc1 (x : Int32) : tn (bc1 x) = q1 (tn x) := by
  have e : tn ((Int32.toUInt32 x >>> (Int32.toUInt32 1 &&& Int32.toUInt32 31)).toInt32 &&& 1431655765) = (tn x / 2 &&& 1431655765) := by
    rw [tn_and, tn_us x 1 1 (by decide)]; rfl
  unfold bc1 q1
  rw [tn_sub (by rw [e]; exact Nat.le_trans Nat.and_le_left (Nat.div_le_self _ _)), e]
theorem tn_bc2 (x : Int32) : tn (bc2 x) = q2 (tn x) := by
  have e1 : tn (x &&& 858993459) = (tn x &&& 858993459) := by rw [tn_and]; rfl
  have e2 : tn ((Int32.toUInt32 x >>> (Int32.toUInt32 2 &&& Int32.toUInt32 31)).toInt32 &&& 858993459) = (tn x / 4 &&& 858993459) := by
    rw [tn_and, tn_us x 2 2 (by decide)]; rfl
  have l1 : (tn x &&& 858993459) ≤ 858993459 := Nat.and_le_right
  have l2 : (tn x / 4 &&& 858993459) ≤ 858993459 := Nat.and_le_right
  unfold bc2 q2
  rw [tn_add (by rw [e1, e2]; omega), e1, e2]
theorem tn_bc3 {x : Int32} (h : tn x < 2147483648) : tn (bc3 x) = q3 (tn x) := by
  have e : tn (Int32.toUInt32 x >>> (Int32.toUInt32 4 &&& Int32.toUInt32 31)).toInt32 = tn x / 16 := tn_us x 4 4 (by decide)
  unfold bc3 q3
  rw [tn_and, tn_add (by rw [e]; omega), e]
  rfl
theorem tn_bc4 {x : Int32} (h : tn x < 2147483648) : tn (bc4 x) = q4 (tn x) := by
  have e : tn (Int32.toUInt32 x >>> (Int32.toUInt32 8 &&& Int32.toUInt32 31)).toInt32 = tn x / 256 := tn_us x 8 8 (by decide)
  unfold bc4 q4
  rw [tn_add (by rw [e]; omega), e]
theorem tn_bc5 {x : Int32} (h : tn x < 2147483648) : tn (bc5 x) = q5 (tn x) := by
  have e : tn (Int32.toUInt32 x >>> (Int32.toUInt32 16 &&& Int32.toUInt32 31)).toInt32 = tn x / 65536 := tn_us x 16 16 (by decide)
  unfold bc5 q5
  rw [tn_add (by rw [e]; omega), e]
theorem bitCount_is {x : Int32} (h : tn x < 16777216) : F_J6_bitCount_0f7a4 x = nI (cN (tn x)) := by
  have hq : ∀ n, n < 16777216 → q2 (q1 n) < 1717986919 ∧ q3 (q2 (q1 n)) < 252645136 ∧ q4 (q3 (q2 (q1 n))) < 300000000 := by
    intro n hn
    have l1 : (q1 n &&& 858993459) ≤ 858993459 := Nat.and_le_right
    have l2 : (q1 n / 4 &&& 858993459) ≤ 858993459 := Nat.and_le_right
    have l3 : ((q2 (q1 n) + q2 (q1 n) / 16) &&& 252645135) ≤ 252645135 := Nat.and_le_right
    refine ⟨by unfold q2; omega, by unfold q3; omega, ?_⟩
    have : q3 (q2 (q1 n)) ≤ 252645135 := l3
    unfold q4
    omega
  obtain ⟨k1, k2, k3⟩ := hq (tn x) h
  have e1 := tn_bc1 x
  have e2 : tn (bc2 (bc1 x)) = q2 (q1 (tn x)) := by rw [tn_bc2, e1]
  have e3 : tn (bc3 (bc2 (bc1 x))) = q3 (q2 (q1 (tn x))) := by rw [tn_bc3 (by rw [e2]; omega), e2]
  have e4 : tn (bc4 (bc3 (bc2 (bc1 x)))) = q4 (q3 (q2 (q1 (tn x)))) := by rw [tn_bc4 (by rw [e3]; omega), e3]
  have e5 : tn (bc5 (bc4 (bc3 (bc2 (bc1 x))))) = q5 (q4 (q3 (q2 (q1 (tn x))))) := by rw [tn_bc5 (by rw [e4]; omega), e4]
  unfold F_J6_bitCount_0f7a4
  have := pk_and (bc5 (bc4 (bc3 (bc2 (bc1 x))))) (m := 63) 6 (by decide)
  rw [this]
  congr 1
  have e6 : (bc5 (bc4 (bc3 (bc2 (bc1 x))))).toBitVec.toNat = q5 (q4 (q3 (q2 (q1 (tn x))))) := e5
  rw [e6]
  exact qN h
