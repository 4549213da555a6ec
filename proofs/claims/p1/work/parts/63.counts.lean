/-! ===== counting ===== -/
def ct (p : Nat → Bool) : Nat → Nat
  | 0 => 0
  | n + 1 => ct p n + (if p n then 1 else 0)
theorem ct_le (p : Nat → Bool) : ∀ n, ct p n ≤ n
  | 0 => Nat.le_refl _
  | n + 1 => by have := ct_le p n; unfold ct; split <;> omega
theorem ct_cong {p q : Nat → Bool} : ∀ n, (∀ i, i < n → p i = q i) → ct p n = ct q n
  | 0, _ => rfl
  | n + 1, h => by unfold ct; rw [ct_cong n (fun i hi => h i (by omega)), h n (by omega)]
theorem ct_all {p : Nat → Bool} : ∀ n, (∀ i, i < n → p i = true) → ct p n = n
  | 0, _ => rfl
  | n + 1, h => by unfold ct; rw [ct_all n (fun i hi => h i (by omega)), h n (by omega)]; rfl
theorem tb_div (n i : Nat) : (if n.testBit i then 1 else 0) = n / 2 ^ i % 2 := by
  rw [Nat.testBit_eq_decide_div_mod_eq]
  by_cases h : n / 2 ^ i % 2 = 1
  · rw [h]; rfl
  · rw [decide_eq_false h]
    have : n / 2 ^ i % 2 < 2 := Nat.mod_lt _ (by decide)
    show 0 = _
    omega
theorem p8_lo (n : Nat) : p8 (n % 256) = n % 2 + n / 2 % 2 + n / 4 % 2 + n / 8 % 2 + n / 16 % 2 + n / 32 % 2 + n / 64 % 2 + n / 128 % 2 := by
  unfold p8
  omega
theorem p8_sh (n : Nat) : p8 (n / 256 % 256) = n / 256 % 2 + n / 512 % 2 + n / 1024 % 2 + n / 2048 % 2 + n / 4096 % 2 + n / 8192 % 2 + n / 16384 % 2 + n / 32768 % 2 := by
  rw [p8_lo (n / 256)]
  simp only [Nat.div_div_eq_div_mul]
theorem p8_hi {n : Nat} (h : n < 16777216) : p8 (n / 65536) = n / 65536 % 2 + n / 131072 % 2 + n / 262144 % 2 + n / 524288 % 2 + n / 1048576 % 2 + n / 2097152 % 2 + n / 4194304 % 2 + n / 8388608 % 2 := by
  have e : n / 65536 = n / 65536 % 256 := by omega
  have := p8_lo (n / 65536)
  rw [← e] at this
  rw [this]
  simp only [Nat.div_div_eq_div_mul]
theorem cN_ct {n : Nat} (h : n < 16777216) : cN n = ct (fun i => n.testBit i) 24 := by
  unfold cN
  rw [p8_lo, p8_sh, p8_hi h]
  simp only [ct, tb_div]
  simp only [Nat.reducePow, Nat.div_one]
  omega
