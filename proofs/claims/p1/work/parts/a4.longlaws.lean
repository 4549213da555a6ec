/-! ===== Euclid; cutting ===== -/
def PB (n : Nat) (a b : Int64) : Prop := 1 ≤ n ∧ ((b.toInt.natAbs ≤ a.toInt.natAbs ∧ a.toInt.natAbs * b.toInt.natAbs < 2 ^ (n - 1)) ∨ (a.toInt.natAbs < b.toInt.natAbs ∧ 2 ≤ n ∧ a.toInt.natAbs * b.toInt.natAbs < 2 ^ (n - 2)))
theorem rem_abs {a b r : Int64} (e : r = a % b) : r.toInt.natAbs = a.toInt.natAbs % b.toInt.natAbs := by
  rw [e, Int64.toInt_mod, Int.natAbs_tmod]
theorem PB_s {n : Nat} {a b r : Int64} (h : PB (n + 1) a b) (hb : ¬ b = 0) (e : r = a % b) : PB n b r := by
  have hr := rem_abs e
  have hb0 : 0 < b.toInt.natAbs := by
    have : b.toInt ≠ 0 := fun q => hb (Int64.toInt_inj.mp q)
    omega
  have hlt : r.toInt.natAbs < b.toInt.natAbs := by rw [hr]; exact Nat.mod_lt _ hb0
  unfold PB at h ⊢
  obtain ⟨-, h⟩ := h
  generalize a.toInt.natAbs = A at *
  generalize b.toInt.natAbs = B at *
  generalize r.toInt.natAbs = R at *
  rcases h with ⟨h1, h2⟩ | ⟨h1, h2, h3⟩
  · have n1 : 1 ≤ n := by
      rcases Nat.eq_zero_or_pos n with q | q
      · subst q
        have : A * B < 1 := h2
        have : 0 < A * B := Nat.mul_pos (by omega) hb0
        omega
      · exact q
    refine ⟨n1, Or.inl ⟨Nat.le_of_lt hlt, ?_⟩⟩
    have d := Nat.div_add_mod A B
    have q1 : 1 ≤ A / B := (Nat.le_div_iff_mul_le hb0).mpr (by omega)
    have q2 : B ≤ B * (A / B) := Nat.le_mul_of_pos_right B q1
    have q3 : 2 * R ≤ A := by rw [hr]; rw [hr] at hlt; omega
    have q4 : 2 * (B * R) ≤ A * B := by
      have := Nat.mul_le_mul_right B q3
      rw [Nat.mul_assoc, Nat.mul_comm R B] at this
      exact this
    have p : 2 ^ (n + 1 - 1) = 2 * 2 ^ (n - 1) := by
      rw [show n + 1 - 1 = (n - 1) + 1 by omega, Nat.pow_succ, Nat.mul_comm]
    rw [p] at h2
    omega
  · have : R = A := by rw [hr]; exact Nat.mod_eq_of_lt h1
    refine ⟨by omega, Or.inl ⟨Nat.le_of_lt hlt, ?_⟩⟩
    rw [this, Nat.mul_comm, show n - 1 = n + 1 - 2 by omega]
    exact h3
theorem PB_0 {a b : Int64} : PB 140 a b := by
  have ha : a.toInt.natAbs ≤ 2 ^ 63 := by have := Int64.le_toInt a; have := Int64.toInt_lt a; omega
  have hb : b.toInt.natAbs ≤ 2 ^ 63 := by have := Int64.le_toInt b; have := Int64.toInt_lt b; omega
  have := Nat.mul_le_mul ha hb
  refine ⟨by decide, ?_⟩
  rcases Nat.lt_or_ge a.toInt.natAbs b.toInt.natAbs with q | q
  · exact Or.inr ⟨q, by decide, Nat.lt_of_le_of_lt this (by decide)⟩
  · exact Or.inl ⟨q, Nat.lt_of_le_of_lt this (by decide)⟩
theorem lc_eq {x y : Int64} {v : Int32} (e : v = lg_cmp x y) (h : v = 0) : x = y := by
  rw [e] at h
  unfold lg_cmp at h
  by_cases c : x > y
  · rw [if_pos c] at h; exact absurd h (by decide)
  · rw [if_neg c] at h
    by_cases c2 : x = y
    · exact c2
    · rw [if_neg c2] at h; exact absurd h (by decide)
theorem pw_s {u w : Int64} {i i1 : Int32} (h : u.toInt = 10 ^ i.toNatClampNeg) (hi : rgI 0 15 i) (e : w = u * 10) (e1 : i1.toInt = i.toInt + 1) : w.toInt = 10 ^ i1.toNatClampNeg := by
  have hn := cl_nat hi.1
  have e2 : i1.toNatClampNeg = i.toNatClampNeg + 1 := cl_of (by omega)
  have b : (10 : Int) ^ i.toNatClampNeg ≤ 10 ^ 15 := by
    have : (10 : Nat) ^ i.toNatClampNeg ≤ 10 ^ 15 := Nat.pow_le_pow_right (by decide) (by have := hi.2; omega)
    exact_mod_cast this
  have b0 : (0 : Int) < 10 ^ i.toNatClampNeg := Int.pow_pos (by decide)
  rw [e, e2, Int64.toInt_mul, h, Int.pow_succ]
  show ((10 : Int) ^ i.toNatClampNeg * 10).bmod (2 ^ 64) = _
  generalize (10 : Int) ^ i.toNatClampNeg = z at *
  exact Int.bmod_eq_of_le (by omega) (by omega)
theorem pw_n {u : Int64} {i : Nat} (h : u.toInt = 10 ^ i) : ¬ u = 0 := fun q => by
  have b0 : (0 : Int) < 10 ^ i := Int.pow_pos (by decide)
  rw [← h, q] at b0
  exact absurd b0 (by decide)
/-- children are further from the root, as far as there are any -/
def W1 (f : Nat → Int32) (ρ : Nat → Nat) : Prop := (∀ k : Nat, 1 ≤ k → k < 24 → 0 ≤ (f k).toInt → ρ (f k).toNatClampNeg < ρ k) ∧ ∀ k, ρ k ≤ 23
theorem W1_of {f : Nat → Int32} {ρ : Nat → Nat} (h : P1 f ρ) : W1 f ρ := ⟨fun k h1 h2 h3 => by
  have ht : tN f k := ⟨h2, fun q => by rw [q] at h3; exact absurd h3 (by decide)⟩
  have := (P1u_step (ρ := ρ) ⟨h.1, h.2.1⟩ ht (by omega)).2
  exact this, h.2.2⟩
theorem W1_clear {f : Nat → Int32} {ρ : Nat → Nat} {m : Int32} (h : W1 f ρ) (hm : rgI 0 23 m) : W1 (F_X12_clear f m) ρ := ⟨fun k h1 h2 h3 => by
  rw [clear_row hm h2] at h3 ⊢
  by_cases q : k = m.toNatClampNeg
  · rw [if_pos q] at h3; exact absurd h3 (by decide)
  · rw [if_neg q] at h3 ⊢; exact h.1 k h1 h2 h3, h.2⟩
theorem W1_sr {f f' : Nat → Int32} {ρ : Nat → Nat} (h : SR f f') (w : W1 f ρ) : W1 f' ρ := ⟨fun k h1 h2 h3 => by
  rw [h k (by omega)] at h3 ⊢; exact w.1 k h1 h2 h3, w.2⟩
theorem w1_d {f : Nat → Int32} {ρ : Nat → Nat} {m k x : Int32} {n : Nat} (h : W1 f ρ) (hk : rgI 1 23 k) (hm : 0 ≤ m.toInt) (ex : x = f k.toNatClampNeg) (c : x = m) (hn : 24 - ρ m.toNatClampNeg < n + 1) : 24 - ρ k.toNatClampNeg < n := by
  have hkn := cl_nat (x := k) (by have := hk.1; omega)
  have a := hk.1; have b := hk.2
  have e : f k.toNatClampNeg = m := by rw [← ex]; exact c
  have := h.1 k.toNatClampNeg (by omega) (by omega) (by rw [e]; exact hm)
  rw [e] at this
  have := h.2 k.toNatClampNeg
  omega
theorem pw_a {u w : Int64} {i : Int32} (h : u.toInt = 10 ^ i.toNatClampNeg) (hi : rgI 0 15 i) (e : w = u * 10) : w.toInt = 10 ^ (i.toNatClampNeg + 1) := by
  have e1 : (i + 1).toInt = i.toInt + 1 := by have := hi.1; have := hi.2; exact ti_add (y := 1) (by show _ ≤ i.toInt + 1; omega) (by show i.toInt + 1 ≤ _; omega)
  have q := pw_s h hi e e1
  have : (i + 1).toNatClampNeg = i.toNatClampNeg + 1 := cl_of (by have := cl_nat hi.1; omega)
  rw [this] at q; exact q
theorem pw_b {w : Int64} {i i1 : Int32} (h : w.toInt = 10 ^ (i.toNatClampNeg + 1)) (hi : rgI 0 15 i) (e1 : i1.toInt = i.toInt + 1) : w.toInt = 10 ^ i1.toNatClampNeg := by
  have : i1.toNatClampNeg = i.toNatClampNeg + 1 := cl_of (by have := cl_nat hi.1; omega)
  rw [this]; exact h
theorem us_r {x y : Int32} (e : y = (x.toUInt32 >>> (Int32.toUInt32 16 &&& Int32.toUInt32 31)).toInt32) : rgI 0 65535 y := by
  have hb : ∀ i, bt y i = bt x (16 + i) := fun i => by rw [e]; exact b_ushr 16 (by decide) x i
  have hl : tn y < 2 ^ 16 := Nat.lt_pow_two_of_testBit _ (fun i hi => by
    rw [← bt_tn, hb i, b_big (by omega)])
  have hy : y = nI (tn y) := tn_inj (by
    show tn y = (BitVec.ofInt 32 ((tn y : Nat) : Int)).toNat
    rw [BitVec.toNat_ofInt]
    omega)
  have := nI_toInt (n := tn y) (by omega)
  rw [← hy] at this
  exact ⟨by omega, by omega⟩
theorem dr_r {x y r n : Int32} (e : y = (x.toUInt32 >>> (Int32.toUInt32 16 &&& Int32.toUInt32 31)).toInt32) (er : r = y - y / n * n) (hn : rgI 1 24 n) : rgI 0 (n.toInt - 1) r := by
  rw [er]
  exact rg_rem (us_r e) ⟨Int.le_refl _, Int.le_refl _⟩ (by decide) (by have := hn.1; omega)
theorem rk_z {f : Nat → Int32} {m v x : Int32} (e : x = F_X12_refusesMaking f m v) (c : x = 0) : thr f m := rk_0 (a := 0) e (by rw [c]; exact ⟨by decide, by decide⟩) (by rw [c]; decide)
theorem ru_z {f : Nat → Int32} {m d x : Int32} (e : x = F_X12_refusesUnmount f m d) (c : x = 0) : thr f m := ru_0 (a := 0) e (by rw [c]; exact ⟨by decide, by decide⟩) (by rw [c]; decide)
theorem rem64 {a b : Int64} : a - a / b * b = a % b := by
  apply Int64.toInt_inj.mp
  rw [Int64.toInt_sub, Int64.toInt_mul, Int64.toInt_div, Int.bmod_mul_bmod, Int.sub_bmod_bmod]
  have : a.toInt - a.toInt.tdiv b.toInt * b.toInt = a.toInt.tmod b.toInt := by have := Int.tmod_add_tdiv_mul a.toInt b.toInt; omega
  rw [this, ← Int64.toInt_mod]
  have h1 := Int64.le_toInt (a % b); have h2 := Int64.toInt_lt (a % b)
  exact Int.bmod_eq_of_le (by omega) (by omega)
