/-! ===== steps, masters, sheets ===== -/
theorem steps_4 {f : Nat → Int32} {ρ : Nat → Nat} (h : P1 f ρ) : ∀ (n : Nat) (c k : Int32), ρ k.toNatClampNeg < n → thr f k → 0 ≤ c.toInt → c.toInt + (ρ k.toNatClampNeg : Int) ≤ 1000 → ∃ N : Nat, (F_X12_stepsOf_4 f n c k).toInt = c.toInt + (N : Int) ∧ N ≤ ρ k.toNatClampNeg ∧ ∀ j, j < N → ¬ cz f k.toNatClampNeg j = 0 := by
  intro n
  induction n with
  | zero => intro c k hn; exact absurd hn (Nat.not_lt_zero _)
  | succ n ih =>
    intro c k hn hk h0 hc
    rw [F_X12_stepsOf_4]
    by_cases k0 : k = 0
    · rw [if_pos k0]; exact ⟨0, by omega, Nat.zero_le _, fun j hj => absurd hj (Nat.not_lt_zero _)⟩
    · rw [if_neg k0]
      obtain ⟨a, b⟩ := h.2.1 k hk k0
      have n0 : k.toNatClampNeg ≠ 0 := fun q => k0 (Int32.toInt_inj.mp (by have := cl_nat hk.1.1; have z : (0 : Int32).toInt = 0 := rfl; omega))
      have e : (c + 1).toInt = c.toInt + 1 := ti_add (y := 1) (by show _ ≤ c.toInt + 1; omega) (by show c.toInt + 1 ≤ _; omega)
      obtain ⟨N, e1, e2, e3⟩ := ih (c + 1) (f k.toNatClampNeg) (by omega) a (by omega) (by omega)
      refine ⟨N + 1, by omega, by omega, fun j hj => ?_⟩
      cases j with
      | zero => exact n0
      | succ j => rw [cz_s n0]; exact e3 j (by omega)
theorem steps_is {f : Nat → Int32} {ρ : Nat → Nat} {k x : Int32} (h : P1 f ρ) (hk : thr f k) (e : x = F_X12_stepsOf f k) : ∀ j : Nat, (j : Int) < x.toInt → ¬ cz f k.toNatClampNeg j = 0 := by
  have b := h.2.2 k.toNatClampNeg
  obtain ⟨N, e1, e2, e3⟩ := steps_4 h 25 0 k (by omega) hk (by decide) (by show (0 : Int) + _ ≤ _; omega)
  intro j hj
  have e1 : (F_X12_stepsOf f k).toInt = (0 : Int32).toInt + (N : Int) := e1
  have z : (0 : Int32).toInt = 0 := rfl
  rw [e, e1] at hj
  exact e3 j (by omega)
/-- on the way up: where one is behind so many steps -/
theorem up_s {f : Nat → Int32} {ρ : Nat → Nat} {m a b n k k1 : Int32} (h : P1 f ρ) (hs : ∀ j : Nat, (j : Int) < n.toInt → ¬ cz f m.toNatClampNeg j = 0) (hm : thr f m) (ha : a.toNatClampNeg = cz f m.toNatClampNeg (n.toInt - 1 - k.toInt).toNat ∧ thr f a) (hk : 0 ≤ k.toInt) (hk2 : k.toInt < n.toInt) (e1 : k1.toInt = k.toInt - 1) (eb : b = f a.toNatClampNeg) : b.toNatClampNeg = cz f m.toNatClampNeg (n.toInt - 1 - k1.toInt).toNat ∧ thr f b := by
  obtain ⟨h1, h2⟩ := ha
  have q := hs (n.toInt - 1 - k.toInt).toNat (by omega)
  have a0 : ¬ a = 0 := fun w => q (by rw [← h1, w]; rfl)
  have hb := (h.2.1 a h2 a0).1
  rw [← eb] at hb
  refine ⟨?_, hb⟩
  have e : (n.toInt - 1 - k1.toInt).toNat = (n.toInt - 1 - k.toInt).toNat + 1 := by omega
  rw [e]
  show _ = if cz f m.toNatClampNeg (n.toInt - 1 - k.toInt).toNat = 0 then 0 else _
  rw [if_neg q, ← h1, eb]
/-! the least bit -/
theorem tz_ex : ∀ n : Nat, n ≠ 0 → ∃ t q, n = 2 ^ (t + 1) * q + 2 ^ t := by
  intro n
  induction n using Nat.strongRecOn with
  | ind n ih =>
    intro h
    by_cases e : n % 2 = 1
    · exact ⟨0, n / 2, by omega⟩
    · obtain ⟨t, q, w⟩ := ih (n / 2) (by omega) (by omega)
      refine ⟨t + 1, q, ?_⟩
      have p1 : 2 ^ (t + 1 + 1) * q = 2 * (2 ^ (t + 1) * q) := by rw [Nat.pow_succ 2 (t + 1), Nat.mul_comm (2 ^ (t + 1)) 2, Nat.mul_assoc]
      have p2 : 2 ^ (t + 1) = 2 * 2 ^ t := by rw [Nat.pow_succ, Nat.mul_comm]
      rw [p1, p2] 
      rw [p2] at w
      omega
theorem bt_tn {x : Int32} {i : Nat} : bt x i = (tn x).testBit i := by unfold bt tn; rw [← BitVec.testBit_toNat]
theorem ntz_core {x : Int32} (h : tn x < 16777216) (h0 : ¬ x = 0) : ∃ t : Nat, t < 24 ∧ bt x t = true ∧ ((x ^^^ (-1)) &&& (x - 1)) = nI (2 ^ t - 1) := by
  have hn : tn x ≠ 0 := fun q => h0 (tn_inj (q.trans rfl))
  obtain ⟨t, q, e⟩ := tz_ex (tn x) hn
  have ht : t < 24 := by
    rcases Nat.lt_or_ge t 24 with w | w
    · exact w
    · have := Nat.pow_le_pow_right (show 0 < 2 by decide) w
      omega
  have pt : 0 < 2 ^ t := Nat.pow_pos (by decide)
  have p2 : 2 ^ (t + 1) = 2 * 2 ^ t := by rw [Nat.pow_succ, Nat.mul_comm]
  have hb : ∀ i, bt x i = if i < t + 1 then decide (i = t) else q.testBit (i - (t + 1)) := fun i => by
    rw [bt_tn, e, Nat.testBit_two_pow_mul_add q (by omega) i]
    by_cases w : i < t + 1
    · rw [if_pos w, if_pos w, Nat.testBit_two_pow]
      simp [eq_comm]
    · rw [if_neg w, if_neg w]
  have hx1 : tn (x - 1) = tn x - 1 := by
    show (x - 1).toBitVec.toNat = _
    rw [Int32.toBitVec_sub, BitVec.toNat_sub]
    have : (1 : Int32).toBitVec.toNat = 1 := rfl
    have z : x.toBitVec.toNat = tn x := rfl
    rw [this, z]
    omega
  have hb1 : ∀ i, bt (x - 1) i = if i < t + 1 then decide (i < t) else q.testBit (i - (t + 1)) := fun i => by
    rw [bt_tn, hx1, show tn x - 1 = 2 ^ (t + 1) * q + (2 ^ t - 1) by omega, Nat.testBit_two_pow_mul_add q (by omega) i]
    by_cases w : i < t + 1
    · rw [if_pos w, if_pos w, Nat.testBit_two_pow_sub_one]
    · rw [if_neg w, if_neg w]
  refine ⟨t, ht, by rw [hb t, if_pos (by omega)]; simp, b_ext (fun i hi => ?_)⟩
  have hr : bt (nI (2 ^ t - 1)) i = decide (i < t) := by
    have hle : 2 ^ t ≤ 2 ^ 23 := Nat.pow_le_pow_right (by decide) (by omega)
    have : tn (nI (2 ^ t - 1)) = 2 ^ t - 1 := by
      show (BitVec.ofInt 32 ((2 ^ t - 1 : Nat) : Int)).toNat = _
      rw [BitVec.toNat_ofInt]
      omega
    rw [bt_tn, this, Nat.testBit_two_pow_sub_one]
  rw [hr, b_and, b_xor, hb i, hb1 i, b_m1 i hi]
  by_cases w : i < t + 1
  · rw [if_pos w, if_pos w]
    by_cases z : i = t
    · subst z; simp
    · have : i < t := by omega
      simp [z, this]
  · rw [if_neg w, if_neg w]
    have : ¬ i < t := by omega
    simp [this]
def F_J6_ntz_tail (z0 : Int32) : Int32 := (if (0 : Int32) < z0 then (if z0 ≤ (65536 : Int32) then (if z0 ≤ (256 : Int32) then (if z0 ≤ (16 : Int32) then (if z0 ≤ (4 : Int32) then ((1 : Int32) + ((Int32.toUInt32 z0 >>> (Int32.toUInt32 (1 : Int32) &&& Int32.toUInt32 31)).toInt32)) else (((1 : Int32) + (2 : Int32)) + ((Int32.toUInt32 ((Int32.toUInt32 z0 >>> (Int32.toUInt32 (2 : Int32) &&& Int32.toUInt32 31)).toInt32) >>> (Int32.toUInt32 (1 : Int32) &&& Int32.toUInt32 31)).toInt32))) else (if ((Int32.toUInt32 z0 >>> (Int32.toUInt32 (4 : Int32) &&& Int32.toUInt32 31)).toInt32) ≤ (4 : Int32) then (((1 : Int32) + (4 : Int32)) + ((Int32.toUInt32 ((Int32.toUInt32 z0 >>> (Int32.toUInt32 (4 : Int32) &&& Int32.toUInt32 31)).toInt32) >>> (Int32.toUInt32 (1 : Int32) &&& Int32.toUInt32 31)).toInt32)) else ((((1 : Int32) + (4 : Int32)) + (2 : Int32)) + ((Int32.toUInt32 ((Int32.toUInt32 ((Int32.toUInt32 z0 >>> (Int32.toUInt32 (4 : Int32) &&& Int32.toUInt32 31)).toInt32) >>> (Int32.toUInt32 (2 : Int32) &&& Int32.toUInt32 31)).toInt32) >>> (Int32.toUInt32 (1 : Int32) &&& Int32.toUInt32 31)).toInt32)))) else (if ((Int32.toUInt32 z0 >>> (Int32.toUInt32 (8 : Int32) &&& Int32.toUInt32 31)).toInt32) ≤ (16 : Int32) then (if ((Int32.toUInt32 z0 >>> (Int32.toUInt32 (8 : Int32) &&& Int32.toUInt32 31)).toInt32) ≤ (4 : Int32) then (((1 : Int32) + (8 : Int32)) + ((Int32.toUInt32 ((Int32.toUInt32 z0 >>> (Int32.toUInt32 (8 : Int32) &&& Int32.toUInt32 31)).toInt32) >>> (Int32.toUInt32 (1 : Int32) &&& Int32.toUInt32 31)).toInt32)) else ((((1 : Int32) + (8 : Int32)) + (2 : Int32)) + ((Int32.toUInt32 ((Int32.toUInt32 ((Int32.toUInt32 z0 >>> (Int32.toUInt32 (8 : Int32) &&& Int32.toUInt32 31)).toInt32) >>> (Int32.toUInt32 (2 : Int32) &&& Int32.toUInt32 31)).toInt32) >>> (Int32.toUInt32 (1 : Int32) &&& Int32.toUInt32 31)).toInt32))) else (if ((Int32.toUInt32 ((Int32.toUInt32 z0 >>> (Int32.toUInt32 (8 : Int32) &&& Int32.toUInt32 31)).toInt32) >>> (Int32.toUInt32 (4 : Int32) &&& Int32.toUInt32 31)).toInt32) ≤ (4 : Int32) then ((((1 : Int32) + (8 : Int32)) + (4 : Int32)) + ((Int32.toUInt32 ((Int32.toUInt32 ((Int32.toUInt32 z0 >>> (Int32.toUInt32 (8 : Int32) &&& Int32.toUInt32 31)).toInt32) >>> (Int32.toUInt32 (4 : Int32) &&& Int32.toUInt32 31)).toInt32) >>> (Int32.toUInt32 (1 : Int32) &&& Int32.toUInt32 31)).toInt32)) else (((((1 : Int32) + (8 : Int32)) + (4 : Int32)) + (2 : Int32)) + ((Int32.toUInt32 ((Int32.toUInt32 ((Int32.toUInt32 ((Int32.toUInt32 z0 >>> (Int32.toUInt32 (8 : Int32) &&& Int32.toUInt32 31)).toInt32) >>> (Int32.toUInt32 (4 : Int32) &&& Int32.toUInt32 31)).toInt32) >>> (Int32.toUInt32 (2 : Int32) &&& Int32.toUInt32 31)).toInt32) >>> (Int32.toUInt32 (1 : Int32) &&& Int32.toUInt32 31)).toInt32))))) else (if ((Int32.toUInt32 z0 >>> (Int32.toUInt32 (16 : Int32) &&& Int32.toUInt32 31)).toInt32) ≤ (256 : Int32) then (if ((Int32.toUInt32 z0 >>> (Int32.toUInt32 (16 : Int32) &&& Int32.toUInt32 31)).toInt32) ≤ (16 : Int32) then (if ((Int32.toUInt32 z0 >>> (Int32.toUInt32 (16 : Int32) &&& Int32.toUInt32 31)).toInt32) ≤ (4 : Int32) then (((1 : Int32) + (16 : Int32)) + ((Int32.toUInt32 ((Int32.toUInt32 z0 >>> (Int32.toUInt32 (16 : Int32) &&& Int32.toUInt32 31)).toInt32) >>> (Int32.toUInt32 (1 : Int32) &&& Int32.toUInt32 31)).toInt32)) else ((((1 : Int32) + (16 : Int32)) + (2 : Int32)) + ((Int32.toUInt32 ((Int32.toUInt32 ((Int32.toUInt32 z0 >>> (Int32.toUInt32 (16 : Int32) &&& Int32.toUInt32 31)).toInt32) >>> (Int32.toUInt32 (2 : Int32) &&& Int32.toUInt32 31)).toInt32) >>> (Int32.toUInt32 (1 : Int32) &&& Int32.toUInt32 31)).toInt32))) else (if ((Int32.toUInt32 ((Int32.toUInt32 z0 >>> (Int32.toUInt32 (16 : Int32) &&& Int32.toUInt32 31)).toInt32) >>> (Int32.toUInt32 (4 : Int32) &&& Int32.toUInt32 31)).toInt32) ≤ (4 : Int32) then ((((1 : Int32) + (16 : Int32)) + (4 : Int32)) + ((Int32.toUInt32 ((Int32.toUInt32 ((Int32.toUInt32 z0 >>> (Int32.toUInt32 (16 : Int32) &&& Int32.toUInt32 31)).toInt32) >>> (Int32.toUInt32 (4 : Int32) &&& Int32.toUInt32 31)).toInt32) >>> (Int32.toUInt32 (1 : Int32) &&& Int32.toUInt32 31)).toInt32)) else (((((1 : Int32) + (16 : Int32)) + (4 : Int32)) + (2 : Int32)) + ((Int32.toUInt32 ((Int32.toUInt32 ((Int32.toUInt32 ((Int32.toUInt32 z0 >>> (Int32.toUInt32 (16 : Int32) &&& Int32.toUInt32 31)).toInt32) >>> (Int32.toUInt32 (4 : Int32) &&& Int32.toUInt32 31)).toInt32) >>> (Int32.toUInt32 (2 : Int32) &&& Int32.toUInt32 31)).toInt32) >>> (Int32.toUInt32 (1 : Int32) &&& Int32.toUInt32 31)).toInt32)))) else (if ((Int32.toUInt32 ((Int32.toUInt32 z0 >>> (Int32.toUInt32 (16 : Int32) &&& Int32.toUInt32 31)).toInt32) >>> (Int32.toUInt32 (8 : Int32) &&& Int32.toUInt32 31)).toInt32) ≤ (16 : Int32) then (if ((Int32.toUInt32 ((Int32.toUInt32 z0 >>> (Int32.toUInt32 (16 : Int32) &&& Int32.toUInt32 31)).toInt32) >>> (Int32.toUInt32 (8 : Int32) &&& Int32.toUInt32 31)).toInt32) ≤ (4 : Int32) then ((((1 : Int32) + (16 : Int32)) + (8 : Int32)) + ((Int32.toUInt32 ((Int32.toUInt32 ((Int32.toUInt32 z0 >>> (Int32.toUInt32 (16 : Int32) &&& Int32.toUInt32 31)).toInt32) >>> (Int32.toUInt32 (8 : Int32) &&& Int32.toUInt32 31)).toInt32) >>> (Int32.toUInt32 (1 : Int32) &&& Int32.toUInt32 31)).toInt32)) else (((((1 : Int32) + (16 : Int32)) + (8 : Int32)) + (2 : Int32)) + ((Int32.toUInt32 ((Int32.toUInt32 ((Int32.toUInt32 ((Int32.toUInt32 z0 >>> (Int32.toUInt32 (16 : Int32) &&& Int32.toUInt32 31)).toInt32) >>> (Int32.toUInt32 (8 : Int32) &&& Int32.toUInt32 31)).toInt32) >>> (Int32.toUInt32 (2 : Int32) &&& Int32.toUInt32 31)).toInt32) >>> (Int32.toUInt32 (1 : Int32) &&& Int32.toUInt32 31)).toInt32))) else (if ((Int32.toUInt32 ((Int32.toUInt32 ((Int32.toUInt32 z0 >>> (Int32.toUInt32 (16 : Int32) &&& Int32.toUInt32 31)).toInt32) >>> (Int32.toUInt32 (8 : Int32) &&& Int32.toUInt32 31)).toInt32) >>> (Int32.toUInt32 (4 : Int32) &&& Int32.toUInt32 31)).toInt32) ≤ (4 : Int32) then (((((1 : Int32) + (16 : Int32)) + (8 : Int32)) + (4 : Int32)) + ((Int32.toUInt32 ((Int32.toUInt32 ((Int32.toUInt32 ((Int32.toUInt32 z0 >>> (Int32.toUInt32 (16 : Int32) &&& Int32.toUInt32 31)).toInt32) >>> (Int32.toUInt32 (8 : Int32) &&& Int32.toUInt32 31)).toInt32) >>> (Int32.toUInt32 (4 : Int32) &&& Int32.toUInt32 31)).toInt32) >>> (Int32.toUInt32 (1 : Int32) &&& Int32.toUInt32 31)).toInt32)) else ((((((1 : Int32) + (16 : Int32)) + (8 : Int32)) + (4 : Int32)) + (2 : Int32)) + ((Int32.toUInt32 ((Int32.toUInt32 ((Int32.toUInt32 ((Int32.toUInt32 ((Int32.toUInt32 z0 >>> (Int32.toUInt32 (16 : Int32) &&& Int32.toUInt32 31)).toInt32) >>> (Int32.toUInt32 (8 : Int32) &&& Int32.toUInt32 31)).toInt32) >>> (Int32.toUInt32 (4 : Int32) &&& Int32.toUInt32 31)).toInt32) >>> (Int32.toUInt32 (2 : Int32) &&& Int32.toUInt32 31)).toInt32) >>> (Int32.toUInt32 (1 : Int32) &&& Int32.toUInt32 31)).toInt32)))))) else (z0 &&& (32 : Int32)))
theorem ntz_tab : ∀ t : Nat, t < 24 → F_J6_ntz_tail (nI (2 ^ t - 1)) = nI t := by decide +kernel
theorem ntz_is {x : Int32} (h : tn x < 16777216) (h0 : ¬ x = 0) : ∃ t : Nat, t < 24 ∧ bt x t = true ∧ F_J6_numberOfTrailingZeros_0f7a4 x = nI t := by
  obtain ⟨t, a, b, c⟩ := ntz_core h h0
  refine ⟨t, a, b, ?_⟩
  show F_J6_ntz_tail ((x ^^^ (-1)) &&& (x - 1)) = nI t
  rw [c]; exact ntz_tab t a
/-! masters never go round -/
def pm (f : Nat → Int32) (σ : Int32 → Nat) (a : Nat) : Nat := if f (72 + a) = 0 then 0 else ct (fun i => isT f i && (decide (¬ f (48 + i) = 0) && decide (σ (f (48 + i)) ≤ σ (f (72 + a))))) 24
theorem pm_24 {f : Nat → Int32} {σ : Int32 → Nat} {a : Nat} : pm f σ a ≤ 24 := by
  unfold pm; split
  · omega
  · exact ct_le _ 24
theorem ct_lt {p q : Nat → Bool} {k : Nat} (hk : k < 24) (hp : p k = false) (hq : q k = true) (h : ∀ i, i < 24 → p i = true → q i = true) : ct p 24 < ct q 24 := by
  have e := ct_put (p := p) (q := fun i => if i = k then true else p i) (k := k) hp (if_pos rfl) (fun i w => if_neg w) 24 hk
  have m := ct_mono (p := fun i => if i = k then true else p i) (q := q) 24 (fun i hi w => by
    by_cases z : i = k
    · rw [z]; exact hq
    · simp only [z, if_false] at w; exact h i hi w)
  omega
theorem pm_s {f : Nat → Int32} {σ : Int32 → Nat} {a b g x : Int32} (h2 : P2A f σ) (ha : thr f a) (eg : g = f (72 + a.toNatClampNeg)) (hg : ¬ g = 0) (ex : x = F_X12_inGroup f g) (hx : ¬ x = 0) (eb : b = F_J6_numberOfTrailingZeros_0f7a4 x) : thr f b ∧ pm f σ b.toNatClampNeg < pm f σ a.toNatClampNeg := by
  have hs : SB f x := by rw [ex]; exact SB_inGroup
  obtain ⟨t, t1, t2, t3⟩ := ntz_is hs.lt hx
  have hb : b = nI t := eb.trans t3
  have hbn : b.toNatClampNeg = t := by rw [hb]; exact cl_of (nI_toInt (by omega))
  have hth : thr f b := by rw [hb]; exact (hs t t2).2
  rw [ex, grp_bits, Bool.and_eq_true, Bool.and_eq_true] at t2
  have tg : f (48 + t) = g := of_decide_eq_true t2.2.2
  have tt : isT f t = true := t2.2.1
  refine ⟨hth, ?_⟩
  rw [hbn]
  have ha' : pm f σ a.toNatClampNeg = ct (fun i => isT f i && (decide (¬ f (48 + i) = 0) && decide (σ (f (48 + i)) ≤ σ g))) 24 := by
    unfold pm; rw [← eg, if_neg hg]
  rw [ha']
  have qk : (fun i => isT f i && (decide (¬ f (48 + i) = 0) && decide (σ (f (48 + i)) ≤ σ g))) t = true := by
    show (isT f t && (decide (¬ f (48 + t) = 0) && decide (σ (f (48 + t)) ≤ σ g))) = true
    rw [tt, tg]; simp [hg]
  by_cases c : f (72 + t) = 0
  · have : pm f σ t = 0 := by unfold pm; rw [if_pos c]
    rw [this]
    have := ct_lt (p := fun _ => false) (q := fun i => isT f i && (decide (¬ f (48 + i) = 0) && decide (σ (f (48 + i)) ≤ σ g))) t1 rfl qk (fun i _ w => by cases w)
    omega
  · have hp : pm f σ t = ct (fun i => isT f i && (decide (¬ f (48 + i) = 0) && decide (σ (f (48 + i)) ≤ σ (f (72 + t))))) 24 := by unfold pm; rw [if_neg c]
    rw [hp]
    have hr := h2 t t1 ⟨t1, of_decide_eq_true tt⟩ (by rw [tg]; exact hg) c
    rw [tg] at hr
    refine ct_lt t1 ?_ qk (fun i _ w => ?_)
    · show (isT f t && (decide (¬ f (48 + t) = 0) && decide (σ (f (48 + t)) ≤ σ (f (72 + t))))) = false
      rw [tg]
      have : ¬ σ g ≤ σ (f (72 + t)) := by omega
      simp [this]
    · simp only [Bool.and_eq_true, decide_eq_true_eq] at w ⊢
      exact ⟨w.1, w.2.1, by omega⟩
theorem ix72 {f : Nat → Int32} {a x : Int32} (h : thr f a) (e : x = 72 + a) : vp_in x 122 ∧ x.toNatClampNeg = 72 + a.toNatClampNeg := by
  have h1 := h.1.1; have h2 := h.1.2
  have q : x.toNatClampNeg = 72 + a.toNatClampNeg := by rw [e]; exact add_cl (n := 72) rfl (by decide) (rg_w h.1 (by decide) (by decide))
  have z : x.toInt = 72 + a.toInt := by rw [e]; exact ti_add (x := 72) (by show _ ≤ 72 + a.toInt; omega) (by show 72 + a.toInt ≤ _; omega)
  exact ⟨vp_in_iff.mpr ⟨by omega, by omega⟩, q⟩
theorem ma_r {f : Nat → Int32} {σ : Int32 → Nat} {n n1 : Int32} {a b : Nat} (h : n.toInt + (pm f σ a : Int) ≤ 24) (h0 : 0 ≤ n.toInt) (hs : pm f σ b < pm f σ a) (e : n1 = n + 1) : n1.toInt + (pm f σ b : Int) ≤ 24 := by
  have q : n1.toInt = n.toInt + 1 := by rw [e]; exact ti_add (y := 1) (by show _ ≤ n.toInt + 1; omega) (by show n.toInt + 1 ≤ _; omega)
  omega
/-! sheets -/
theorem sh_s {f fl f1 : Nat → Int32} {i k v : Int32} (h : ∀ j, (j < 96 ∨ 120 ≤ j) → fl j = f j) (hu : UB fl) (hk : rgI 0 23 k) (ei : i = 96 + k) (hv : v = 0 ∨ v = 1) (e : f1 = upd fl i.toNatClampNeg v) : (∀ j, (j < 96 ∨ 120 ≤ j) → f1 j = f j) ∧ UB f1 := by
  have hl : k.toNatClampNeg < 24 := by have := cl_nat hk.1; have := hk.2; omega
  have q : i.toNatClampNeg = 96 + k.toNatClampNeg := by rw [ei]; exact add_cl (n := 96) rfl (by decide) (rg_w hk (by decide) (by decide))
  rw [q] at e
  refine ⟨fun j hj => ?_, by rw [e]; exact UB_v hv hu⟩
  rw [e, upd_ne (by omega)]; exact h j hj
