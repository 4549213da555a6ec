/-! ===== who is in a group ===== -/
abbrev isG (f : Nat → Int32) (g : Int32) (i : Nat) : Bool := isT f i && decide (f (48 + i) = g)
theorem dec_succ {i y : Nat} (q : ¬ i = y) : decide (i < y) = decide (i < y + 1) := by
  by_cases w : i < y
  · rw [decide_eq_true w, decide_eq_true (by omega)]
  · rw [decide_eq_false w, decide_eq_false (by omega)]
theorem grp_4 {f : Nat → Int32} {g : Int32} : ∀ (n : Nat) (y2 y3 : Int32), rgI 0 24 y3 → (24 - y3.toInt).toNat < n → (∀ i, bt y2 i = (decide (i < y3.toNatClampNeg) && isG f g i)) → ∀ i, bt (F_X12_inGroup_4 f n g y2 y3) i = (decide (i < 24) && isG f g i) := by
  intro n
  induction n with
  | zero => intro y2 y3 _ h; exact absurd h (Nat.not_lt_zero _)
  | succ n ih =>
    intro y2 y3 hy hn hb
    have h1 := hy.1; have h2 := hy.2
    have hc := cl_nat h1
    rw [F_X12_inGroup_4]
    by_cases c1 : (24 : Int32) ≤ y3
    · rw [if_pos c1]
      have := fz_le.mp c1
      have z : (24 : Int32).toInt = 24 := rfl
      have e : y3.toNatClampNeg = 24 := by omega
      rw [e] at hb
      exact hb
    · rw [if_neg c1]
      have lt := fz_lt.mp (nle_lt c1)
      have z : (24 : Int32).toInt = 24 := rfl
      have e : (y3 + 1).toInt = y3.toInt + 1 := ti_add (y := 1) (by show _ ≤ y3.toInt + 1; omega) (by show y3.toInt + 1 ≤ _; omega)
      have e2 : (y3 + 1).toNatClampNeg = y3.toNatClampNeg + 1 := cl_of (by rw [e]; omega)
      have r : rgI 0 23 y3 := ⟨h1, by omega⟩
      have ey : y3 = nI y3.toNatClampNeg := Int32.toInt_inj.mp (by rw [nI_toInt (by omega)]; omega)
      have e48 : ((48 : Int32) + y3).toNatClampNeg = 48 + y3.toNatClampNeg := add_cl (n := 48) rfl (by decide) hy
      have no : isG f g y3.toNatClampNeg = false → ∀ i, bt (F_X12_inGroup_4 f n g (y2 ||| 0) (y3 + 1)) i = (decide (i < 24) && isG f g i) := fun hf =>
        ih _ _ ⟨by omega, by omega⟩ (by omega) (fun i => by
          rw [b_or, b_0, Bool.or_false, hb i, e2]
          by_cases q : i = y3.toNatClampNeg
          · rw [q, hf, Bool.and_false, Bool.and_false]
          · rw [dec_succ q])
      by_cases c2 : F_X12_isThere f y3 = 0
      · rw [if_pos c2]
        have hf := isThere_0 r c2
        refine no ?_
        have w : isT f y3.toNatClampNeg = false := decide_eq_false (fun w => w hf)
        show (isT f y3.toNatClampNeg && _) = false
        rw [w, Bool.false_and]
      · rw [if_neg c2, e48]
        have ht := F_isThere_thr c2
        by_cases c3 : f (48 + y3.toNatClampNeg) = g
        · rw [if_pos c3]
          have hg : isG f g y3.toNatClampNeg = true := by
            show (decide _ && decide _) = true
            rw [decide_eq_true ht.2, decide_eq_true c3]; rfl
          refine ih _ _ ⟨by omega, by omega⟩ (by omega) (fun i => ?_)
          rw [b_or, hb i, e2]
          have eb : bt ((1 : Int32) <<< (y3 &&& 31)) i = decide (i = y3.toNatClampNeg) := by
            have := bt_one_is (n := y3.toNatClampNeg) (i := i) (by omega)
            rw [← ey] at this; exact this
          rw [eb]
          by_cases q : i = y3.toNatClampNeg
          · rw [decide_eq_true q, Bool.or_true, decide_eq_true (by omega), q, hg]; rfl
          · rw [decide_eq_false q, Bool.or_false, dec_succ q]
        · rw [if_neg c3]
          refine no ?_
          show (isT f y3.toNatClampNeg && decide _) = false
          rw [decide_eq_false c3, Bool.and_false]
theorem grp_bits (f : Nat → Int32) (g : Int32) (i : Nat) : bt (F_X12_inGroup f g) i = (decide (i < 24) && isG f g i) := grp_4 26 0 0 ⟨by decide, by decide⟩ (by decide) (fun i => by rw [b_0]; rfl) i
theorem ct_two {p : Nat → Bool} {k : Nat} : ∀ n, 1 < ct p n → ∃ i, i < n ∧ i ≠ k ∧ p i = true
  | 0, h => absurd h (by unfold ct; omega)
  | n + 1, h => by
    by_cases c : ∃ i, i < n + 1 ∧ i ≠ k ∧ p i = true
    · exact c
    · exfalso
      have no : ∀ i, i < n + 1 → i ≠ k → p i = false := fun i hi hk => by
        cases q : p i with
        | false => rfl
        | true => exact absurd ⟨i, hi, hk, q⟩ c
      have one : ∀ m, m ≤ n + 1 → ct p m ≤ (if k < m then 1 else 0) := by
        intro m
        induction m with
        | zero => intro _; exact Nat.le_of_eq rfl
        | succ m ih =>
          intro hm
          have a := ih (by omega)
          unfold ct
          by_cases q : m = k
          · subst q
            rw [if_neg (Nat.lt_irrefl _)] at a
            rw [if_pos (Nat.lt_succ_self _)]
            cases p m <;> simp <;> omega
          · rw [no m (by omega) q]
            by_cases w : k < m
            · rw [if_pos w] at a; rw [if_pos (show k < m + 1 by omega)]; simpa using a
            · rw [if_neg w] at a; rw [if_neg (show ¬ k < m + 1 by omega)]; simpa using a
      have := one (n + 1) (Nat.le_refl _)
      split at this <;> omega
/-- two in a group: when m leaves it, it is not empty -/
theorem grp_more {f f' : Nat → Int32} {g : Int32} {k : Nat} (h : ¬ F_J6_bitCount_0f7a4 (F_X12_inGroup f g) ≤ 1) (e1 : ∀ i, i < 24 → f' i = f i) (e2 : ∀ i, i < 24 → i ≠ k → f' (48 + i) = f (48 + i)) : ¬ F_X12_inGroup f' g = 0 := by
  rw [cnt_is SB_inGroup] at h
  have hl := ct_le (bt (F_X12_inGroup f g)) 24
  have h1 : 1 < ct (bt (F_X12_inGroup f g)) 24 := by
    refine Nat.lt_of_not_le (fun q => h ?_)
    have z : (1 : Int32).toInt = 1 := rfl
    exact fz_le.mpr (by rw [nI_toInt (by omega)]; omega)
  obtain ⟨i, hi, hk, hb⟩ := ct_two (k := k) 24 h1
  intro q
  have b := grp_bits f' g i
  rw [q, b_0, decide_eq_true hi, Bool.true_and] at b
  rw [grp_bits, decide_eq_true hi, Bool.true_and] at hb
  have : isG f' g i = isG f g i := by
    show (decide (¬ f' i = -1) && decide (f' (48 + i) = g)) = (decide (¬ f i = -1) && decide (f (48 + i) = g))
    rw [e1 i hi, e2 i hi hk]
  rw [this, hb] at b
  cases b
