/-! ===== how many are there ===== -/
theorem ct_put {p q : Nat → Bool} {k : Nat} (hp : p k = false) (hq : q k = true) (e : ∀ i, i ≠ k → q i = p i) : ∀ n, k < n → ct q n = ct p n + 1
  | 0, h => absurd h (Nat.not_lt_zero _)
  | n + 1, h => by
    unfold ct
    by_cases c : k = n
    · subst c
      rw [hp, hq, ct_cong k (fun i hi => e i (by omega))]
      rfl
    · rw [ct_put hp hq e n (by omega), e n (fun z => c z.symm)]
      omega
theorem bt_one_is {n i : Nat} (hn : n < 32) : bt ((1 : Int32) <<< (nI n &&& 31)) i = decide (i = n) := by
  cases h : bt ((1 : Int32) <<< (nI n &&& 31)) i with
  | true => rw [bt_one hn h, decide_eq_true rfl]
  | false =>
    by_cases c : i = n
    · subst c
      rw [b_shl i hn 1 hn, Nat.sub_self] at h
      have : bt 1 0 = true := by decide
      rw [this, decide_eq_true (Nat.le_refl _)] at h
      cases h
    · rw [decide_eq_false c]
theorem isThere_0 {f : Nat → Int32} {k : Int32} (hk : rgI 0 23 k) (h : F_X12_isThere f k = 0) : f k.toNatClampNeg = -1 := by
  unfold F_X12_isThere F_X12_in at h
  have k1 := hk.1; have k2 := hk.2
  have n1 : ¬ k < 0 := fun q => by have := fz_lt.mp q; have z : (0 : Int32).toInt = 0 := rfl; omega
  have n2 : ¬ (23 : Int32) < k := fun q => by have := fz_lt.mp q; have z : (23 : Int32).toInt = 23 := rfl; omega
  rw [if_neg n1, if_neg n2, if_neg (show ¬ (1 : Int32) = 0 by decide)] at h
  by_cases c : f k.toNatClampNeg = -1
  · exact c
  · rw [if_neg c] at h; exact absurd h (by decide)
abbrev isT (f : Nat → Int32) (i : Nat) : Bool := decide (¬ f i = -1)
theorem there_4 {f : Nat → Int32} : ∀ (n : Nat) (y1 y2 : Int32), rgI 0 24 y2 → (24 - y2.toInt).toNat < n → (∀ i, bt y1 i = (decide (i < y2.toNatClampNeg) && isT f i)) → ∀ i, bt (F_X12_thereOf_4 f n y1 y2) i = (decide (i < 24) && isT f i) := by
  intro n
  induction n with
  | zero => intro y1 y2 _ h; exact absurd h (Nat.not_lt_zero _)
  | succ n ih =>
    intro y1 y2 hy hn hb
    have h1 := hy.1; have h2 := hy.2
    have hc := cl_nat h1
    rw [F_X12_thereOf_4]
    by_cases c1 : (24 : Int32) ≤ y2
    · rw [if_pos c1]
      have := fz_le.mp c1
      have z : (24 : Int32).toInt = 24 := rfl
      have e : y2.toNatClampNeg = 24 := by omega
      rw [e] at hb
      exact hb
    · rw [if_neg c1]
      have lt := fz_lt.mp (nle_lt c1)
      have z : (24 : Int32).toInt = 24 := rfl
      have e : (y2 + 1).toInt = y2.toInt + 1 := ti_add (y := 1) (by show _ ≤ y2.toInt + 1; omega) (by show y2.toInt + 1 ≤ _; omega)
      have e2 : (y2 + 1).toNatClampNeg = y2.toNatClampNeg + 1 := cl_of (by rw [e]; omega)
      have r : rgI 0 23 y2 := ⟨h1, by omega⟩
      have ey : y2 = nI y2.toNatClampNeg := Int32.toInt_inj.mp (by rw [nI_toInt (by omega)]; omega)
      by_cases c2 : F_X12_isThere f y2 = 0
      · rw [if_pos c2]
        have hf := isThere_0 r c2
        refine ih _ _ ⟨by omega, by omega⟩ (by omega) (fun i => ?_)
        rw [b_or, b_0, Bool.or_false, hb i, e2]
        by_cases q : i = y2.toNatClampNeg
        · have : isT f i = false := by rw [q]; exact decide_eq_false (fun w => w hf)
          rw [this, Bool.and_false, Bool.and_false]
        · have : decide (i < y2.toNatClampNeg) = decide (i < y2.toNatClampNeg + 1) := by
            by_cases w : i < y2.toNatClampNeg
            · rw [decide_eq_true w, decide_eq_true (by omega)]
            · rw [decide_eq_false w, decide_eq_false (by omega)]
          rw [this]
      · rw [if_neg c2]
        have ht := F_isThere_thr c2
        refine ih _ _ ⟨by omega, by omega⟩ (by omega) (fun i => ?_)
        rw [b_or, hb i, e2, ey, bt_one_is (by omega), nI_clamp (by omega)]
        by_cases q : i = y2.toNatClampNeg
        · have : isT f i = true := by rw [q]; exact decide_eq_true ht.2
          rw [this, decide_eq_true q, Bool.or_true, decide_eq_true (by omega)]
          rfl
        · rw [decide_eq_false q, Bool.or_false]
          have : decide (i < y2.toNatClampNeg) = decide (i < y2.toNatClampNeg + 1) := by
            by_cases w : i < y2.toNatClampNeg
            · rw [decide_eq_true w, decide_eq_true (by omega)]
            · rw [decide_eq_false w, decide_eq_false (by omega)]
          rw [this]
theorem there_bits (f : Nat → Int32) (i : Nat) : bt (F_X12_thereOf f) i = (decide (i < 24) && isT f i) := there_4 26 0 0 ⟨by decide, by decide⟩ (by decide) (fun i => by rw [b_0]; rfl) i
theorem SB_thereOf (f : Nat → Int32) : SB f (F_X12_thereOf f) := fun i h => by
  rw [there_bits, Bool.and_eq_true] at h
  have h1 := of_decide_eq_true h.1
  exact ⟨h1, tN_thr ⟨h1, of_decide_eq_true h.2⟩⟩
theorem cnt_is {f : Nat → Int32} {x : Int32} (h : SB f x) : F_J6_bitCount_0f7a4 x = nI (ct (bt x) 24) := by
  rw [bitCount_is h.lt, cN_ct h.lt]
  rfl
theorem cnt_there (f : Nat → Int32) : F_J6_bitCount_0f7a4 (F_X12_thereOf f) = nI (ct (isT f) 24) := by
  rw [cnt_is (SB_thereOf f), ct_cong (q := isT f) 24 (fun i hi => by rw [there_bits, decide_eq_true hi]; rfl)]
theorem free_lt {f : Nat → Int32} (h : ct (isT f) 24 < 24) : (F_X12_freeOf f).toInt < 24 := by
  obtain ⟨a, b, -⟩ := free_is f
  by_cases c : (F_X12_freeOf f).toInt < 24
  · exact c
  · have := cl_nat a.1
    have e : ct (isT f) 24 = 24 := ct_all 24 (fun i hi => decide_eq_true (b i (by have := a.2; omega)))
    omega
theorem cnt_comes {f : Nat → Int32} {m d g s : Int32} (hm : ¬ m = -1) (hl : (F_X12_freeOf f).toInt < 24) : ct (isT (F_X12_comes f m d g s).2) 24 = ct (isT f) 24 + 1 := by
  obtain ⟨a, -, b⟩ := free_is f
  have hk : (F_X12_freeOf f).toNatClampNeg < 24 := by have := cl_nat a.1; omega
  have e1 : ct (isT (F_X12_comes f m d g s).2) 24 = ct (fun i => if i = (F_X12_freeOf f).toNatClampNeg then true else isT f i) 24 := ct_cong 24 (fun i hi => by
    show decide (¬ (F_X12_comes f m d g s).2 i = -1) = _
    rw [comes_row hi]
    by_cases q : i = (F_X12_freeOf f).toNatClampNeg
    · rw [if_pos q, if_pos q]; exact decide_eq_true hm
    · rw [if_neg q, if_neg q])
  rw [e1]
  refine ct_put (k := (F_X12_freeOf f).toNatClampNeg) (decide_eq_false (fun w => w (b hl))) (if_pos rfl) (fun i q => if_neg q) 24 hk
