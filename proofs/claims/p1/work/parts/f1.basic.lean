/-! ===== years: class and reference hold the same mounts (1: loops, what is where) ===== -/
theorem dn {p : Prop} [Decidable p] (h : p) : decide (¬ p) = false := decide_eq_false (fun w => w h)
theorem k24 {k : Nat} (h : k < 24) : ¬ (24 : Int32) ≤ nI k := fun q => by
  have q := fz_le.mp q
  rw [nI_toInt (by omega)] at q
  have z : (24 : Int32).toInt = 24 := rfl
  omega
theorem k24e : (24 : Int32) ≤ nI 24 := by decide +kernel
theorem nI_24 : nI 24 = 24 := by decide +kernel
theorem nI_cl {k : Nat} (h : k < 24) : (nI k).toNatClampNeg = k := nI_clamp (by omega)
theorem nI_s (k : Nat) : nI k + 1 = nI (k + 1) := (nI_succ k).symm
theorem nI_inj {a b : Nat} (ha : a < 2147483648) (hb : b < 2147483648) (h : nI a = nI b) : a = b := by
  have := congrArg Int32.toInt h
  rw [nI_toInt ha, nI_toInt hb] at this
  omega
theorem bits_loop (L : Nat → Int32 → Int32 → Int32) (P : Nat → Bool) (h0 : ∀ n acc, L (n + 1) acc (nI 24) = acc) (h1 : ∀ n acc k, k < 24 → L (n + 1) acc (nI k) = if P k = true then L n (acc ||| (1 <<< (nI k &&& 31))) (nI (k + 1)) else L n acc (nI (k + 1))) :
    ∀ (j k n : Nat) (acc : Int32), k + j = 24 → j < n → ∀ i, bt (L n acc (nI k)) i = (bt acc i || (decide (k ≤ i) && (decide (i < 24) && P i))) := by
  intro j
  induction j with
  | zero =>
    intro k n acc hk hn i
    obtain ⟨n, rfl⟩ : ∃ z, n = z + 1 := ⟨n - 1, by omega⟩
    have e : k = 24 := by omega
    subst e
    rw [h0]
    by_cases c : i < 24
    · rw [decide_eq_false (show ¬ 24 ≤ i by omega), Bool.false_and, Bool.or_false]
    · rw [decide_eq_false c, Bool.false_and, Bool.and_false, Bool.or_false]
  | succ j ih =>
    intro k n acc hk hn i
    obtain ⟨n, rfl⟩ : ∃ z, n = z + 1 := ⟨n - 1, by omega⟩
    rw [h1 n acc k (by omega)]
    have key : ∀ i, i ≠ k → decide (k + 1 ≤ i) = decide (k ≤ i) := fun i hi => by
      by_cases c : k ≤ i
      · rw [decide_eq_true c, decide_eq_true (by omega)]
      · rw [decide_eq_false c, decide_eq_false (by omega)]
    by_cases c : P k = true
    · rw [if_pos c, ih (k + 1) n _ (by omega) (by omega) i, b_or, bt_one_is (by omega)]
      by_cases q : i = k
      · subst q
        rw [c, decide_eq_true (Nat.le_refl i), decide_eq_true (show i < 24 by omega)]
        simp
      · rw [decide_eq_false q, Bool.or_false, key i q]
    · rw [if_neg c, ih (k + 1) n acc (by omega) (by omega) i]
      by_cases q : i = k
      · subst q
        have : P i = false := by cases h : P i with | true => exact absurd h c | false => rfl
        rw [this]
        simp
      · rw [key i q]
/-- the first of which it is so, from k on -/
def fstF (P : Nat → Bool) : Nat → Nat → Int32
  | 0, _ => 24
  | j + 1, k => if P k = true then nI k else fstF P j (k + 1)
theorem least_loop (L : Nat → Int32 → Int32) (P : Nat → Bool) (h0 : ∀ n, L (n + 1) (nI 24) = 24) (h1 : ∀ n k, k < 24 → L (n + 1) (nI k) = if P k = true then nI k else L n (nI (k + 1))) :
    ∀ (j k n : Nat), k + j = 24 → j < n → L n (nI k) = fstF P j k := by
  intro j
  induction j with
  | zero =>
    intro k n hk hn
    obtain ⟨n, rfl⟩ : ∃ z, n = z + 1 := ⟨n - 1, by omega⟩
    have e : k = 24 := by omega
    subst e
    rw [h0]; rfl
  | succ j ih =>
    intro k n hk hn
    obtain ⟨n, rfl⟩ : ∃ z, n = z + 1 := ⟨n - 1, by omega⟩
    rw [h1 n k (by omega), fstF]
    by_cases c : P k = true
    · rw [if_pos c, if_pos c]
    · rw [if_neg c, if_neg c, ih (k + 1) n (by omega) (by omega)]
theorem fstF_cong {P Q : Nat → Bool} : ∀ (j k : Nat), (∀ i, k ≤ i → i < k + j → P i = Q i) → fstF P j k = fstF Q j k
  | 0, _, _ => rfl
  | j + 1, k, h => by rw [fstF, fstF, h k (Nat.le_refl _) (by omega), fstF_cong j (k + 1) (fun i a b => h i (by omega) (by omega))]
theorem fstF_is {P : Nat → Bool} : ∀ (j k : Nat), k + j = 24 → (∃ i, k ≤ i ∧ i < 24 ∧ fstF P j k = nI i ∧ P i = true ∧ ∀ l, k ≤ l → l < i → P l = false) ∨ (fstF P j k = 24 ∧ ∀ l, k ≤ l → l < 24 → P l = false)
  | 0, k, h => Or.inr ⟨rfl, fun l a b => absurd a (by omega)⟩
  | j + 1, k, h => by
    rw [fstF]
    cases c : P k with
    | true => exact Or.inl ⟨k, Nat.le_refl _, by omega, if_pos rfl, c, fun l a b => absurd a (by omega)⟩
    | false =>
      rw [if_neg (by decide)]
      rcases fstF_is (P := P) j (k + 1) (by omega) with ⟨i, a, b, e, d, u⟩ | ⟨e, u⟩
      · refine Or.inl ⟨i, by omega, b, e, d, fun l x y => ?_⟩
        by_cases q : l = k
        · rw [q]; exact c
        · exact u l (by omega) y
      · refine Or.inr ⟨e, fun l x y => ?_⟩
        by_cases q : l = k
        · rw [q]; exact c
        · exact u l (by omega) y
theorem fstF_0 {P : Nat → Bool} (h : P 0 = false) : fstF P 24 0 = fstF P 23 1 := by
  rw [show (24 : Nat) = 23 + 1 from rfl, fstF, h, if_neg (by decide)]
theorem bit_and0 {s : Int32} {k : Nat} (hk : k < 32) : (s &&& (1 <<< (nI k &&& 31)) = 0) ↔ bt s k = false := by
  constructor
  · intro h
    have h2 : bt (s &&& (1 <<< (nI k &&& 31))) k = false := by rw [h, b_0]
    rw [b_and, bt_one_is hk, decide_eq_true rfl, Bool.and_true] at h2
    exact h2
  · intro h
    refine b_ext (fun i _ => ?_)
    rw [b_and, bt_one_is hk, b_0]
    by_cases q : i = k
    · subst q; rw [h]; rfl
    · rw [decide_eq_false q, Bool.and_false]
theorem b_neg (x : Int32) {i : Nat} (hi : i < 32) : bt (x ^^^ (-1)) i = !(bt x i) := by
  rw [b_xor, b_m1 i hi]
  cases bt x i <;> rfl
/-- what the class asks, bit by bit -/
theorem having_bits (r : Nat → Int32) (x : Int32) (i : Nat) : bt (F_X10_having r x) i = (decide (i < 24) && decide (r i = x)) := by
  have h := bits_loop (fun n acc y => F_X10_having_4 n x acc y r) (fun k => decide (r k = x)) (fun n acc => by
      show F_X10_having_4 (n + 1) x acc (nI 24) r = acc
      rw [F_X10_having_4, if_pos k24e]) (fun n acc k hk => by
      show F_X10_having_4 (n + 1) x acc (nI k) r = _
      rw [F_X10_having_4, if_neg (k24 hk), if_neg (k24 hk), nI_cl hk, nI_s]
      by_cases c : r k = x
      · rw [if_pos c, if_pos (decide_eq_true c)]
      · rw [if_neg c, if_neg (by rw [decide_eq_false c]; decide)]) 24 0 26 0 rfl (by decide) i
  rw [b_0, decide_eq_true (Nat.zero_le i), Bool.false_or, Bool.true_and] at h
  exact h
theorem withGroup_bits (r : Nat → Int32) (x : Int32) (i : Nat) : bt (F_X10_withGroup r x) i = (decide (¬ x = 0) && (decide (i < 24) && decide (r i = x))) := by
  unfold F_X10_withGroup
  by_cases c : x = 0
  · rw [if_pos c, b_0, dn c]; rfl
  · rw [if_neg c, having_bits, decide_eq_true c]; rfl
theorem withMaster_bits (r : Nat → Int32) (x : Int32) (i : Nat) : bt (F_X10_withMaster r x) i = (decide (¬ x = 0) && (decide (i < 24) && decide (r i = x))) := withGroup_bits r x i
theorem leastOf_is (s : Int32) : F_X10_leastOf s = fstF (fun k => bt s k) 24 0 := by
  refine least_loop (fun n y => F_X10_leastOf_2 n s y) (fun k => bt s k) (fun n => ?_) (fun n k hk => ?_) 24 0 26 rfl (by decide)
  · show F_X10_leastOf_2 (n + 1) s (nI 24) = 24
    rw [F_X10_leastOf_2, if_pos k24e]
  · show F_X10_leastOf_2 (n + 1) s (nI k) = _
    rw [F_X10_leastOf_2, if_neg (k24 hk), nI_s]
    cases c : bt s k with
    | true => rw [if_neg (fun q => by rw [(bit_and0 (by omega)).mp q] at c; cases c), if_pos rfl]
    | false => rw [if_pos ((bit_and0 (by omega)).mpr c), if_neg (by decide)]
theorem mountAt_x {p : Nat → Int32} {x : Int32} (hx : ¬ x < 0) : F_X10_mountAt_9 26 x 0 p = fstF (fun k => decide (p k = x)) 24 0 := by
  refine least_loop (fun n y => F_X10_mountAt_9 n x y p) (fun k => decide (p k = x)) (fun n => ?_) (fun n k hk => ?_) 24 0 26 rfl (by decide)
  · show F_X10_mountAt_9 (n + 1) x (nI 24) p = 24
    rw [F_X10_mountAt_9, if_pos k24e]
  · show F_X10_mountAt_9 (n + 1) x (nI k) p = _
    rw [F_X10_mountAt_9, if_neg (k24 hk), if_neg hx, nI_cl hk, nI_s]
    by_cases c : p k = x
    · rw [if_pos c, if_pos (decide_eq_true c)]
    · rw [if_neg c, if_neg (by rw [decide_eq_false c]; decide)]
theorem atOf_x (f : Nat → Int32) (m d : Int32) : F_X12_atOf f m d = fstF (fun k => decide (f k = m) && decide (f (24 + k) = d)) 23 1 := by
  refine least_loop (fun n y => F_X12_atOf_2 f n m d y) (fun k => decide (f k = m) && decide (f (24 + k) = d)) (fun n => ?_) (fun n k hk => ?_) 23 1 26 rfl (by decide)
  · show F_X12_atOf_2 f (n + 1) m d (nI 24) = 24
    rw [F_X12_atOf_2, if_pos k24e]
  · show F_X12_atOf_2 f (n + 1) m d (nI k) = _
    have e24 : ((24 : Int32) + nI k).toNatClampNeg = 24 + k := by
      have := add_cl (c := 24) (k := nI k) (n := 24) rfl (by decide) ⟨by rw [nI_toInt (by omega)]; omega, by rw [nI_toInt (by omega)]; omega⟩
      rw [this, nI_cl hk]
    rw [F_X12_atOf_2, if_neg (k24 hk), nI_cl hk, nI_s, e24]
    by_cases c : f k = m
    · rw [if_pos c]
      by_cases c2 : f (24 + k) = d
      · rw [if_pos c2, if_pos (by rw [decide_eq_true c, decide_eq_true c2]; rfl)]
      · rw [if_neg c2, if_neg (by rw [decide_eq_true c, decide_eq_false c2]; decide)]
    · rw [if_neg c, if_neg (by rw [decide_eq_false c, Bool.false_and]; decide)]
theorem freeOf_x (f : Nat → Int32) : F_X12_freeOf f = fstF (fun k => decide (f k = -1)) 24 0 := by
  refine least_loop (fun n y => F_X12_freeOf_2 f n y) (fun k => decide (f k = -1)) (fun n => ?_) (fun n k hk => ?_) 24 0 26 rfl (by decide)
  · show F_X12_freeOf_2 f (n + 1) (nI 24) = 24
    rw [F_X12_freeOf_2, if_pos k24e, nI_24]
  · show F_X12_freeOf_2 f (n + 1) (nI k) = _
    rw [F_X12_freeOf_2, if_neg (k24 hk), nI_cl hk, nI_s]
    by_cases c : f k = -1
    · rw [if_pos c, if_pos (decide_eq_true c)]
    · rw [if_neg c, if_neg (by rw [decide_eq_false c]; decide)]
/-- class and reference hold the same mounts; nobody has a master, nobody is unbindable -/
def RV (p q m : Nat → Int32) (t u n : Int32) (f : Nat → Int32) : Prop :=
  (∀ i, bt t i = (decide (i < 24) && isT f i)) ∧ f 0 = 24 ∧ p 0 = -1 ∧ (∀ i, i < 24 → f i = -1 → p i = -1) ∧
  (∀ i, 1 ≤ i → i < 24 → ¬ f i = -1 → ∃ a b : Nat, a < 24 ∧ b < 4 ∧ ¬ f a = -1 ∧ f i = nI a ∧ f (24 + i) = nI b ∧ p i = nI (4 * a + b)) ∧
  (∀ i, i < 24 → q i = f (48 + i)) ∧ (∀ i, i < 24 → f i = -1 → f (48 + i) = 0) ∧ (∀ i, i < 24 → m i = 0 ∧ f (72 + i) = 0 ∧ f (96 + i) = 0) ∧ u = 0 ∧ n = f 121
theorem RV.t {p q m : Nat → Int32} {t u n : Int32} {f : Nat → Int32} (h : RV p q m t u n f) : ∀ i, bt t i = (decide (i < 24) && isT f i) := h.1
theorem RV.q {p q m : Nat → Int32} {t u n : Int32} {f : Nat → Int32} (h : RV p q m t u n f) : ∀ i, i < 24 → q i = f (48 + i) := h.2.2.2.2.2.1
theorem RV.m {p q m : Nat → Int32} {t u n : Int32} {f : Nat → Int32} (h : RV p q m t u n f) : ∀ i, i < 24 → m i = 0 := fun i hi => (h.2.2.2.2.2.2.2.1 i hi).1
theorem RV.n {p q m : Nat → Int32} {t u n : Int32} {f : Nat → Int32} (h : RV p q m t u n f) : n = f 121 := h.2.2.2.2.2.2.2.2.2
section RLs
variable {p q m : Nat → Int32} {t u n : Int32} {f : Nat → Int32}
theorem RV.f0 (h : RV p q m t u n f) : f 0 = 24 := h.2.1
theorem RV.p0 (h : RV p q m t u n f) : p 0 = -1 := h.2.2.1
theorem RV.no (h : RV p q m t u n f) : ∀ i, i < 24 → f i = -1 → p i = -1 := h.2.2.2.1
theorem RV.pl (h : RV p q m t u n f) : ∀ i, 1 ≤ i → i < 24 → ¬ f i = -1 → ∃ a b : Nat, a < 24 ∧ b < 4 ∧ ¬ f a = -1 ∧ f i = nI a ∧ f (24 + i) = nI b ∧ p i = nI (4 * a + b) := h.2.2.2.2.1
theorem RV.q0 (h : RV p q m t u n f) : ∀ i, i < 24 → f i = -1 → f (48 + i) = 0 := h.2.2.2.2.2.2.1
theorem RV.m2 (h : RV p q m t u n f) : ∀ i, i < 24 → f (72 + i) = 0 := fun i hi => (h.2.2.2.2.2.2.2.1 i hi).2.1
theorem RV.u2 (h : RV p q m t u n f) : ∀ i, i < 24 → f (96 + i) = 0 := fun i hi => (h.2.2.2.2.2.2.2.1 i hi).2.2
theorem RV.u0 (h : RV p q m t u n f) : u = 0 := h.2.2.2.2.2.2.2.2.1
theorem RV.tt (h : RV p q m t u n f) : t = F_X12_thereOf f := b_ext (fun i _ => by rw [h.t, there_bits])
theorem RV.bt_t (h : RV p q m t u n f) {i : Nat} (hi : i < 24) : bt t i = isT f i := by rw [h.t, decide_eq_true hi]; rfl
/-- a mount is there, for both -/
theorem RV.has (h : RV p q m t u n f) (a : Int32) : F_X10_has t a = F_X12_isThere f a := by
  unfold F_X10_has F_X12_isThere F_X12_in
  by_cases c1 : a < 0
  · rw [if_pos c1, if_pos c1, if_pos rfl]
  · rw [if_neg c1, if_neg c1]
    by_cases c2 : (24 : Int32) ≤ a
    · have c3 : (23 : Int32) < a := fz_lt.mpr (by have := fz_le.mp c2; have z : (24 : Int32).toInt = 24 := rfl; have z2 : (23 : Int32).toInt = 23 := rfl; omega)
      rw [if_pos c2, if_pos c3, if_pos rfl]
    · have c3 : ¬ (23 : Int32) < a := fun w => c2 (fz_le.mpr (by have := fz_lt.mp w; have z : (24 : Int32).toInt = 24 := rfl; have z2 : (23 : Int32).toInt = 23 := rfl; omega))
      rw [if_neg c2, if_neg c3, if_neg (show ¬ (1 : Int32) = 0 by decide)]
      obtain ⟨k, hk, e⟩ := nI_of c1
      have hk2 : k < 24 := by
        have w := fz_lt.mp (nle_lt c2)
        rw [e, nI_toInt hk] at w
        have z : (24 : Int32).toInt = 24 := rfl
        omega
      subst e
      rw [nI_cl hk2]
      by_cases c : f k = -1
      · rw [if_pos c, if_pos ((bit_and0 (by omega)).mpr (by rw [h.bt_t hk2]; exact dn c))]
      · rw [if_neg c, if_neg (fun w => by rw [bit_and0 (by omega), h.bt_t hk2] at w; exact (of_decide_eq_false w) c)]
theorem isThere_k {a : Int32} (h : ¬ F_X12_isThere f a = 0) : ∃ k, k < 24 ∧ a = nI k ∧ ¬ f k = -1 := by
  have ht := F_isThere_thr h
  obtain ⟨j, hj, e⟩ := thr_nI ht
  refine ⟨j, hj, e, ?_⟩
  have := ht.2
  rw [e, nI_cl hj] at this
  exact this
theorem isDir_k {d : Int32} : (∃ b, b < 4 ∧ d = nI b) ∨ (F_X12_isDir d = 0 ∧ (d < 0 ∨ (4 : Int32) ≤ d)) := by
  unfold F_X12_isDir F_X12_in
  by_cases c1 : d < 0
  · exact Or.inr ⟨by rw [if_pos c1], Or.inl c1⟩
  · by_cases c2 : (3 : Int32) < d
    · exact Or.inr ⟨by rw [if_neg c1, if_pos c2], Or.inr (fz_le.mpr (by have := fz_lt.mp c2; have z : (3 : Int32).toInt = 3 := rfl; have z2 : (4 : Int32).toInt = 4 := rfl; omega))⟩
    · obtain ⟨k, hk, e⟩ := nI_of c1
      refine Or.inl ⟨k, ?_, e⟩
      have w := fz_le.mp (nlt_le c2)
      rw [e, nI_toInt hk] at w
      have z : (3 : Int32).toInt = 3 := rfl
      omega
theorem dir_k {b : Nat} (hb : b < 4) : ¬ nI b < 0 ∧ ¬ (4 : Int32) ≤ nI b ∧ F_X12_isDir (nI b) = 1 := by
  rcases (show b = 0 ∨ b = 1 ∨ b = 2 ∨ b = 3 by omega) with rfl | rfl | rfl | rfl <;> decide +kernel
/-- is there such a place: for both -/
theorem RV.place (h : RV p q m t u n f) (a d : Int32) : (F_X10_hasPlace t a d = 0 ∧ (F_X12_isThere f a = 0 ∨ F_X12_isDir d = 0)) ∨ (¬ F_X10_hasPlace t a d = 0 ∧ ¬ F_X12_isThere f a = 0 ∧ ¬ F_X12_isDir d = 0 ∧ ∃ k b, k < 24 ∧ b < 4 ∧ a = nI k ∧ d = nI b ∧ ¬ f k = -1) := by
  unfold F_X10_hasPlace
  rw [h.has]
  by_cases c : F_X12_isThere f a = 0
  · exact Or.inl ⟨by rw [if_pos c], Or.inl c⟩
  · obtain ⟨k, hk, e, ht⟩ := isThere_k c
    rcases isDir_k (d := d) with ⟨b, hb, e2⟩ | ⟨w, w2⟩
    · obtain ⟨d1, d2, d3⟩ := dir_k hb
      refine Or.inr ⟨?_, c, by rw [e2, d3]; decide, k, b, hk, hb, e, e2, ht⟩
      rw [if_neg c, e2, if_neg d1, if_neg d2]; decide
    · refine Or.inl ⟨?_, Or.inr w⟩
      rw [if_neg c]
      by_cases c1 : d < 0
      · rw [if_pos c1]
      · rw [if_neg c1, if_pos (w2.resolve_left c1)]
theorem place_val {k b : Nat} (hk : k < 24) (hb : b < 4) : (4 : Int32) * nI k + nI b = nI (4 * k + b) := by
  have a : (nI k).toInt = (k : Int) := nI_toInt (by omega)
  have c : (nI b).toInt = (b : Int) := nI_toInt (by omega)
  have z : (4 : Int32).toInt = 4 := rfl
  have e1 : ((4 : Int32) * nI k).toInt = 4 * (k : Int) := by rw [ti_mul (by rw [z, a]; omega) (by rw [z, a]; omega), z, a]
  refine Int32.toInt_inj.mp ?_
  rw [ti_add (by rw [e1, c]; omega) (by rw [e1, c]; omega), e1, c, nI_toInt (by omega)]
  omega
theorem nI_nn {k : Nat} (h : k < 2147483648) : ¬ nI k < 0 := fun q => by
  have := fz_lt.mp q
  rw [nI_toInt h] at this
  have z : (0 : Int32).toInt = 0 := rfl
  omega
theorem nI_m1 {k : Nat} (h : k < 2147483648) : ¬ nI k = -1 := fun q => nI_nn h (by rw [q]; decide)
/-- who is at a place, told by the places -/
theorem RV.pk (h : RV p q m t u n f) {k b : Nat} (hk : k < 24) (hb : b < 4) {j : Nat} (hj : j < 24) : p j = nI (4 * k + b) ↔ (1 ≤ j ∧ f j = nI k ∧ f (24 + j) = nI b) := by
  constructor
  · intro e
    have j1 : 1 ≤ j := by
      rcases Nat.eq_zero_or_pos j with w | w
      · rw [w, h.p0] at e; exact absurd e.symm (nI_m1 (by omega))
      · exact w
    have jt : ¬ f j = -1 := fun w => by rw [h.no j hj w] at e; exact nI_m1 (by omega) e.symm
    obtain ⟨a, d, ha, hd, -, e1, e2, e3⟩ := h.pl j j1 hj jt
    have := nI_inj (by omega) (by omega) (e3.symm.trans e)
    have ea : a = k := by omega
    have ed : d = b := by omega
    exact ⟨j1, by rw [e1, ea], by rw [e2, ed]⟩
  · rintro ⟨j1, e1, e2⟩
    have jt : ¬ f j = -1 := fun w => by rw [e1] at w; exact nI_m1 (by omega) w
    obtain ⟨a, d, ha, hd, -, g1, g2, g3⟩ := h.pl j j1 hj jt
    have ea := nI_inj (by omega) (by omega) (g1.symm.trans e1)
    have ed := nI_inj (by omega) (by omega) (g2.symm.trans e2)
    rw [g3, ea, ed]
theorem RV.mount (h : RV p q m t u n f) {k b : Nat} (hk : k < 24) (hb : b < 4) : F_X10_mountAt p (nI k) (nI b) = F_X12_atOf f (nI k) (nI b) := by
  unfold F_X10_mountAt
  rw [place_val hk hb, mountAt_x (nI_nn (by omega)), atOf_x, fstF_0 (by rw [h.p0]; exact decide_eq_false (fun w => nI_m1 (by omega) w.symm))]
  refine fstF_cong 23 1 (fun i h1 h2 => ?_)
  have w := h.pk hk hb (j := i) (by omega)
  by_cases c : p i = nI (4 * k + b)
  · obtain ⟨-, c1, c2⟩ := w.mp c
    rw [decide_eq_true c, decide_eq_true c1, decide_eq_true c2]; rfl
  · rw [decide_eq_false c]
    by_cases c1 : f i = nI k
    · by_cases c2 : f (24 + i) = nI b
      · exact absurd (w.mpr ⟨h1, c1, c2⟩) c
      · rw [decide_eq_false c2, Bool.and_false]
    · rw [decide_eq_false c1]; rfl
theorem RV.free (h : RV p q m t u n f) : F_X10_leastOf (t ^^^ (-1)) = F_X12_freeOf f := by
  rw [leastOf_is, freeOf_x]
  refine fstF_cong 24 0 (fun i _ hi => ?_)
  show bt (t ^^^ (-1)) i = _
  rw [b_neg t (by omega), h.bt_t (by omega)]
  by_cases c : f i = -1
  · rw [decide_eq_true c, show isT f i = false from dn c]; rfl
  · rw [decide_eq_false c, show isT f i = true from decide_eq_true c]; rfl
end RLs
/-- who is at a place of the reference -/
theorem atOf_k (f : Nat → Int32) (m d : Int32) : (∃ k, 1 ≤ k ∧ k < 24 ∧ F_X12_atOf f m d = nI k ∧ f k = m ∧ f (24 + k) = d) ∨ (F_X12_atOf f m d = 24 ∧ ∀ k, 1 ≤ k → k < 24 → f k = m → ¬ f (24 + k) = d) := by
  rw [atOf_x]
  rcases fstF_is (P := fun k => decide (f k = m) && decide (f (24 + k) = d)) 23 1 rfl with ⟨i, a, b, e, c, -⟩ | ⟨e, c⟩
  · have c : (decide (f i = m) && decide (f (24 + i) = d)) = true := c
    rw [Bool.and_eq_true] at c
    exact Or.inl ⟨i, a, b, e, of_decide_eq_true c.1, of_decide_eq_true c.2⟩
  · refine Or.inr ⟨e, fun k h1 h2 e1 e2 => ?_⟩
    have c : (decide (f k = m) && decide (f (24 + k) = d)) = false := c k h1 h2
    rw [decide_eq_true e1, decide_eq_true e2] at c
    cases c
