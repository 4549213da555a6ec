/-! ===== years (2: what is taken, children, spreads) ===== -/
theorem div4 : ∀ x : Nat, x < 96 → ¬ nI x < 0 ∧ nI x / 4 = nI (x / 4) ∧ jrem (nI x) 4 = nI (x % 4) := by decide +kernel
theorem isG_is {f : Nat → Int32} {g : Int32} {i : Nat} : isG f g i = true ↔ (¬ f i = -1 ∧ f (48 + i) = g) := by
  show (decide (¬ f i = -1) && decide (f (48 + i) = g)) = true ↔ _
  rw [Bool.and_eq_true, decide_eq_true_iff, decide_eq_true_iff]
theorem or_z (x : Int32) : x ||| 0 = x := b_ext (fun i _ => by rw [b_or, b_0, Bool.or_false])
theorem LetF_0 (f rl : Nat → Int32) (a d : Int32) : LetF f rl 0 a d = 1 := by unfold LetF; rw [if_pos rfl]
theorem has_k {b : Int32} {k : Nat} (hk : k < 24) : (F_X12_has b (nI k) = 0 ∧ bt b k = false) ∨ (F_X12_has b (nI k) = 1 ∧ bt b k = true) := by
  have h := has_is (b := b) (k := nI k) ⟨by rw [nI_toInt (by omega)]; omega, by rw [nI_toInt (by omega)]; omega⟩
  rw [nI_cl hk] at h
  exact h
section RLs
variable {p q m : Nat → Int32} {t u n : Int32} {f : Nat → Int32}
/-- where a place of this dir is taken -/
theorem RV.taken_4 (h : RV p q m t u n f) {b : Nat} (hb : b < 4) : ∀ (j k nn : Nat) (acc : Int32), k + j = 24 → j < nn → ∀ i, bt (F_X10_takenAt_4 nn (nI b) acc (nI k) p) i = true ↔ (bt acc i = true ∨ ∃ l, k ≤ l ∧ l < 24 ∧ i < 24 ∧ p l = nI (4 * i + b)) := by
  intro j
  induction j with
  | zero =>
    intro k nn acc hk hn i
    obtain ⟨nn, rfl⟩ : ∃ z, nn = z + 1 := ⟨nn - 1, by omega⟩
    have e : k = 24 := by omega
    subst e
    rw [F_X10_takenAt_4, if_pos k24e]
    constructor
    · exact Or.inl
    · rintro (w | ⟨l, h1, h2, -⟩)
      · exact w
      · omega
  | succ j ih =>
    intro k nn acc hk hn i
    obtain ⟨nn, rfl⟩ : ∃ z, nn = z + 1 := ⟨nn - 1, by omega⟩
    have hk2 : k < 24 := by omega
    rw [F_X10_takenAt_4, if_neg (k24 hk2), nI_cl hk2, nI_s]
    have more : (∃ l, k + 1 ≤ l ∧ l < 24 ∧ i < 24 ∧ p l = nI (4 * i + b)) → ∃ l, k ≤ l ∧ l < 24 ∧ i < 24 ∧ p l = nI (4 * i + b) := fun ⟨l, h1, h2⟩ => ⟨l, by omega, h2⟩
    have less : ∀ (hne : i < 24 → ¬ p k = nI (4 * i + b)), (∃ l, k ≤ l ∧ l < 24 ∧ i < 24 ∧ p l = nI (4 * i + b)) → ∃ l, k + 1 ≤ l ∧ l < 24 ∧ i < 24 ∧ p l = nI (4 * i + b) := fun hne ⟨l, h1, h2, h3, h4⟩ => by
      by_cases w : l = k
      · rw [w] at h4; exact absurd h4 (hne h3)
      · exact ⟨l, by omega, h2, h3, h4⟩
    by_cases c : p k < 0
    · rw [if_pos c, ih (k + 1) nn acc (by omega) (by omega) i]
      exact ⟨fun w => w.imp id more, fun w => w.imp id (less (fun hi e => by rw [e] at c; exact nI_nn (by omega) c))⟩
    · have jt : ¬ f k = -1 := fun w => by rw [h.no k hk2 w] at c; exact c (by decide)
      have k1 : 1 ≤ k := by
        rcases Nat.eq_zero_or_pos k with w | w
        · rw [w, h.p0] at c; exact absurd (by decide) c
        · exact w
      obtain ⟨a, d, ha, hd, -, -, -, e⟩ := h.pl k k1 hk2 jt
      obtain ⟨-, e1, e2⟩ := div4 (4 * a + d) (by omega)
      rw [if_neg c, e, e1, e2, show (4 * a + d) / 4 = a by omega, show (4 * a + d) % 4 = d by omega]
      by_cases cd : d = b
      · subst cd
        rw [if_pos rfl, ih (k + 1) nn _ (by omega) (by omega) i, b_or, bt_one_is (by omega), Bool.or_eq_true]
        constructor
        · rintro ((w | w) | w)
          · exact Or.inl w
          · have w := of_decide_eq_true w
            subst w
            exact Or.inr ⟨k, Nat.le_refl _, hk2, ha, e⟩
          · exact Or.inr (more w)
        · rintro (w | ⟨l, h1, h2, h3, h4⟩)
          · exact Or.inl (Or.inl w)
          · by_cases w : l = k
            · rw [w, e] at h4
              have := nI_inj (by omega) (by omega) h4
              exact Or.inl (Or.inr (decide_eq_true (by omega)))
            · exact Or.inr ⟨l, by omega, h2, h3, h4⟩
      · rw [if_neg (fun w => cd (nI_inj (by omega) (by omega) w)), ih (k + 1) nn acc (by omega) (by omega) i]
        exact ⟨fun w => w.imp id more, fun w => w.imp id (less (fun hi e3 => by rw [e] at e3; have := nI_inj (by omega) (by omega) e3; omega))⟩
theorem RV.taken (h : RV p q m t u n f) {b : Nat} (hb : b < 4) {i : Nat} (hi : i < 24) : bt (F_X10_takenAt p (nI b)) i = decide (¬ F_X12_atOf f (nI i) (nI b) = 24) := by
  have w := h.taken_4 hb 24 0 26 0 rfl (by decide) i
  rw [b_0] at w
  have w : bt (F_X10_takenAt p (nI b)) i = true ↔ (false = true ∨ ∃ l, 0 ≤ l ∧ l < 24 ∧ i < 24 ∧ p l = nI (4 * i + b)) := w
  rcases atOf_k f (nI i) (nI b) with ⟨k, k1, k2, e, e1, e2⟩ | ⟨e, no⟩
  · rw [e, w.mpr (Or.inr ⟨k, Nat.zero_le _, k2, hi, (h.pk hi hb k2).mpr ⟨k1, e1, e2⟩⟩)]
    have hn : ¬ nI k = 24 := fun z => by
      have := nI_inj (b := 24) (by omega) (by decide) (z.trans nI_24.symm)
      omega
    exact (decide_eq_true hn).symm
  · rw [e, dn rfl]
    cases c : bt (F_X10_takenAt p (nI b)) i with
    | false => rfl
    | true =>
      rcases w.mp c with z | ⟨l, -, l2, -, e3⟩
      · cases z
      · obtain ⟨l1, f1, f2⟩ := (h.pk hi hb l2).mp e3
        exact absurd f2 (no l l1 l2 f1)
/-- who has children -/
theorem RV.par (h : RV p q m t u n f) {k i : Nat} (hk : k < 24) (hi : i < 24) : F_X10_parentOf p (nI i) = nI k ↔ (1 ≤ i ∧ f i = nI k) := by
  have e0 : F_X10_parentOf p (nI i) = if p i < 0 then 24 else p i / 4 := by
    unfold F_X10_parentOf
    rw [if_neg (nI_nn (by omega)), if_neg (k24 hi), nI_cl hi]
  rw [e0]
  by_cases c : p i < 0
  · rw [if_pos c]
    constructor
    · intro w
      have := nI_inj (a := k) (b := 24) (by omega) (by decide) (w.symm.trans nI_24.symm)
      omega
    · rintro ⟨i1, e⟩
      have jt : ¬ f i = -1 := fun w => by rw [e] at w; exact nI_m1 (by omega) w
      obtain ⟨a, d, ha, hd, -, -, -, e3⟩ := h.pl i i1 hi jt
      rw [e3] at c
      exact absurd c (nI_nn (by omega))
  · rw [if_neg c]
    have jt : ¬ f i = -1 := fun w => by rw [h.no i hi w] at c; exact c (by decide)
    have i1 : 1 ≤ i := by
      rcases Nat.eq_zero_or_pos i with w | w
      · rw [w, h.p0] at c; exact absurd (by decide) c
      · exact w
    obtain ⟨a, d, ha, hd, -, e1, -, e3⟩ := h.pl i i1 hi jt
    rw [e3, (div4 (4 * a + d) (by omega)).2.1, show (4 * a + d) / 4 = a by omega, e1]
    exact ⟨fun w => ⟨i1, w⟩, fun w => w.2⟩
theorem RV.children (h : RV p q m t u n f) {k : Nat} (hk : k < 24) : F_X10_childrenOf p (nI k) = 0 ↔ ∀ i, 1 ≤ i → i < 24 → ¬ f i = nI k := by
  have w := bits_loop (fun nn acc y => F_X10_childrenOf_4 nn (nI k) acc y p) (fun i => decide (F_X10_parentOf p (nI i) = nI k)) (fun nn acc => by
      show F_X10_childrenOf_4 (nn + 1) (nI k) acc (nI 24) p = acc
      rw [F_X10_childrenOf_4, if_pos k24e]) (fun nn acc j hj => by
      show F_X10_childrenOf_4 (nn + 1) (nI k) acc (nI j) p = _
      rw [F_X10_childrenOf_4, if_neg (k24 hj), nI_s]
      by_cases c : F_X10_parentOf p (nI j) = nI k
      · rw [if_pos c, if_pos (decide_eq_true c)]
      · rw [if_neg c, if_neg (by rw [decide_eq_false c]; decide)]) 24 0 26 0 rfl (by decide)
  have w : ∀ i, bt (F_X10_childrenOf p (nI k)) i = (bt 0 i || (decide (0 ≤ i) && (decide (i < 24) && decide (F_X10_parentOf p (nI i) = nI k)))) := w
  constructor
  · intro e i i1 i2 e2
    have := w i
    rw [e, b_0, decide_eq_true (Nat.zero_le i), decide_eq_true i2, decide_eq_true ((h.par hk i2).mpr ⟨i1, e2⟩)] at this
    cases this
  · intro no
    refine b_ext (fun i _ => ?_)
    rw [w i, b_0]
    by_cases i2 : i < 24
    · have : ¬ F_X10_parentOf p (nI i) = nI k := fun e => by
        obtain ⟨i1, e2⟩ := (h.par hk i2).mp e
        exact no i i1 i2 e2
      rw [decide_eq_false this, Bool.and_false, Bool.and_false]; rfl
    · rw [decide_eq_false i2, Bool.false_and, Bool.and_false]; rfl
end RLs
theorem chi_none {f : Nat → Int32} {x : Int32} : ∀ (j k n : Nat) (c : Int32), 1 ≤ k → k + j = 24 → j < n → (∀ i, k ≤ i → i < 24 → ¬ f i = x) → F_X12_childrenOf_4 f n x c (nI k) = c := by
  intro j
  induction j with
  | zero =>
    intro k n c k1 hk hn _
    obtain ⟨n, rfl⟩ : ∃ z, n = z + 1 := ⟨n - 1, by omega⟩
    have e : k = 24 := by omega
    subst e
    rw [F_X12_childrenOf_4, if_pos k24e]
  | succ j ih =>
    intro k n c k1 hk hn no
    obtain ⟨n, rfl⟩ : ∃ z, n = z + 1 := ⟨n - 1, by omega⟩
    have hk2 : k < 24 := by omega
    rw [F_X12_childrenOf_4, if_neg (k24 hk2), nI_cl hk2, nI_s, if_neg (no k (Nat.le_refl _) hk2), Int32.add_zero]
    exact ih (k + 1) n c (by omega) (by omega) (by omega) (fun i a b => no i (by omega) b)
theorem chi_iff (f : Nat → Int32) (x : Int32) : F_X12_childrenOf f x = 0 ↔ ∀ i, 1 ≤ i → i < 24 → ¬ f i = x :=
  ⟨fun h i a b => chi_0 h i a b, fun no => chi_none 23 1 26 0 (Nat.le_refl _) rfl (by decide) no⟩
theorem chi_le (f : Nat → Int32) (x : Int32) : F_X12_childrenOf f x ≤ 0 ↔ F_X12_childrenOf f x = 0 := by
  have a := (chi_4 (f := f) (m := x) 26 0 1 ⟨by decide, by decide⟩ (by decide) (by decide) (by decide)).1
  have a : (0 : Int32).toInt ≤ (F_X12_childrenOf f x).toInt := a
  constructor
  · intro h
    have := fz_le.mp h
    exact Int32.toInt_inj.mp (by omega)
  · intro h; rw [h]; decide
/-- who is in a spread: without masters, those of one group -/
def spb (q : Nat → Int32) (k i : Nat) : Bool := decide (i = k) || (decide (¬ q k = 0) && (decide (i < 24) && decide (q i = q k)))
theorem spread_c {q m : Nat → Int32} (hm : ∀ i, i < 24 → m i = 0) {k : Nat} (hk : k < 24) (i : Nat) : bt (F_X10_spreadOf q m (nI k)) i = spb q k i := by
  have g0 : F_X10_groupOf q (nI k) = q k := by
    unfold F_X10_groupOf
    rw [if_neg (nI_nn (by omega)), if_neg (k24 hk), nI_cl hk]
  have lo : F_X10_leastOf ((1 <<< (nI k &&& 31)) &&& ((0 : Int32) ^^^ (-1))) = nI k := by
    rw [leastOf_is]
    rcases fstF_is (P := fun j => bt ((1 <<< (nI k &&& 31)) &&& ((0 : Int32) ^^^ (-1))) j) 24 0 rfl with ⟨j, -, j2, e, c, -⟩ | ⟨e, c⟩
    · have c : bt ((1 <<< (nI k &&& 31)) &&& ((0 : Int32) ^^^ (-1))) j = true := c
      rw [b_and, bt_one_is (by omega), Bool.and_eq_true] at c
      rw [e, of_decide_eq_true c.1]
    · have c : bt ((1 <<< (nI k &&& 31)) &&& ((0 : Int32) ^^^ (-1))) k = false := c k (Nat.zero_le _) hk
      rw [b_and, bt_one_is (by omega), decide_eq_true rfl, b_neg 0 (by omega), b_0] at c
      cases c
  have wm : F_X10_withMaster m (q k) = 0 := by
    refine b_ext (fun j _ => ?_)
    rw [withMaster_bits, b_0]
    by_cases c : q k = 0
    · rw [dn c]; rfl
    · by_cases j2 : j < 24
      · rw [hm j j2, decide_eq_false (fun w => c (Eq.symm w)), Bool.and_false, Bool.and_false]
      · rw [decide_eq_false j2]; simp
  have one : ¬ (0 : Int32) = 1 <<< (nI k &&& 31) := fun w => by
    have : bt 0 k = bt (1 <<< (nI k &&& 31)) k := by rw [← w]
    rw [b_0, bt_one_is (by omega), decide_eq_true rfl] at this
    cases this
  have l0 : ¬ (24 : Int32) ≤ 0 := by decide
  have l1 : ¬ (24 : Int32) ≤ 0 + 1 := by decide
  have same : ((1 : Int32) <<< (nI k &&& 31)) ||| ((F_X10_withGroup q (q k) ||| ((1 : Int32) <<< (nI k &&& 31))) ||| (0 : Int32)) = F_X10_withGroup q (q k) ||| ((1 : Int32) <<< (nI k &&& 31)) := by
    rw [or_z]
    refine b_ext (fun j _ => ?_)
    rw [b_or, b_or]
    cases bt ((1 : Int32) <<< (nI k &&& 31)) j <;> cases bt (F_X10_withGroup q (q k)) j <;> rfl
  have z0 : (0 : Int32) ||| (F_X10_withGroup q (q k) ||| ((1 : Int32) <<< (nI k &&& 31))) = F_X10_withGroup q (q k) ||| ((1 : Int32) <<< (nI k &&& 31)) := b_ext (fun j _ => by rw [b_or, b_0, Bool.false_or])
  have e : F_X10_spreadOf q m (nI k) = F_X10_withGroup q (q k) ||| ((1 : Int32) <<< (nI k &&& 31)) := by
    show F_X10_spreadOf_9 (24 + 1 + 1) ((1 : Int32) <<< (nI k &&& 31)) 0 0 q m = _
    rw [F_X10_spreadOf_9, if_neg l0, if_neg one, lo, g0, wm, same, z0, F_X10_spreadOf_9, if_neg l1, if_pos rfl]
  rw [e, b_or, withGroup_bits, bt_one_is (by omega)]
  unfold spb
  rw [Bool.or_comm]
section ref
variable {f : Nat → Int32}
theorem slaves_0 {g : Int32} (hm : ∀ i, i < 24 → f (72 + i) = 0) (hg : ¬ g = 0) : F_X12_slavesOf f g = 0 := by
  have aux : ∀ (j k n : Nat) (acc : Int32), k + j = 24 → j < n → F_X12_slavesOf_4 f n g acc (nI k) = acc := by
    intro j
    induction j with
    | zero =>
      intro k n acc hk hn
      obtain ⟨n, rfl⟩ : ∃ z, n = z + 1 := ⟨n - 1, by omega⟩
      have e : k = 24 := by omega
      subst e
      rw [F_X12_slavesOf_4, if_pos k24e]
    | succ j ih =>
      intro k n acc hk hn
      obtain ⟨n, rfl⟩ : ∃ z, n = z + 1 := ⟨n - 1, by omega⟩
      have hk2 : k < 24 := by omega
      have e72 : ((72 : Int32) + nI k).toNatClampNeg = 72 + k := by
        have := add_cl (c := 72) (k := nI k) (n := 72) rfl (by decide) ⟨by rw [nI_toInt (by omega)]; omega, by rw [nI_toInt (by omega)]; omega⟩
        rw [this, nI_cl hk2]
      rw [F_X12_slavesOf_4, if_neg (k24 hk2), nI_s, e72, hm k hk2, if_neg (fun w => hg (Eq.symm w)), or_z, ih (k + 1) n acc (by omega) (by omega)]
      split <;> rfl
  exact aux 24 0 26 0 rfl (by decide)
theorem e48 {k : Nat} (hk : k < 24) : ((48 : Int32) + nI k).toNatClampNeg = 48 + k := by
  have := add_cl (c := 48) (k := nI k) (n := 48) rfl (by decide) ⟨by rw [nI_toInt (by omega)]; omega, by rw [nI_toInt (by omega)]; omega⟩
  rw [this, nI_cl hk]
/-- one pass over a set that lies within the group's -/
theorem pass_s {q : Nat → Int32} (hq : ∀ i, i < 24 → q i = f (48 + i)) (hq0 : ∀ i, i < 24 → f i = -1 → f (48 + i) = 0) (hm : ∀ i, i < 24 → f (72 + i) = 0) {k : Nat} (hk : k < 24) {w : Int32} : ∀ (j l n : Nat) (acc : Int32), l + j = 24 → j < n → (∀ i, bt acc i = true → spb q k i = true) → bt acc k = true →
    (∀ i, bt (F_X12_spreadOf_16 f n acc w (nI l)) i = true → spb q k i = true) ∧ (∀ i, bt acc i = true → bt (F_X12_spreadOf_16 f n acc w (nI l)) i = true) ∧ (l ≤ k → ∀ i, spb q k i = true → bt (F_X12_spreadOf_16 f n acc w (nI l)) i = true) := by
  intro j
  induction j with
  | zero =>
    intro l n acc hl hn ha hka
    obtain ⟨n, rfl⟩ : ∃ z, n = z + 1 := ⟨n - 1, by omega⟩
    have e : l = 24 := by omega
    subst e
    rw [F_X12_spreadOf_16, if_pos k24e]
    exact ⟨ha, fun _ h => h, fun h => absurd h (by omega)⟩
  | succ j ih =>
    intro l n acc hl hn ha hka
    obtain ⟨n, rfl⟩ : ∃ z, n = z + 1 := ⟨n - 1, by omega⟩
    have hl2 : l < 24 := by omega
    rw [F_X12_spreadOf_16, if_neg (k24 hl2), nI_s, e48 hl2]
    have stay : (∀ i, l = k → spb q k i = true → bt acc i = true) → (∀ i, bt (F_X12_spreadOf_16 f n acc w (nI (l + 1))) i = true → spb q k i = true) ∧ (∀ i, bt acc i = true → bt (F_X12_spreadOf_16 f n acc w (nI (l + 1))) i = true) ∧ (l ≤ k → ∀ i, spb q k i = true → bt (F_X12_spreadOf_16 f n acc w (nI (l + 1))) i = true) := fun hs => by
      obtain ⟨a, b, c⟩ := ih (l + 1) n acc (by omega) (by omega) ha hka
      refine ⟨a, b, fun hlk i hi => ?_⟩
      by_cases z : l = k
      · exact b i (hs i z hi)
      · exact c (by omega) i hi
    rcases has_k (b := acc) hl2 with ⟨e, e2⟩ | ⟨e, e2⟩
    · rw [if_pos e]
      exact stay (fun i z => by rw [z, hka] at e2; cases e2)
    · rw [if_neg (by rw [e]; decide)]
      have sl := ha l e2
      by_cases g0 : f (48 + l) = 0
      · rw [if_pos g0]
        refine stay (fun i z hi => ?_)
        subst z
        unfold spb at hi
        rw [hq l hl2, g0, dn rfl, Bool.false_and, Bool.or_false] at hi
        rw [of_decide_eq_true hi]; exact hka
      · rw [if_neg g0, slaves_0 hm g0, or_z]
        -- the group of l is that of k
        have gk : q k = f (48 + l) ∧ ¬ q k = 0 := by
          unfold spb at sl
          rw [Bool.or_eq_true] at sl
          rcases sl with z | z
          · have z := of_decide_eq_true z
            subst z
            rw [hq l hl2]; exact ⟨rfl, g0⟩
          · rw [Bool.and_eq_true, Bool.and_eq_true] at z
            have z3 := of_decide_eq_true z.2.2
            rw [hq l hl2] at z3
            exact ⟨z3.symm, of_decide_eq_true z.1⟩
        have grp : ∀ i, bt (F_X12_inGroup f (f (48 + l))) i = true ↔ (i < 24 ∧ q i = q k) := fun i => by
          rw [grp_bits, Bool.and_eq_true, decide_eq_true_iff]
          constructor
          · rintro ⟨i2, z⟩
            refine ⟨i2, ?_⟩
            rw [hq i i2, gk.1]
            exact (isG_is.mp z).2
          · rintro ⟨i2, z⟩
            refine ⟨i2, isG_is.mpr ⟨fun w => ?_, ?_⟩⟩
            · have := hq0 i i2 w
              rw [hq i i2, this] at z
              exact gk.2 z.symm
            · rw [← hq i i2, z, gk.1]
        have acc2 : ∀ i, bt (acc ||| F_X12_inGroup f (f (48 + l))) i = true ↔ (bt acc i = true ∨ (i < 24 ∧ q i = q k)) := fun i => by
          rw [b_or, Bool.or_eq_true, grp]
        have spi : ∀ i, (i < 24 ∧ q i = q k) → spb q k i = true := fun i z => by
          unfold spb
          rw [decide_eq_true gk.2, decide_eq_true z.1, decide_eq_true z.2, Bool.or_eq_true]; exact Or.inr rfl
        obtain ⟨a, b, c⟩ := ih (l + 1) n (acc ||| F_X12_inGroup f (f (48 + l))) (by omega) (by omega) (fun i hi => ((acc2 i).mp hi).elim (ha i) (spi i)) ((acc2 k).mpr (Or.inl hka))
        refine ⟨a, fun i hi => b i ((acc2 i).mpr (Or.inl hi)), fun hlk i hi => ?_⟩
        refine b i ((acc2 i).mpr ?_)
        unfold spb at hi
        rw [Bool.or_eq_true] at hi
        rcases hi with z | z
        · rw [of_decide_eq_true z]; exact Or.inl hka
        · rw [Bool.and_eq_true, Bool.and_eq_true] at z
          exact Or.inr ⟨of_decide_eq_true z.2.1, of_decide_eq_true z.2.2⟩
theorem spread_r {q : Nat → Int32} (hq : ∀ i, i < 24 → q i = f (48 + i)) (hq0 : ∀ i, i < 24 → f i = -1 → f (48 + i) = 0) (hm : ∀ i, i < 24 → f (72 + i) = 0) {k : Nat} (hk : k < 24) (i : Nat) : bt (F_X12_spreadOf f (nI k)) i = spb q k i := by
  have kk : spb q k k = true := by unfold spb; rw [decide_eq_true rfl]; rfl
  have full : ∀ (acc w : Int32), (∀ i, bt acc i = true → spb q k i = true) → bt acc k = true → ∀ i, bt (F_X12_spreadOf_16 f 26 acc w 0) i = spb q k i := fun acc w ha hka i => by
    obtain ⟨a, -, c⟩ := pass_s hq hq0 hm hk (w := w) 24 0 26 acc rfl (by decide) ha hka
    have a : bt (F_X12_spreadOf_16 f 26 acc w 0) i = true → spb q k i = true := a i
    have c : spb q k i = true → bt (F_X12_spreadOf_16 f 26 acc w 0) i = true := c (Nat.zero_le _) i
    cases h1 : bt (F_X12_spreadOf_16 f 26 acc w 0) i with
    | true => rw [a h1]
    | false =>
      cases h2 : spb q k i with
      | false => rfl
      | true => rw [c h2] at h1; cases h1
  have one : ¬ (0 : Int32) = 1 <<< (nI k &&& 31) := fun w => by
    have : bt 0 k = bt (1 <<< (nI k &&& 31)) k := by rw [← w]
    rw [b_0, bt_one_is (by omega), decide_eq_true rfl] at this
    cases this
  have a1 : ∀ i, bt (1 <<< (nI k &&& 31)) i = true → spb q k i = true := fun i h => by
    rw [bt_one_is (by omega)] at h
    rw [of_decide_eq_true h]; exact kk
  have b1 : bt (1 <<< (nI k &&& 31)) k = true := by rw [bt_one_is (by omega), decide_eq_true rfl]
  have gen : ∀ n, ∀ i, bt (F_X12_spreadOf_6 f (n + 1 + 1 + 1) (1 <<< (nI k &&& 31)) 0) i = spb q k i := fun n i => by
    have h1 := full (1 <<< (nI k &&& 31)) (1 <<< (nI k &&& 31)) a1 b1
    obtain ⟨S, eS⟩ : ∃ S, S = F_X12_spreadOf_16 f 26 (1 <<< (nI k &&& 31)) (1 <<< (nI k &&& 31)) 0 := ⟨_, rfl⟩
    rw [← eS] at h1
    rw [F_X12_spreadOf_6, if_neg one, ← eS, F_X12_spreadOf_6]
    by_cases c : 1 <<< (nI k &&& 31) = S
    · rw [if_pos c]; exact h1 i
    · rw [if_neg c]
      have h2 := full S S (fun i h => by rw [← h1 i]; exact h) (by rw [h1 k]; exact kk)
      have e2 : F_X12_spreadOf_16 f 26 S S 0 = S := b_ext (fun i _ => by rw [h2, h1])
      rw [e2, F_X12_spreadOf_6, if_pos rfl]
      exact h1 i
  exact gen 33554431 i
end ref
theorem RV.spread {p q m : Nat → Int32} {t u n : Int32} {f : Nat → Int32} (h : RV p q m t u n f) {k : Nat} (hk : k < 24) : F_X10_spreadOf q m (nI k) = F_X12_spreadOf f (nI k) := b_ext (fun i _ => by rw [spread_c h.m hk, spread_r h.q h.q0 h.m2 hk])
