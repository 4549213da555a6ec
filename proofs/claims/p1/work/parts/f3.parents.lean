/-! ===== years (3: where a mount comes) ===== -/
theorem tn_nn {x : Int32} (h : tn x < 16777216) : (0 : Int32) ≤ x := by
  refine fz_le.mpr ?_
  have e : x.toInt = (tn x : Int) := by
    show x.toBitVec.toInt = _
    rw [BitVec.toInt_eq_toNat_of_lt (by show 2 * tn x < 2 ^ 32; omega)]
    rfl
  rw [e]
  have z : (0 : Int32).toInt = 0 := rfl
  omega
theorem nI_add2 {a b : Nat} (h : a + b < 2147483648) : nI a + nI b = nI (a + b) := by
  have ea : (nI a).toInt = (a : Int) := nI_toInt (by omega)
  have eb : (nI b).toInt = (b : Int) := nI_toInt (by omega)
  refine Int32.toInt_inj.mp ?_
  rw [ti_add (by rw [ea, eb]; omega) (by rw [ea, eb]; omega), ea, eb, nI_toInt h]
  omega
theorem nI_le24 {a : Nat} (h : a < 2147483648) : nI a ≤ 24 ↔ a ≤ 24 := by
  have z : (24 : Int32).toInt = 24 := rfl
  rw [fz_le, nI_toInt h, z]
  omega
theorem ct_mon {p : Nat → Bool} {a : Nat} : ∀ b, a ≤ b → ct p a ≤ ct p b
  | 0, h => by rw [show a = 0 by omega]; exact Nat.le_refl _
  | b + 1, h => by
    by_cases e : a = b + 1
    · rw [e]; exact Nat.le_refl _
    · have := ct_mon (p := p) (a := a) b (by omega)
      show ct p a ≤ ct p b + (if p b = true then 1 else 0)
      exact Nat.le_trans this (Nat.le_add_right _ _)
theorem ct_s {p : Nat → Bool} {a : Nat} (h : p a = true) : ct p (a + 1) = ct p a + 1 := by
  show ct p a + (if p a = true then 1 else 0) = _
  rw [if_pos h]
theorem hits13 (f rl : Nat → Int32) (S : Int32) {k b : Nat} (hk : k < 24) (i : Nat) : bt (F_X12_hitsOf_x_13 26 (nI k) (nI b) S 0 0 f rl 0) i = (decide (i < 24) && (decide (¬ i = k) && (bt S i && decide (F_X12_atOf f (nI i) (nI b) = 24)))) := by
  have h := bits_loop (fun n acc y => F_X12_hitsOf_x_13 n (nI k) (nI b) S acc y f rl 0) (fun j => decide (¬ j = k) && (bt S j && decide (F_X12_atOf f (nI j) (nI b) = 24))) (fun n acc => by
      show F_X12_hitsOf_x_13 (n + 1) (nI k) (nI b) S acc (nI 24) f rl 0 = acc
      rw [F_X12_hitsOf_x_13, if_pos k24e]) (fun n acc j hj => by
      show F_X12_hitsOf_x_13 (n + 1) (nI k) (nI b) S acc (nI j) f rl 0 = _
      have no : (decide (¬ j = k) && (bt S j && decide (F_X12_atOf f (nI j) (nI b) = 24))) = false → ¬ (decide (¬ j = k) && (bt S j && decide (F_X12_atOf f (nI j) (nI b) = 24))) = true := fun w q => by rw [w] at q; cases q
      rw [F_X12_hitsOf_x_13, if_neg (k24 hj), nI_s, or_z, LetF_0]
      by_cases c : nI j = nI k
      · rw [if_pos c, if_neg (no (by rw [dn (nI_inj (by omega) (by omega) c), Bool.false_and]))]
      · have c' : ¬ j = k := fun w => c (by rw [w])
        rw [if_neg c]
        rcases has_k (b := S) hj with ⟨e, e2⟩ | ⟨e, e2⟩
        · rw [if_pos e, if_neg (no (by rw [e2, Bool.false_and, Bool.and_false]))]
        · rw [if_neg (by rw [e]; decide)]
          by_cases c2 : F_X12_atOf f (nI j) (nI b) = 24
          · rw [if_pos c2, if_neg (by decide), if_pos (by rw [decide_eq_true c', e2, decide_eq_true c2]; rfl)]
          · rw [if_neg c2, if_neg (no (by rw [decide_eq_false c2, Bool.and_false, Bool.and_false]))]) 24 0 26 0 rfl (by decide) i
  rw [b_0, decide_eq_true (Nat.zero_le i), Bool.false_or, Bool.true_and] at h
  exact h
/-- what the class reckons as parents -/
def PX (p q m : Nat → Int32) (t : Int32) (k b : Nat) : Int32 := (((F_X10_spreadOf q m (nI k)) &&& t) &&& ((F_X10_takenAt p (nI b)) ^^^ (-1 : Int32))) ||| ((1 : Int32) <<< (nI k &&& 31))
/-- parents (the class's X) and hits (the reference's H) -/
def HI (f q : Nat → Int32) (H X : Int32) (k : Nat) : Prop :=
  (∀ i, bt X i = (bt H i || decide (i = k))) ∧ bt H k = false ∧ (∀ i, bt H i = true → i < 24 ∧ ¬ f i = -1 ∧ q i = q k ∧ ¬ q k = 0) ∧ ct (isT f) 24 + 1 + ct (bt H) 24 ≤ 24
section RLs
variable {p q m : Nat → Int32} {t u n : Int32} {f : Nat → Int32}
theorem spb_T (h : RV p q m t u n f) {k i : Nat} (hk : k < 24) (hkt : ¬ f k = -1) (hs : spb q k i = true) : i < 24 ∧ isT f i = true := by
  unfold spb at hs
  rw [Bool.or_eq_true] at hs
  rcases hs with z | z
  · have z := of_decide_eq_true z
    subst z
    exact ⟨hk, decide_eq_true hkt⟩
  · rw [Bool.and_eq_true, Bool.and_eq_true] at z
    have i2 := of_decide_eq_true z.2.1
    have e := of_decide_eq_true z.2.2
    have g0 := of_decide_eq_true z.1
    refine ⟨i2, decide_eq_true (fun w => g0 ?_)⟩
    rw [← e, h.q i i2, h.q0 i i2 w]
theorem spb_g {k i : Nat} (hs : spb q k i = true) (hne : ¬ i = k) : q i = q k ∧ ¬ q k = 0 := by
  unfold spb at hs
  rw [decide_eq_false hne, Bool.false_or, Bool.and_eq_true, Bool.and_eq_true] at hs
  exact ⟨of_decide_eq_true hs.2.2, of_decide_eq_true hs.1⟩
theorem RV.PXb (h : RV p q m t u n f) (rl : Nat → Int32) {k b : Nat} (hk : k < 24) (hb : b < 4) (ht : ¬ f k = -1) (i : Nat) : bt (PX p q m t k b) i = (bt (F_X12_hitsOf_x f rl 0 (nI k) (nI b)) i || decide (i = k)) := by
  have hh : bt (F_X12_hitsOf_x f rl 0 (nI k) (nI b)) i = (decide (i < 24) && (decide (¬ i = k) && (bt (F_X12_spreadOf f (nI k)) i && decide (F_X12_atOf f (nI i) (nI b) = 24)))) := hits13 f rl _ hk i
  unfold PX
  rw [hh, b_or, b_and, b_and, bt_one_is (by omega), h.spread hk, spread_r h.q h.q0 h.m2 hk]
  by_cases ik : i = k
  · rw [decide_eq_true ik, Bool.or_true, Bool.or_true]
  · rw [decide_eq_false ik, Bool.or_false, Bool.or_false, decide_eq_true ik, Bool.true_and]
    by_cases hi : i < 24
    · rw [decide_eq_true hi, Bool.true_and, b_neg _ (by omega), h.taken hb hi, h.bt_t hi]
      cases hs : spb q k i with
      | false => rfl
      | true =>
        rw [(spb_T h hk ht hs).2]
        by_cases c2 : F_X12_atOf f (nI i) (nI b) = 24
        · rw [decide_eq_true c2, dn c2]; rfl
        · rw [decide_eq_false c2, decide_eq_true c2]; rfl
    · rw [decide_eq_false hi, Bool.false_and]
      cases hs : spb q k i with
      | false => rfl
      | true => exact absurd (spb_T h hk ht hs).1 hi
theorem RV.hits (h : RV p q m t u n f) (rl : Nat → Int32) {k b : Nat} (hk : k < 24) (ht : ¬ f k = -1) : bt (F_X12_hitsOf_x f rl 0 (nI k) (nI b)) k = false ∧ ∀ i, bt (F_X12_hitsOf_x f rl 0 (nI k) (nI b)) i = true → i < 24 ∧ ¬ f i = -1 ∧ q i = q k ∧ ¬ q k = 0 := by
  have hh : ∀ i, bt (F_X12_hitsOf_x f rl 0 (nI k) (nI b)) i = (decide (i < 24) && (decide (¬ i = k) && (bt (F_X12_spreadOf f (nI k)) i && decide (F_X12_atOf f (nI i) (nI b) = 24)))) := fun i => hits13 f rl _ hk i
  constructor
  · rw [hh k, dn rfl, Bool.false_and, Bool.and_false]
  · intro i hi
    rw [hh i, Bool.and_eq_true, Bool.and_eq_true, Bool.and_eq_true, spread_r h.q h.q0 h.m2 hk] at hi
    have a := spb_T h hk ht hi.2.2.1
    have c := spb_g hi.2.2.1 (of_decide_eq_true hi.2.1)
    exact ⟨a.1, of_decide_eq_true a.2, c.1, c.2⟩
theorem RV.parents (h : RV p q m t u n f) (rl : Nat → Int32) (a d : Int32) :
    (∃ r : Int32, F_X0_parentsBy p q m t a d = r ∧ F_X12_refusesComing_x f rl 0 a d = r ∧ (r = -1 ∨ r = -2 ∨ r = -9)) ∨
    (F_X12_refusesComing_x f rl 0 a d = 0 ∧ 0 ≤ F_X0_parentsBy p q m t a d ∧ ∃ k b, k < 24 ∧ b < 4 ∧ a = nI k ∧ d = nI b ∧ ¬ f k = -1 ∧ HI f q (F_X12_hitsOf_x f rl 0 a d) (F_X0_parentsBy p q m t a d) k) := by
  rcases h.place a d with ⟨e, w⟩ | ⟨e, e1, e2, k, b, hk, hb, ea, ed, ht⟩
  · refine Or.inl ⟨-1, ?_, ?_, Or.inl rfl⟩
    · unfold F_X0_parentsBy; rw [if_pos e]
    · unfold F_X12_refusesComing_x
      rcases w with w | w
      · rw [if_pos w]
      · by_cases c : F_X12_isThere f a = 0
        · rw [if_pos c]
        · rw [if_neg c, if_pos w]
  · subst ea ed
    have ep : F_X0_parentsBy p q m t (nI k) (nI b) = if ((F_X10_takenAt p (nI b)) &&& ((1 : Int32) <<< (nI k &&& 31))) = 0 then (if F_X10_size t + F_J6_bitCount_0f7a4 (PX p q m t k b) ≤ 24 then PX p q m t k b else -9) else -2 := by
      unfold F_X0_parentsBy
      rw [if_neg e]
      rfl
    have er : F_X12_refusesComing_x f rl 0 (nI k) (nI b) = if F_X12_atOf f (nI k) (nI b) = 24 then (if F_J6_bitCount_0f7a4 (F_X12_thereOf f) + 1 + F_J6_bitCount_0f7a4 (F_X12_hitsOf_x f rl 0 (nI k) (nI b)) ≤ 24 then 0 else -9) else -2 := by
      unfold F_X12_refusesComing_x
      rw [if_neg e1, if_neg e2]
    have tk := h.taken hb hk
    by_cases c : F_X12_atOf f (nI k) (nI b) = 24
    · rw [dn c] at tk
      rw [if_pos ((bit_and0 (by omega)).mpr tk)] at ep
      rw [if_pos c] at er
      have hX := h.PXb rl hk hb ht
      obtain ⟨hk0, hH⟩ := h.hits rl (b := b) hk ht
      obtain ⟨H, eH⟩ : ∃ H, H = F_X12_hitsOf_x f rl 0 (nI k) (nI b) := ⟨_, rfl⟩
      obtain ⟨X, eX⟩ : ∃ X, X = PX p q m t k b := ⟨_, rfl⟩
      rw [← eH] at er hk0 hH hX ⊢
      rw [← eX] at ep hX
      have sH : SB f H := fun i hi => ⟨(hH i hi).1, tN_thr ⟨(hH i hi).1, (hH i hi).2.1⟩⟩
      have sX : SB f X := fun i hi => by
        rw [hX, Bool.or_eq_true] at hi
        rcases hi with z | z
        · exact sH i z
        · have z := of_decide_eq_true z
          subst z
          exact ⟨hk, tN_thr ⟨hk, ht⟩⟩
      have cX : ct (bt X) 24 = ct (bt H) 24 + 1 := ct_put (k := k) hk0 (by rw [hX, decide_eq_true rfl, Bool.or_true]) (fun i ne => by rw [hX, decide_eq_false ne, Bool.or_false]) 24 hk
      have l1 := ct_le (isT f) 24
      have l2 := ct_le (bt H) 24
      have s0 : F_X10_size t = nI (ct (isT f) 24) := by
        unfold F_X10_size
        rw [h.tt, cnt_there]
      rw [s0, cnt_is sX, cX, nI_add2 (by omega)] at ep
      rw [cnt_there, cnt_is sH, nI_s, nI_add2 (by omega)] at er
      by_cases c3 : ct (isT f) 24 + 1 + ct (bt H) 24 ≤ 24
      · rw [if_pos ((nI_le24 (by omega)).mpr (by omega))] at ep
        rw [if_pos ((nI_le24 (by omega)).mpr c3)] at er
        refine Or.inr ⟨er, by rw [ep]; exact tn_nn sX.lt, k, b, hk, hb, rfl, rfl, ht, ?_⟩
        rw [ep]
        exact ⟨hX, hk0, hH, c3⟩
      · rw [if_neg (fun w => c3 (by have := (nI_le24 (by omega)).mp w; omega))] at ep
        rw [if_neg (fun w => c3 ((nI_le24 (by omega)).mp w))] at er
        exact Or.inl ⟨-9, ep, er, Or.inr (Or.inr rfl)⟩
    · rw [decide_eq_true c] at tk
      rw [if_neg (fun w => by rw [bit_and0 (by omega), tk] at w; cases w)] at ep
      rw [if_neg c] at er
      exact Or.inl ⟨-2, ep, er, Or.inr (Or.inl rfl)⟩
end RLs
