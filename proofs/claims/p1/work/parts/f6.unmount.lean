/-! ===== years (6: unmounting) ===== -/
section RLs
variable {p q m : Nat → Int32} {t u n : Int32} {f : Nat → Int32}
theorem or_r (a b c : Int32) : (a ||| b) ||| c = (a ||| c) ||| b := b_ext (fun i _ => by
  rw [b_or, b_or, b_or, b_or]
  cases bt a i <;> cases bt b i <;> cases bt c i <;> rfl)
/-- those who go, told by both: the same, but for the one that is asked for -/
theorem RV.goers_loop (h : RV p q m t u n f) (rl : Nat → Int32) {S : Int32} {k b : Nat} (hb : b < 4) (B : Int32) : ∀ (j l nn n2 : Nat) (acc : Int32), l + j = 24 → j < nn → j < n2 → F_X0_goers_78 nn (nI b) (acc ||| B) S (nI l) p q m t = F_X12_goersOf_x_13 n2 (nI k) (nI b) S acc (nI l) f rl 0 ||| B := by
  intro j
  induction j with
  | zero =>
    intro l nn n2 acc hl h1 h2
    obtain ⟨nn, rfl⟩ : ∃ z, nn = z + 1 := ⟨nn - 1, by omega⟩
    obtain ⟨n2, rfl⟩ : ∃ z, n2 = z + 1 := ⟨n2 - 1, by omega⟩
    have e : l = 24 := by omega
    subst e
    rw [F_X0_goers_78, F_X12_goersOf_x_13, if_pos k24e, if_pos k24e]
  | succ j ih =>
    intro l nn n2 acc hl h1 h2
    obtain ⟨nn, rfl⟩ : ∃ z, nn = z + 1 := ⟨nn - 1, by omega⟩
    obtain ⟨n2, rfl⟩ : ∃ z, n2 = z + 1 := ⟨n2 - 1, by omega⟩
    have hl2 : l < 24 := by omega
    rw [F_X0_goers_78, F_X12_goersOf_x_13, if_neg (k24 hl2), if_neg (k24 hl2), nI_s, h.mount hl2 hb, LetF_0]
    rcases has_k (b := S) hl2 with ⟨e, e2⟩ | ⟨e, e2⟩
    · rw [if_pos ((bit_and0 (by omega)).mpr e2), if_pos e]
      exact ih (l + 1) nn n2 acc (by omega) (by omega) (by omega)
    · rw [if_neg (fun w => by rw [bit_and0 (by omega), e2] at w; cases w), if_neg (show ¬ F_X12_has S (nI l) = 0 by rw [e]; decide)]
      rcases atOf_k f (nI l) (nI b) with ⟨x, x1, x2, ex, -, -⟩ | ⟨ex, -⟩
      · have x24 : ¬ nI x = 24 := fun w => k24 x2 (by rw [w]; decide)
        rw [ex, if_neg x24, if_neg x24]
        by_cases c : F_X12_childrenOf f (nI x) = 0
        · rw [if_pos ((h.children x2).mpr ((chi_iff f (nI x)).mp c)), if_pos c, or_r, ih (l + 1) nn n2 _ (by omega) (by omega) (by omega), if_neg (show ¬ (1 : Int32) = 0 by decide)]
          split <;> rfl
        · rw [if_neg (fun w => c ((chi_iff f (nI x)).mpr ((h.children x2).mp w))), if_neg c]
          exact ih (l + 1) nn n2 acc (by omega) (by omega) (by omega)
      · rw [ex, if_pos rfl, if_pos rfl]
        exact ih (l + 1) nn n2 acc (by omega) (by omega) (by omega)
/-- the bits only grow; what is set is a mount that has no child -/
theorem goers_bits (f rl : Nat → Int32) {S : Int32} {y2 : Int32} {b : Nat} : ∀ (j l n2 : Nat) (acc : Int32), l + j = 24 → j < n2 → (∀ i, bt acc i = true → bt (F_X12_goersOf_x_13 n2 y2 (nI b) S acc (nI l) f rl 0) i = true) ∧
    (∀ i, bt (F_X12_goersOf_x_13 n2 y2 (nI b) S acc (nI l) f rl 0) i = true → bt acc i = true ∨ (1 ≤ i ∧ i < 24 ∧ ¬ f i = -1 ∧ F_X12_childrenOf f (nI i) = 0)) ∧
    (∀ k, l ≤ k → k < 24 → bt S k = true → ∀ x, x < 24 → F_X12_atOf f (nI k) (nI b) = nI x → F_X12_childrenOf f (nI x) = 0 → bt (F_X12_goersOf_x_13 n2 y2 (nI b) S acc (nI l) f rl 0) x = true) := by
  intro j
  induction j with
  | zero =>
    intro l n2 acc hl h2
    obtain ⟨n2, rfl⟩ : ∃ z, n2 = z + 1 := ⟨n2 - 1, by omega⟩
    have e : l = 24 := by omega
    subst e
    rw [F_X12_goersOf_x_13, if_pos k24e]
    exact ⟨fun _ w => w, fun _ w => Or.inl w, fun k h1 h2 => absurd h1 (by omega)⟩
  | succ j ih =>
    intro l n2 acc hl h2
    obtain ⟨n2, rfl⟩ : ∃ z, n2 = z + 1 := ⟨n2 - 1, by omega⟩
    have hl2 : l < 24 := by omega
    have skip : (bt S l = true → ∀ x, x < 24 → F_X12_atOf f (nI l) (nI b) = nI x → F_X12_childrenOf f (nI x) = 0 → False) → (∀ i, bt acc i = true → bt (F_X12_goersOf_x_13 n2 y2 (nI b) S acc (nI (l + 1)) f rl 0) i = true) ∧
        (∀ i, bt (F_X12_goersOf_x_13 n2 y2 (nI b) S acc (nI (l + 1)) f rl 0) i = true → bt acc i = true ∨ (1 ≤ i ∧ i < 24 ∧ ¬ f i = -1 ∧ F_X12_childrenOf f (nI i) = 0)) ∧
        (∀ k, l ≤ k → k < 24 → bt S k = true → ∀ x, x < 24 → F_X12_atOf f (nI k) (nI b) = nI x → F_X12_childrenOf f (nI x) = 0 → bt (F_X12_goersOf_x_13 n2 y2 (nI b) S acc (nI (l + 1)) f rl 0) x = true) := fun no => by
      obtain ⟨a1, a2, a3⟩ := ih (l + 1) n2 acc (by omega) (by omega)
      refine ⟨a1, a2, fun k h1 h2 h3 x hx e1 e2 => ?_⟩
      by_cases c : k = l
      · subst c; exact absurd (no h3 x hx e1 e2) id
      · exact a3 k (by omega) h2 h3 x hx e1 e2
    rw [F_X12_goersOf_x_13, if_neg (k24 hl2), nI_s, LetF_0]
    rcases has_k (b := S) hl2 with ⟨e, e2⟩ | ⟨e, e2⟩
    · rw [if_pos e]
      exact skip (fun w => by rw [e2] at w; cases w)
    · rw [if_neg (show ¬ F_X12_has S (nI l) = 0 by rw [e]; decide)]
      rcases atOf_k f (nI l) (nI b) with ⟨x, x1, x2, ex, ef, -⟩ | ⟨ex, -⟩
      · have x24 : ¬ nI x = 24 := fun w => k24 x2 (by rw [w]; decide)
        have xt : ¬ f x = -1 := by rw [ef]; exact nI_m1 (by omega)
        rw [ex, if_neg x24]
        by_cases c : F_X12_childrenOf f (nI x) = 0
        · rw [if_pos c, if_neg (show ¬ (1 : Int32) = 0 by decide)]
          have sm : (if nI l = y2 then F_X12_goersOf_x_13 n2 y2 (nI b) S (acc ||| (1 <<< (nI x &&& 31))) (nI (l + 1)) f rl 0 else F_X12_goersOf_x_13 n2 y2 (nI b) S (acc ||| (1 <<< (nI x &&& 31))) (nI (l + 1)) f rl 0) = F_X12_goersOf_x_13 n2 y2 (nI b) S (acc ||| (1 <<< (nI x &&& 31))) (nI (l + 1)) f rl 0 := by split <;> rfl
          rw [sm]
          obtain ⟨a1, a2, a3⟩ := ih (l + 1) n2 (acc ||| (1 <<< (nI x &&& 31))) (by omega) (by omega)
          refine ⟨fun i hi => a1 i (by rw [b_or, hi, Bool.true_or]), fun i hi => ?_, fun k h1 h2 h3 y hy e1 e3 => ?_⟩
          · rcases a2 i hi with w | w
            · rw [b_or, bt_one_is (by omega), Bool.or_eq_true] at w
              rcases w with w | w
              · exact Or.inl w
              · have w := of_decide_eq_true w
                subst w
                exact Or.inr ⟨x1, x2, xt, c⟩
            · exact Or.inr w
          · by_cases c2 : k = l
            · subst c2
              have : y = x := nI_inj (by omega) (by omega) (e1.symm.trans ex)
              subst this
              exact a1 y (by rw [b_or, bt_one_is (by omega), decide_eq_true rfl, Bool.or_true])
            · exact a3 k (by omega) h2 h3 y hy e1 e3
        · rw [if_neg c]
          exact skip (fun _ y hy e1 e3 => c (by rw [← ex, e1]; exact e3))
      · rw [ex, if_pos rfl]
        exact skip (fun _ y hy e1 _ => k24 hy (by rw [← e1, ex]; decide))
/-- those who go have no child -/
def NC (f : Nat → Int32) (Gs : Int32) : Prop := ∀ x, bt Gs x = true → 1 ≤ x ∧ x < 24 ∧ ∀ i, 1 ≤ i → i < 24 → ¬ f i = nI x
theorem RV.goers (h : RV p q m t u n f) (rl : Nat → Int32) (a d : Int32) :
    (F_X0_goers p q m t a d < 0 ∧ ¬ F_X12_refusesUnmount f a d = 0) ∨
    (0 ≤ F_X0_goers p q m t a d ∧ F_X12_refusesUnmount f a d = 0 ∧ F_X12_goersOf_x f rl 0 a d = F_X0_goers p q m t a d ∧ NC f (F_X0_goers p q m t a d) ∧ ∃ b, b < 4 ∧ d = nI b) := by
  rcases h.place a d with ⟨e, w⟩ | ⟨e, e1, e2, k, b, hk, hb, ea, ed, ht⟩
  · refine Or.inl ⟨?_, ?_⟩
    · unfold F_X0_goers
      rw [if_pos e]; decide
    · unfold F_X12_refusesUnmount
      rcases w with w | w
      · rw [if_pos w]; decide
      · by_cases c : F_X12_isThere f a = 0
        · rw [if_pos c]; decide
        · rw [if_neg c, if_pos w]; decide
  · subst ea ed
    have em := h.mount hk hb
    rcases atOf_k f (nI k) (nI b) with ⟨x, x1, x2, ex, ef, -⟩ | ⟨ex, -⟩
    · have x24 : ¬ nI x = 24 := fun w => k24 x2 (by rw [w]; decide)
      by_cases c : F_X12_childrenOf f (nI x) = 0
      · have cc : F_X10_childrenOf p (nI x) = 0 := (h.children x2).mpr ((chi_iff f (nI x)).mp c)
        have sS : F_X10_spreadOf q m (nI k) &&& t = F_X12_spreadOf f (nI k) := by
          rw [h.spread hk]
          refine b_ext (fun i _ => ?_)
          rw [b_and]
          cases hs : bt (F_X12_spreadOf f (nI k)) i with
          | false => rfl
          | true =>
            rw [spread_r h.q h.q0 h.m2 hk] at hs
            have := spb_T h hk ht hs
            rw [h.bt_t this.1, this.2]; rfl
        have kS : bt (F_X12_spreadOf f (nI k)) k = true := by
          rw [spread_r h.q h.q0 h.m2 hk]
          unfold spb
          rw [decide_eq_true rfl]; rfl
        have eg : F_X0_goers p q m t (nI k) (nI b) = F_X0_goers_78 26 (nI b) (1 <<< (nI x &&& 31)) (F_X12_spreadOf f (nI k)) 0 p q m t := by
          unfold F_X0_goers
          rw [if_neg e, em, ex, if_neg x24, if_pos cc]
          show F_X0_goers_78 26 (nI b) (1 <<< (nI x &&& 31)) (F_X10_spreadOf q m (nI k) &&& t) 0 p q m t = _
          rw [sS]
        have lo := h.goers_loop rl (S := F_X12_spreadOf f (nI k)) (k := k) hb (1 <<< (nI x &&& 31)) 24 0 26 26 0 rfl (by decide) (by decide)
        have z0 : (0 : Int32) ||| (1 <<< (nI x &&& 31)) = 1 <<< (nI x &&& 31) := b_ext (fun i _ => by rw [b_or, b_0, Bool.false_or])
        rw [z0] at lo
        obtain ⟨-, b2, b3⟩ := goers_bits f rl (S := F_X12_spreadOf f (nI k)) (y2 := nI k) (b := b) 24 0 26 0 rfl (by decide)
        have b3 := b3 k (Nat.zero_le _) hk kS x x2 ex c
        have lo2 : F_X0_goers p q m t (nI k) (nI b) = F_X12_goersOf_x f rl 0 (nI k) (nI b) := by
          rw [eg]
          refine Eq.trans lo (b_ext (fun i _ => ?_))
          show bt (F_X12_goersOf_x_13 26 (nI k) (nI b) (F_X12_spreadOf f (nI k)) 0 (nI 0) f rl 0 ||| (1 <<< (nI x &&& 31))) i = bt (F_X12_goersOf_x_13 26 (nI k) (nI b) (F_X12_spreadOf f (nI k)) 0 (nI 0) f rl 0) i
          rw [b_or, bt_one_is (by omega)]
          by_cases ix : i = x
          · subst ix; rw [b3]; rfl
          · rw [decide_eq_false ix, Bool.or_false]
        have b2 : ∀ i, bt (F_X12_goersOf_x f rl 0 (nI k) (nI b)) i = true → 1 ≤ i ∧ i < 24 ∧ ¬ f i = -1 ∧ F_X12_childrenOf f (nI i) = 0 := fun i hi => by
          rcases b2 i hi with w | w
          · rw [b_0] at w; cases w
          · exact w
        have sG : SB f (F_X12_goersOf_x f rl 0 (nI k) (nI b)) := fun i hi => by
          obtain ⟨-, a2, a3, -⟩ := b2 i hi
          exact ⟨a2, tN_thr ⟨a2, a3⟩⟩
        refine Or.inr ⟨by rw [lo2]; exact tn_nn sG.lt, ?_, lo2.symm, fun y hy => ?_, b, hb, rfl⟩
        · unfold F_X12_refusesUnmount
          rw [if_neg e1, if_neg e2, ex, if_neg x24, if_pos ((chi_le f (nI x)).mpr c)]
        · rw [lo2] at hy
          obtain ⟨a1, a2, -, a4⟩ := b2 y hy
          exact ⟨a1, a2, (chi_iff f (nI y)).mp a4⟩
      · refine Or.inl ⟨?_, ?_⟩
        · unfold F_X0_goers
          rw [if_neg e, em, ex, if_neg x24, if_neg (fun w => c ((chi_iff f (nI x)).mpr ((h.children x2).mp w)))]; decide
        · unfold F_X12_refusesUnmount
          rw [if_neg e1, if_neg e2, ex, if_neg x24, if_neg (fun w => c ((chi_le f (nI x)).mp w))]; decide
    · refine Or.inl ⟨?_, ?_⟩
      · unfold F_X0_goers
        rw [if_neg e, em, ex, if_pos rfl]; decide
      · unfold F_X12_refusesUnmount
        rw [if_neg e1, if_neg e2, ex, if_pos rfl]; decide
/-- one goes, for both -/
theorem RV.remove (h : RV p q m t u n f) {x : Nat} (x1 : 1 ≤ x) (hx : x < 24) (ht : ¬ f x = -1) (nc : ∀ i, 1 ≤ i → i < 24 → ¬ f i = nI x) :
    ∃ (q' : Nat → Int32) (f' : Nat → Int32), F_X10_remove p q m t u (nI x) = (upd p x (-1), q', upd m x 0, t &&& ((1 <<< (nI x &&& 31)) ^^^ (-1)), u) ∧ F_X12_clear (F_X12_goOut f (nI x)) (nI x) = f' ∧ RV (upd p x (-1)) q' (upd m x 0) (t &&& ((1 <<< (nI x &&& 31)) ^^^ (-1))) u n f' ∧ (∀ i, i < 24 → f' i = if i = x then -1 else f i) := by
  have hh : ¬ F_X10_has t (nI x) = 0 := by
    unfold F_X10_has
    rw [if_neg (nI_nn (by omega)), if_neg (k24 hx), if_neg (fun w => by rw [bit_and0 (by omega), h.bt_t hx] at w; exact (of_decide_eq_false w) ht)]
    decide
  -- the class's group
  have e42 : ∀ (j l nn : Nat) (r0 : Nat → Int32) (g : Int32), l + j = 24 → j < nn → ¬ g = 0 → F_X10_leaveGroup_42 nn (nI x) g (nI l) r0 m t = (r0, m) := by
    intro j
    induction j with
    | zero =>
      intro l nn r0 g hl h1 _
      obtain ⟨nn, rfl⟩ : ∃ z, nn = z + 1 := ⟨nn - 1, by omega⟩
      have e : l = 24 := by omega
      subst e
      rw [F_X10_leaveGroup_42, if_pos k24e]
    | succ j ih =>
      intro l nn r0 g hl h1 hg
      obtain ⟨nn, rfl⟩ : ∃ z, nn = z + 1 := ⟨nn - 1, by omega⟩
      have hl2 : l < 24 := by omega
      rw [F_X10_leaveGroup_42, if_neg (k24 hl2), nI_s, nI_cl hl2, h.m l hl2, if_neg (fun w => hg (Eq.symm w))]
      exact ih (l + 1) nn r0 g (by omega) (by omega) hg
  have eq0 : upd q x 0 = (if q x = 0 then q else upd q x 0) := by
    by_cases c : q x = 0
    · rw [if_pos c]
      funext i
      by_cases w : i = x
      · rw [w, upd_eq, c]
      · rw [upd_ne w]
    · rw [if_neg c]
  have el : F_X10_leaveGroup q m t (nI x) = (upd q x 0, m) := by
    unfold F_X10_leaveGroup
    rw [if_neg hh, nI_cl hx]
    by_cases c : q x = 0
    · rw [if_pos c, eq0, if_pos c]
    · rw [if_neg c]
      by_cases c2 : F_X10_withGroup (upd q x 0) (q x) = 0
      · rw [if_pos c2]
        have e : F_X10_leaveGroup_42 26 (nI x) (q x) 0 (upd q x 0) m t = (upd q x 0, m) := e42 24 0 26 _ _ rfl (by decide) c
        rw [e]
      · rw [if_neg c2]
  -- the reference's
  have e30 : ∀ (g : Int32), ¬ g = 0 → ∀ (j l nn : Nat), l + j = 24 → j < nn → F_X12_goOut_30 nn (nI x) g (nI l) (upd f (48 + x) 0) = upd f (48 + x) 0 := by
    intro g hg j
    induction j with
    | zero =>
      intro l nn hl h1
      obtain ⟨nn, rfl⟩ : ∃ z, nn = z + 1 := ⟨nn - 1, by omega⟩
      have e : l = 24 := by omega
      subst e
      rw [F_X12_goOut_30, if_pos k24e]
    | succ j ih =>
      intro l nn hl h1
      obtain ⟨nn, rfl⟩ : ∃ z, nn = z + 1 := ⟨nn - 1, by omega⟩
      have hl2 : l < 24 := by omega
      have e72 : upd f (48 + x) 0 (Int32.toNatClampNeg ((72 : Int32) + nI l)) = 0 := by rw [e72n hl2, upd_ne (by omega), h.m2 l hl2]
      rw [F_X12_goOut_30, if_neg (k24 hl2), nI_s, e72, if_neg (fun w => hg (Eq.symm w)), ih (l + 1) nn (by omega) (by omega)]
      split <;> rfl
  have ff : f = if q x = 0 then upd f (48 + x) 0 else f := by
    by_cases c : q x = 0
    · rw [if_pos c]
      funext i
      by_cases w : i = 48 + x
      · rw [w, upd_eq, ← h.q x hx, c]
      · rw [upd_ne w]
    · rw [if_neg c]
  have eo : F_X12_goOut f (nI x) = upd f (48 + x) 0 := by
    unfold F_X12_goOut
    rw [e48 hx]
    by_cases c : f (48 + x) = 0
    · rw [if_pos c]
      funext i
      by_cases w : i = 48 + x
      · rw [w, upd_eq, c]
      · rw [upd_ne w]
    · rw [if_neg c]
      by_cases c2 : F_X12_inGroup (upd f (48 + x) 0) (f (48 + x)) = 0
      · rw [if_pos c2]
        exact e30 _ c 24 0 26 rfl (by decide)
      · rw [if_neg c2]
  have ec : F_X12_clear (F_X12_goOut f (nI x)) (nI x) = U5 (upd f (48 + x) 0) x (-1) 0 0 0 0 := by
    rw [eo]
    unfold F_X12_clear
    rw [nI_cl hx, e24n hx, e48 hx, e72n hx, e96n hx]
    rfl
  have rd : ∀ i, i < 24 → U5 (upd f (48 + x) 0) x (-1) 0 0 0 0 i = if i = x then -1 else f i := fun i hi => by
    by_cases c : i = x
    · rw [if_pos c, c, U5_0 hx]
    · rw [if_neg c, U5_n c (by omega) (by omega) (by omega) (by omega), upd_ne (by omega)]
  have r48 : ∀ i, i < 24 → U5 (upd f (48 + x) 0) x (-1) 0 0 0 0 (48 + i) = if i = x then 0 else f (48 + i) := fun i hi => by
    by_cases c : i = x
    · rw [if_pos c, c, U5_48 hx]
    · rw [if_neg c, U5_n (by omega) (by omega) (by omega) (by omega) (by omega), upd_ne (by omega)]
  refine ⟨upd q x 0, U5 (upd f (48 + x) 0) x (-1) 0 0 0 0, ?_, ec, ⟨fun i => ?_, ?_, ?_, fun i hi w => ?_, fun i h1 h2 w => ?_, fun i hi => ?_, fun i hi w => ?_, fun i hi => ⟨?_, ?_, ?_⟩, h.u0, ?_⟩, rd⟩
  · unfold F_X10_remove
    rw [if_neg hh, el, nI_cl hx, h.u0, and_0]
  · rw [b_and, h.t]
    show _ = (decide (i < 24) && decide (¬ U5 (upd f (48 + x) 0) x (-1) 0 0 0 0 i = -1))
    by_cases c2 : i < 24
    · rw [rd i c2, decide_eq_true c2, b_neg _ (by omega), bt_one_is (by omega)]
      by_cases c : i = x
      · rw [if_pos c, decide_eq_true c, dn rfl, Bool.not_true, Bool.and_false, Bool.and_false]
      · rw [if_neg c, decide_eq_false c, Bool.not_false, Bool.and_true]
    · rw [decide_eq_false c2, Bool.false_and, Bool.false_and, Bool.false_and]
  · rw [rd 0 (by omega), if_neg (by omega)]; exact h.f0
  · rw [upd_ne (by omega)]; exact h.p0
  · by_cases c : i = x
    · rw [c, upd_eq]
    · rw [rd i hi, if_neg c] at w
      rw [upd_ne c]
      exact h.no i hi w
  · rw [rd i h2] at w
    have c : ¬ i = x := fun z => w (if_pos z)
    rw [if_neg c] at w
    obtain ⟨a, d, ha, hd, hn, e1, e2, e3⟩ := h.pl i h1 h2 w
    have ax : ¬ a = x := fun z => nc i h1 h2 (by rw [e1, z])
    refine ⟨a, d, ha, hd, ?_, ?_, ?_, ?_⟩
    · rw [rd a ha, if_neg ax]; exact hn
    · rw [rd i h2, if_neg c]; exact e1
    · rw [U5_n (by omega) (by omega) (by omega) (by omega) (by omega), upd_ne (by omega)]; exact e2
    · rw [upd_ne c]; exact e3
  · rw [r48 i hi]
    by_cases c : i = x
    · rw [if_pos c, c, upd_eq]
    · rw [if_neg c, upd_ne c]; exact h.q i hi
  · rw [r48 i hi]
    by_cases c : i = x
    · rw [if_pos c]
    · rw [rd i hi, if_neg c] at w
      rw [if_neg c]
      exact h.q0 i hi w
  · by_cases c : i = x
    · rw [c, upd_eq]
    · rw [upd_ne c]; exact h.m i hi
  · by_cases c : i = x
    · rw [c, U5_72 hx]
    · rw [U5_n (by omega) (by omega) (by omega) (by omega) (by omega), upd_ne (by omega)]; exact h.m2 i hi
  · by_cases c : i = x
    · rw [c, U5_96]
    · rw [U5_n (by omega) (by omega) (by omega) (by omega) (by omega), upd_ne (by omega)]; exact h.u2 i hi
  · rw [U5_n (by omega) (by omega) (by omega) (by omega) (by omega), upd_ne (by omega)]; exact h.n
theorem RV.unmount_loop (rl : Nat → Int32) {Gs : Int32} {b : Nat} (hb : b < 4) (m22 : Int32) : ∀ (j l nn n2 : Nat) (p q m : Nat → Int32) (t : Int32) (f : Nat → Int32), l + j = 24 → j < nn → j < n2 → RV p q m t u n f → NC f Gs →
    ∃ (p' q' m' : Nat → Int32) (t' : Int32) (f' : Nat → Int32), F_X0_unmount_16 nn (nI b) Gs (nI l) p q m t u m22 = (p', q', m', t', u, m22) ∧ F_X12_goUnmount_x_12 n2 (nI b) Gs (nI l) f rl 0 = f' ∧ RV p' q' m' t' u n f' := by
  intro j
  induction j with
  | zero =>
    intro l nn n2 p q m t f hl h1 h2 hR _
    obtain ⟨nn, rfl⟩ : ∃ z, nn = z + 1 := ⟨nn - 1, by omega⟩
    obtain ⟨n2, rfl⟩ : ∃ z, n2 = z + 1 := ⟨n2 - 1, by omega⟩
    have e : l = 24 := by omega
    subst e
    refine ⟨p, q, m, t, f, ?_, ?_, hR⟩
    · rw [F_X0_unmount_16, if_pos k24e]
    · rw [F_X12_goUnmount_x_12, if_pos k24e]
  | succ j ih =>
    intro l nn n2 p q m t f hl h1 h2 hR hN
    obtain ⟨nn, rfl⟩ : ∃ z, nn = z + 1 := ⟨nn - 1, by omega⟩
    obtain ⟨n2, rfl⟩ : ∃ z, n2 = z + 1 := ⟨n2 - 1, by omega⟩
    have hl2 : l < 24 := by omega
    have skip := ih (l + 1) nn n2 p q m t f (by omega) (by omega) (by omega) hR hN
    rw [F_X0_unmount_16, F_X12_goUnmount_x_12, if_neg (k24 hl2), if_neg (k24 hl2), nI_s, hR.mount hl2 hb]
    rcases atOf_k f (nI l) (nI b) with ⟨x, x1, x2, ex, ef, -⟩ | ⟨ex, -⟩
    · have x24 : ¬ nI x = 24 := fun w => k24 x2 (by rw [w]; decide)
      have xt : ¬ f x = -1 := by rw [ef]; exact nI_m1 (by omega)
      have lt : ¬ f l = -1 := by
        obtain ⟨a, d, ha, hd, hn, e1, -, -⟩ := hR.pl x x1 x2 xt
        rw [show l = a from nI_inj (by omega) (by omega) (ef.symm.trans e1)]
        exact hn
      have il : ¬ F_X12_isThere f (nI l) = 0 := fun w => by
        have := isThere_0 (f := f) (k := nI l) ⟨by rw [nI_toInt (by omega)]; omega, by rw [nI_toInt (by omega)]; omega⟩ w
        rw [nI_cl hl2] at this
        exact lt this
      rw [if_neg il, ex, if_neg x24, if_neg x24]
      rcases has_k (b := Gs) x2 with ⟨e, e2⟩ | ⟨e, e2⟩
      · rw [if_pos ((bit_and0 (by omega)).mpr e2), if_pos e]
        exact skip
      · rw [if_neg (show ¬ Gs &&& (1 <<< (nI x &&& 31)) = 0 from fun w => by rw [bit_and0 (by omega), e2] at w; cases w), if_neg (show ¬ F_X12_has Gs (nI x) = 0 by rw [e]; decide)]
        obtain ⟨-, -, nc⟩ := hN x e2
        obtain ⟨q', f', ep, ec, hR', rd⟩ := hR.remove x1 x2 xt nc
        rw [ep]
        show ∃ (p' q2 m' : Nat → Int32) (t' : Int32) (f2 : Nat → Int32), F_X0_unmount_16 nn (nI b) Gs (nI (l + 1)) (upd p x (-1)) q' (upd m x 0) (t &&& ((1 <<< (nI x &&& 31)) ^^^ (-1))) u m22 = (p', q2, m', t', u, m22) ∧ F_X12_goUnmount_x_12 n2 (nI b) Gs (nI (l + 1)) (F_X12_clear (F_X12_goOut f (nI x)) (nI x)) rl 0 = f2 ∧ RV p' q2 m' t' u n f2
        rw [ec]
        refine ih (l + 1) nn n2 _ _ _ _ _ (by omega) (by omega) (by omega) hR' (fun y hy => ?_)
        obtain ⟨a1, a2, a3⟩ := hN y hy
        refine ⟨a1, a2, fun i i1 i2 w => ?_⟩
        rw [rd i i2] at w
        by_cases c : i = x
        · rw [if_pos c] at w; exact nI_m1 (by omega) w.symm
        · rw [if_neg c] at w; exact a3 i i1 i2 w
    · rw [ex, if_pos rfl, if_pos rfl]
      by_cases c : F_X12_isThere f (nI l) = 0
      · rw [if_pos c]; exact skip
      · rw [if_neg c]; exact skip
theorem RV.unmounts (h : RV p q m t u n f) (rl : Nat → Int32) (m22 a d : Int32) :
    ∃ (r : Int32) (p' q' m' : Nat → Int32) (t' m22' : Int32), F_X11_unmounts p q m t u m22 a d = (r, p', q', m', t', u, m22') ∧
    ((F_X12_refusesUnmount f a d = 0 ∧ ∃ (r' : Int32) (f' : Nat → Int32), F_X12_goUnmount_x f rl 0 a d = (r', f') ∧ RV p' q' m' t' u n f') ∨ (¬ F_X12_refusesUnmount f a d = 0 ∧ RV p' q' m' t' u n f)) := by
  have un : ∀ (r : Int32) (p' q' m' : Nat → Int32) (t' m22' : Int32), F_X0_unmount p q m t u m22 a d = (r, p', q', m', t', u, m22') → F_X11_unmounts p q m t u m22 a d = (F_X11_remembered r, p', q', m', t', u, m22') := fun r p' q' m' t' m22' e => by
    unfold F_X11_unmounts
    rw [e]
    show (if F_X11_remembered r < 0 then _ else _) = _
    split <;> rfl
  rcases h.goers rl a d with ⟨e1, e2⟩ | ⟨e1, e2, e3, hN, b, hb, ed⟩
  · refine ⟨F_X11_remembered (F_X0_goers p q m t a d), p, q, m, t, m22, un (F_X0_goers p q m t a d) p q m t m22 ?_, Or.inr ⟨e2, h⟩⟩
    unfold F_X0_unmount
    rw [if_neg (fun w => by have := fz_le.mp w; have := fz_lt.mp e1; omega)]
  · subst ed
    obtain ⟨p', q', m', t', f', l1, l2, hR⟩ := RV.unmount_loop rl hb m22 24 0 26 26 p q m t f rfl (by decide) (by decide) h hN
    refine ⟨F_X11_remembered (F_J6_bitCount_0f7a4 (F_X0_goers p q m t a (nI b))), p', q', m', t', m22 + 1, un (F_J6_bitCount_0f7a4 (F_X0_goers p q m t a (nI b))) p' q' m' t' (m22 + 1) ?_, Or.inl ⟨e2, F_X0_goers p q m t a (nI b), upd f' (Int32.toNatClampNeg 120) (f' (Int32.toNatClampNeg 120) + 1), ?_, hR.h120 _⟩⟩
    · unfold F_X0_unmount
      rw [if_pos e1]
      have l1 : F_X0_unmount_16 26 (nI b) (F_X0_goers p q m t a (nI b)) 0 p q m t u m22 = (p', q', m', t', u, m22) := l1
      rw [l1]
    · unfold F_X12_goUnmount_x
      rw [e3]
      have l2 : F_X12_goUnmount_x_12 26 (nI b) (F_X0_goers p q m t a (nI b)) 0 f rl 0 = f' := l2
      rw [l2]
end RLs
