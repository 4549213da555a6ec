/-! ===== a new object: class and reference answer the same ===== -/
theorem fr_has (a : Int32) : a = 0 ∨ (F_X10_has 1 a = 0 ∧ F_X12_isThere nowF a = 0) := by
  by_cases c : F_X12_isThere nowF a = 0
  · exact Or.inr ⟨(RV_0.has a).trans c, c⟩
  · obtain ⟨k, hk, e, ht⟩ := isThere_k c
    have k0 := now_tN ⟨hk, ht⟩
    subst k0
    exact Or.inl e
theorem fr_place (a d : Int32) : (F_X10_hasPlace 1 a d = 0 ∧ (F_X12_isThere nowF a = 0 ∨ F_X12_isDir d = 0)) ∨ (a = 0 ∧ (d = 0 ∨ d = 1 ∨ d = 2 ∨ d = 3)) := by
  rcases RV_0.place a d with h | ⟨-, -, -, k, b, hk, hb, ea, ed, ht⟩
  · exact Or.inl h
  · have k0 := now_tN ⟨hk, ht⟩
    subst k0
    refine Or.inr ⟨ea, ?_⟩
    rcases (show b = 0 ∨ b = 1 ∨ b = 2 ∨ b = 3 by omega) with rfl | rfl | rfl | rfl
    · exact Or.inl ed
    · exact Or.inr (Or.inl ed)
    · exact Or.inr (Or.inr (Or.inl ed))
    · exact Or.inr (Or.inr (Or.inr ed))
theorem fr_dir (d : Int32) : (d = 0 ∨ d = 1 ∨ d = 2 ∨ d = 3) ∨ (F_X12_isDir d = 0 ∧ (d < 0 ∨ (4 : Int32) ≤ d)) := by
  rcases isDir_k (d := d) with ⟨b, hb, e⟩ | h
  · refine Or.inl ?_
    rcases (show b = 0 ∨ b = 1 ∨ b = 2 ∨ b = 3 by omega) with rfl | rfl | rfl | rfl
    · exact Or.inl e
    · exact Or.inr (Or.inl e)
    · exact Or.inr (Or.inr (Or.inl e))
    · exact Or.inr (Or.inr (Or.inr e))
  · exact Or.inr h
section bad
variable {a d : Int32}
theorem pb_bad (e : F_X10_hasPlace 1 a d = 0) : F_X0_parentsBy P0 Z0 Z0 1 a d = -1 := by
  unfold F_X0_parentsBy
  rw [if_pos e]
theorem go_bad (e : F_X10_hasPlace 1 a d = 0) : F_X0_goers P0 Z0 Z0 1 a d = -1 := by
  unfold F_X0_goers
  rw [if_pos e]
theorem rc_bad (w : F_X12_isThere nowF a = 0 ∨ F_X12_isDir d = 0) : F_X12_refusesComing_x nowF Z0 0 a d = -1 := by
  unfold F_X12_refusesComing_x
  rcases w with w | w
  · rw [if_pos w]
  · by_cases c : F_X12_isThere nowF a = 0
    · rw [if_pos c]
    · rw [if_neg c, if_pos w]
theorem ru_bad (w : F_X12_isThere nowF a = 0 ∨ F_X12_isDir d = 0) : F_X12_refusesUnmount nowF a d = -1 := by
  unfold F_X12_refusesUnmount
  rcases w with w | w
  · rw [if_pos w]
  · by_cases c : F_X12_isThere nowF a = 0
    · rw [if_pos c]
    · rw [if_neg c, if_pos w]
theorem m1_neg : ¬ (0 : Int32) ≤ -1 := by decide
theorem ge0 : (0 : Int32) ≤ 0 := by decide
end bad
theorem fr_mounts (a d : Int32) : (F_X11_mounts P0 Z0 Z0 Z0 1 0 1 a d).1 = (F_X12_mounts_x nowF Z0 Z0 Z0 0 0 a d).1 := by
  rcases fr_place a d with ⟨e, w⟩ | ⟨rfl, rfl | rfl | rfl | rfl⟩
  · unfold F_X11_mounts F_X0_mountNew F_X12_mounts_x
    rw [pb_bad e, rc_bad w, if_neg m1_neg, if_neg m1_neg]
    decide +kernel
  all_goals decide +kernel
theorem fr_binds (o a d : Int32) : (F_X11_binds P0 Z0 Z0 Z0 1 0 0 1 o a d).1 = (F_X12_binds_x nowF Z0 Z0 Z0 0 0 o a d).1 := by
  rcases fr_has o with rfl | ⟨e1, e2⟩
  · rcases fr_place a d with ⟨e, w⟩ | ⟨rfl, rfl | rfl | rfl | rfl⟩
    · have k1 : ¬ F_X10_has 1 0 = 0 := by decide
      have k2 : ¬ F_X12_isThere nowF 0 = 0 := by decide +kernel
      have er : F_X12_refusesBind_x nowF Z0 0 0 a d = -1 := by
        unfold F_X12_refusesBind_x
        rw [if_neg k2, rc_bad w, if_pos rfl]
      unfold F_X11_binds F_X0_bindOne F_X12_binds_x
      rw [if_neg k1, pb_bad e, if_pos rfl, er, if_neg m1_neg]
      decide +kernel
    all_goals decide +kernel
  · have er : F_X12_refusesBind_x nowF Z0 0 o a d = -1 := by
      unfold F_X12_refusesBind_x
      rw [if_pos e2]
    unfold F_X11_binds F_X0_bindOne F_X12_binds_x
    rw [if_pos e1, er, if_neg m1_neg]
    decide +kernel
theorem fr_makes (a k : Int32) : (F_X11_makes Z0 Z0 1 0 0 1 a k).1 = (F_X12_makes_x nowF a k).1 := by
  rcases fr_has a with rfl | ⟨e1, e2⟩
  · rcases fr_dir k with (rfl | rfl | rfl | rfl) | ⟨e, w⟩
    · decide +kernel
    · decide +kernel
    · decide +kernel
    · decide +kernel
    · have k1 : ¬ F_X10_has 1 0 = 0 := by decide
      have k2 : ¬ F_X12_isThere nowF 0 = 0 := by decide +kernel
      have er : F_X12_refusesMaking nowF 0 k = -1 := by
        unfold F_X12_refusesMaking
        rw [if_neg k2, if_pos (show F_X12_in k 0 3 = 0 from e)]
      have ec : F_X0_makeKind Z0 Z0 1 0 0 1 0 k = (-1, Z0, Z0, 0, 0, 1) := by
        unfold F_X0_makeKind
        rw [if_neg k1]
        rcases w with w | w
        · rw [if_pos w]
        · have n1 : ¬ k < 0 := fun q => by have := fz_lt.mp q; have := fz_le.mp w; have z : (0 : Int32).toInt = 0 := rfl; have z4 : (4 : Int32).toInt = 4 := rfl; omega
          have n2 : ¬ k ≤ 3 := fun q => by have := fz_le.mp q; have := fz_le.mp w; have z : (3 : Int32).toInt = 3 := rfl; have z4 : (4 : Int32).toInt = 4 := rfl; omega
          rw [if_neg n1, if_neg n2]
      unfold F_X11_makes F_X12_makes_x
      rw [ec, er, if_neg m1_neg]
      decide +kernel
  · have er : F_X12_refusesMaking nowF a k = -1 := by
      unfold F_X12_refusesMaking
      rw [if_pos e2]
    unfold F_X11_makes F_X0_makeKind F_X12_makes_x
    rw [if_pos e1, er, if_neg m1_neg]
    decide +kernel
theorem fr_unmounts (a d : Int32) : (F_X11_unmounts P0 Z0 Z0 1 0 0 a d).1 = (F_X12_unmounts_x nowF Z0 0 a d).1 := by
  rcases fr_place a d with ⟨e, w⟩ | ⟨rfl, rfl | rfl | rfl | rfl⟩
  · unfold F_X11_unmounts F_X0_unmount F_X12_unmounts_x
    rw [go_bad e, ru_bad w, if_neg m1_neg, if_neg m1_neg]
    decide +kernel
  all_goals decide +kernel
theorem fr_lost (a d : Int32) : F_X11_lost P0 Z0 Z0 1 a d = F_X12_lost__x nowF Z0 0 a d := by
  rcases fr_place a d with ⟨e, w⟩ | ⟨rfl, rfl | rfl | rfl | rfl⟩
  · unfold F_X11_lost F_X12_lost__x
    rw [go_bad e, ru_bad w, if_neg m1_neg, if_neg m1_neg]
  all_goals decide +kernel
theorem fr_would (a d : Int32) : F_X11_would P0 Z0 Z0 1 a d = F_X12_would_x nowF Z0 0 a d := by
  rcases fr_place a d with ⟨e, w⟩ | ⟨rfl, rfl | rfl | rfl | rfl⟩
  · unfold F_X11_would F_X12_would_x
    rw [pb_bad e, rc_bad w, if_neg m1_neg, if_neg m1_neg]
  all_goals decide +kernel
theorem fr_law (a d : Int32) : F_X11_law a d = F_X12_law_z nowF a d := by
  rcases fr_place a d with ⟨e, w⟩ | ⟨rfl, rfl | rfl | rfl | rfl⟩
  · unfold F_X11_law F_X12_law_z
    rw [if_pos e]
    rcases w with w | w
    · rw [if_pos w]
    · by_cases c : F_X12_isThere nowF a = 0
      · rw [if_pos c]
      · rw [if_neg c, if_pos w]
  all_goals decide +kernel
theorem fr_moves (m a d : Int32) : (F_X11_moves P0 Z0 1 0 m a d).1 = (F_X12_moves_x nowF m a d).1 := by
  rcases fr_has m with rfl | ⟨e1, e2⟩
  · rcases fr_place a d with ⟨e, w⟩ | ⟨rfl, rfl | rfl | rfl | rfl⟩
    · have k1 : ¬ F_X10_has 1 0 = 0 := by decide
      have k2 : ¬ F_X12_isThere nowF 0 = 0 := by decide +kernel
      have er : F_X12_refusesMove_x nowF 0 a d = -1 := by
        unfold F_X12_refusesMove_x
        rw [if_neg k2]
        rcases w with w | w
        · rw [if_pos w]
        · by_cases c : F_X12_isThere nowF a = 0
          · rw [if_pos c]
          · rw [if_neg c, if_pos w]
      unfold F_X11_moves F_X0_move F_X12_moves_x
      rw [if_neg k1, if_pos e, er, if_neg m1_neg]
      decide +kernel
    all_goals decide +kernel
  · have er : F_X12_refusesMove_x nowF m a d = -1 := by
      unfold F_X12_refusesMove_x
      rw [if_pos e2]
    unfold F_X11_moves F_X0_move F_X12_moves_x
    rw [if_pos e1, er, if_neg m1_neg]
    decide +kernel
theorem fr_trees (m a d : Int32) : (F_X11_trees 0 m a d).1 = F_X12_trees_x nowF Z0 Z0 Z0 0 0 m a d := by
  rcases fr_has m with rfl | ⟨e1, e2⟩
  · rcases fr_place a d with ⟨e, w⟩ | ⟨rfl, rfl | rfl | rfl | rfl⟩
    · have k1 : ¬ F_X10_has 1 0 = 0 := by decide
      have k2 : ¬ F_X12_isThere nowF 0 = 0 := by decide +kernel
      have er : F_X12_refusesTree_x nowF 0 a d = -1 := by
        unfold F_X12_refusesTree_x
        rw [if_neg k2]
        rcases w with w | w
        · rw [if_pos w]
        · by_cases c : F_X12_isThere nowF a = 0
          · rw [if_pos c]
          · rw [if_neg c, if_pos w]
      unfold F_X11_trees F_X0_bindTree F_X12_trees_x
      rw [if_neg k1, if_pos e, er, if_neg m1_neg]
      decide +kernel
    all_goals decide +kernel
  · have er : F_X12_refusesTree_x nowF m a d = -1 := by
      unfold F_X12_refusesTree_x
      rw [if_pos e2]
    unfold F_X11_trees F_X0_bindTree F_X12_trees_x
    rw [if_pos e1, er, if_neg m1_neg]
    decide +kernel
theorem fr_spread (a : Int32) : F_X11_spread Z0 Z0 1 a = F_X12_spread_x nowF a := by
  rcases fr_has a with rfl | ⟨e1, e2⟩
  · decide +kernel
  · unfold F_X11_spread F_X12_spread_x
    rw [if_pos e1, if_pos e2]
theorem fr_peers (a : Int32) : F_X11_peers Z0 Z0 1 a = F_X12_peers_x nowF a := by
  rcases fr_has a with rfl | ⟨e1, e2⟩
  · decide +kernel
  · unfold F_X11_peers F_X12_peers_x
    rw [if_pos e1, if_pos e2]
theorem fr_inside (a : Int32) : F_X11_inside P0 1 a = F_X12_inside_x nowF a := by
  rcases fr_has a with rfl | ⟨e1, e2⟩
  · decide +kernel
  · unfold F_X11_inside F_X12_inside_x
    rw [if_pos e1, if_pos e2]
theorem fr_masters (a : Int32) : (F_X11_masters Z0 Z0 1 0 a).1 = (F_X12_masters_x nowF 0 a).1 := by
  rcases fr_has a with rfl | ⟨e1, e2⟩
  · decide +kernel
  · unfold F_X11_masters F_X12_masters_x
    rw [if_pos e1, if_pos e2]
theorem fr_path (a : Int32) : (F_X11_path P0 1 0 a).1 = F_X12_path_x nowF a := by
  rcases fr_has a with rfl | ⟨e1, e2⟩
  · decide +kernel
  · unfold F_X11_path F_X12_path_x
    rw [if_pos e1, if_pos e2]
theorem fr_hacks (a : Int32) : F_X11_hacks a = (F_X12_hacks_z nowF 0 a).1 := by
  rcases fr_has a with rfl | ⟨e1, e2⟩
  · decide +kernel
  · unfold F_X11_hacks F_X12_hacks_z
    rw [if_pos e1, if_pos e2]
theorem fr_keepers (a b : Int32) : F_X11_keepers a b = (F_X12_keepers_x nowF Z0 a b).1 := by
  have k1 : ¬ F_X10_has 1 0 = 0 := by decide
  have k2 : ¬ F_X12_isThere nowF 0 = 0 := by decide +kernel
  rcases fr_has a with rfl | ⟨e1, e2⟩
  · rcases fr_has b with rfl | ⟨e3, e4⟩
    · decide +kernel
    · unfold F_X11_keepers F_X12_keepers_x
      rw [if_neg k1, if_neg k2, if_pos e3, if_pos e4]
  · unfold F_X11_keepers F_X12_keepers_x
    rw [if_pos e1, if_pos e2]
theorem fr_alike (a b : Int32) : F_X11_alike a b = F_X12_alike_z nowF a b := by
  have k1 : ¬ F_X10_has 1 0 = 0 := by decide
  have k2 : ¬ F_X12_isThere nowF 0 = 0 := by decide +kernel
  rcases fr_has a with rfl | ⟨e1, e2⟩
  · rcases fr_has b with rfl | ⟨e3, e4⟩
    · decide +kernel
    · unfold F_X11_alike F_X12_alike_z
      rw [if_neg k1, if_neg k2, if_pos e3, if_pos e4]
  · unfold F_X11_alike F_X12_alike_z
    rw [if_pos e1, if_pos e2]
theorem fr_odds (a n k : Int32) : F_X11_odds Z0 Z0 1 a n k = F_X12_odds_x nowF a n k := by
  have k1 : ¬ F_X10_has 1 0 = 0 := by decide
  have k2 : ¬ F_X12_isThere nowF 0 = 0 := by decide +kernel
  have k3 : F_J6_bitCount_0f7a4 (F_X10_spreadOf Z0 Z0 0) - 1 ≤ 16 := by decide +kernel
  have k4 : F_J6_bitCount_0f7a4 (F_X12_spreadOf nowF 0) - 1 ≤ 16 := by decide +kernel
  rcases fr_has a with rfl | ⟨e1, e2⟩
  · unfold F_X11_odds F_X12_odds_x F_X12_in
    rw [if_neg k1, if_neg k2, if_pos k3, if_pos k4]
    by_cases c1 : n < 0
    · rw [if_pos c1, if_pos c1, if_pos rfl]
    · rw [if_neg c1, if_neg c1]
      by_cases c2 : (16 : Int32) < n
      · rw [if_pos c2, if_pos c2, if_pos rfl]
      · rw [if_neg c2, if_neg c2, if_neg (show ¬ (1 : Int32) = 0 by decide)]
        by_cases c3 : k < 0
        · rw [if_pos c3, if_pos c3, if_pos rfl]
        · rw [if_neg c3, if_neg c3]
          by_cases c4 : k ≤ 10
          · rw [if_pos c4, if_neg (show ¬ (10 : Int32) < k from fun q => by have := fz_lt.mp q; have := fz_le.mp c4; omega), if_neg (show ¬ (1 : Int32) = 0 by decide)]
          · rw [if_neg c4, if_pos (nle_lt c4), if_pos rfl]
  · unfold F_X11_odds F_X12_odds_x
    rw [if_pos e1, if_pos e2]
theorem fr_count (k : Int32) : F_X11_count Z0 Z0 0 0 0 1 0 0 1 0 0 k = F_X12_count_x nowF 0 0 0 0 0 k := by
  by_cases c0 : k = 0
  · subst c0; decide +kernel
  by_cases c1 : k = 1
  · subst c1; decide +kernel
  by_cases c2 : k = 2
  · subst c2; decide +kernel
  by_cases c3 : k = 3
  · subst c3; decide +kernel
  by_cases c4 : k = 4
  · subst c4; decide +kernel
  by_cases c5 : k = 5
  · subst c5; decide +kernel
  by_cases c6 : k = 6
  · subst c6; decide +kernel
  by_cases c7 : k = 7
  · subst c7; decide +kernel
  by_cases c8 : k = 8
  · subst c8; decide +kernel
  by_cases c9 : k = 9
  · subst c9; decide +kernel
  by_cases ca : k = 10
  · subst ca; decide +kernel
  unfold F_X11_count F_X12_count_x
  rw [if_neg c0, if_neg c1, if_neg c2, if_neg c3, if_neg c4, if_neg c5, if_neg c6, if_neg c7, if_neg c8, if_neg c9, if_neg ca, if_neg c0, if_neg c1, if_neg c2, if_neg c3, if_neg c4, if_neg c5]
theorem fr_groups : F_X11_groups Z0 1 = F_X12_groups_x nowF := by decide +kernel
theorem fr_largest : F_X11_largest P0 1 = F_X12_largest_x nowF := by decide +kernel
theorem fr_widest : F_X11_widest P0 Z0 Z0 1 = F_X12_widest_x nowF Z0 0 := by decide +kernel
theorem fr_fits : F_X11_fits 1 = F_X12_fits_x nowF := by decide +kernel
theorem fr_asks : (F_X11_asks P0 Z0 Z0 Z0 1 0 0).1 = F_X12_asks_x nowF := by decide +kernel
theorem fr_undo : (F_X12_undo_x 0).1 = -1 := by decide +kernel
-- rests
theorem best_2 : ∀ (n : Nat) (v x y z : Int32), F_X11_isBest_2 n v x y z = F_X12_isBest_2 n x y v z := fun n => by
  induction n with
  | zero => intro v x y z; rfl
  | succ n ih =>
    intro v x y z
    show (if (9 : Int32) < z then (1 : Int32) else (if (F_X11_gain v z y) ≤ (F_X11_gain v x y) then (F_X11_isBest_2 n v x y (z + (1 : Int32))) else (0 : Int32))) = (if (9 : Int32) < z then (1 : Int32) else (if (F_X12_gets z y v) ≤ (F_X12_gets x y v) then (F_X12_isBest_2 n x y v (z + (1 : Int32))) else (0 : Int32)))
    rw [ih]
    rfl
theorem best_q (v x y : Int32) : F_X11_isBest v x y = F_X12_isBest x y v := best_2 12 v x y 0
theorem ite_tt {α : Type} {c : Prop} [Decidable c] {x : α} : (if c then x else x) = x := by split <;> rfl
theorem rests_in : ∀ (n : Nat) (v a x y : Int32), F_X11_rests_32 n v a x y = F_X12_rests_x_35 n v a x y := fun n => by
  induction n with
  | zero => intro v a x y; rfl
  | succ n ih =>
    intro v a x y
    rw [F_X11_rests_32, F_X12_rests_x_35, best_q, best_q, ite_tt, ite_tt, ih, ih]
theorem rests_out : ∀ (n : Nat) (v a x : Int32), F_X11_rests_23 n v a x = F_X12_rests_x_26 n v a x := fun n => by
  induction n with
  | zero => intro v a x; rfl
  | succ n ih =>
    intro v a x
    rw [F_X11_rests_23, F_X12_rests_x_26, ih, rests_in]
theorem fr_rests (v : Int32) : F_X11_rests v = F_X12_rests_x v := by
  unfold F_X11_rests F_X12_rests_x F_X12_in
  by_cases c1 : v < 0
  · rw [if_pos c1, if_pos c1, if_pos rfl]
  · rw [if_neg c1, if_neg c1]
    by_cases c2 : v ≤ 20
    · rw [if_pos c2, if_neg (show ¬ (20 : Int32) < v from fun q => by have := fz_lt.mp q; have := fz_le.mp c2; omega), if_neg (show ¬ (1 : Int32) = 0 by decide), rests_out]
    · rw [if_neg c2, if_pos (nle_lt c2), if_pos rfl]
-- sheet: only the root is there
theorem has_no {y : Nat} (h1 : 1 ≤ y) (h2 : y < 24) : F_X10_has 1 (nI y) = 0 := by
  rcases fr_has (nI y) with e | ⟨e, -⟩
  · exact absurd (nI_inj (b := 0) (by omega) (by decide) e) (by omega)
  · exact e
theorem sheet_c : ∀ (j y n : Nat) (a w c d p i : Int32), 1 ≤ y → y + j = 24 → j < n → F_X11_toldBySheet_9 n a w c d p i (nI y) Z0 Z0 1 = p := by
  intro j
  induction j with
  | zero =>
    intro y n a w c d p i _ hy hn
    obtain ⟨n, rfl⟩ : ∃ z, n = z + 1 := ⟨n - 1, by omega⟩
    have e : y = 24 := by omega
    subst e
    rw [F_X11_toldBySheet_9, if_pos k24e]
  | succ j ih =>
    intro y n a w c d p i h1 hy hn
    obtain ⟨n, rfl⟩ : ∃ z, n = z + 1 := ⟨n - 1, by omega⟩
    have h2 : y < 24 := by omega
    rw [F_X11_toldBySheet_9, if_neg (k24 h2), has_no h1 h2, nI_s, if_pos rfl, ih (y + 1) n a w c d p i (by omega) (by omega) (by omega), ite_tt]
theorem sheet_r : ∀ (j y n : Nat) (f : Nat → Int32) (a w d v i p : Int32), (∀ k, 1 ≤ k → k < 24 → F_X12_isThere f (nI k) = 0) → 1 ≤ y → y + j = 24 → j < n → F_X12_sheet_x_46 n a w d v i p (nI y) f = (p, f) := by
  intro j
  induction j with
  | zero =>
    intro y n f a w d v i p _ _ hy hn
    obtain ⟨n, rfl⟩ : ∃ z, n = z + 1 := ⟨n - 1, by omega⟩
    have e : y = 24 := by omega
    subst e
    rw [F_X12_sheet_x_46, if_pos k24e]
  | succ j ih =>
    intro y n f a w d v i p hf h1 hy hn
    obtain ⟨n, rfl⟩ : ∃ z, n = z + 1 := ⟨n - 1, by omega⟩
    have h2 : y < 24 := by omega
    rw [F_X12_sheet_x_46, if_neg (k24 h2), if_pos (hf y h1 h2), nI_s]
    exact ih (y + 1) n f a w d v i p hf (by omega) (by omega) (by omega)
/-- what the sheet tells of the root: 1 where something is said of it, and it is positive -/
def shW (a w v : Int32) : Int32 := if w ≤ 0 then 0 else if F_X11_asWide a v ≤ 0 then 0 else 1
theorem sheet_cw (a w v d : Int32) : F_X11_toldBySheet Z0 Z0 1 a w v d = shW a w v := by
  have z : v + 0 * d = v := by rw [Int32.zero_mul, Int32.add_zero]
  have h0 : ¬ F_X10_has 1 0 = 0 := by decide
  have h1 : ¬ (24 : Int32) ≤ 0 := by decide
  have g0 : F_X10_groupOf Z0 0 = 0 := by decide
  have g1 : F_X10_masterOf Z0 0 = 0 := by decide
  have n1 : (0 : Int32) + 1 = nI 1 := by decide
  have t : ∀ p i : Int32, F_X11_toldBySheet_9 25 a w v d p i (nI 1) Z0 Z0 1 = p := fun p i => sheet_c 23 1 25 a w v d p i (Nat.le_refl _) rfl (by decide)
  have o1 : (0 : Int32) ||| (1 <<< ((0 : Int32) &&& 31)) = 1 := by decide
  show F_X11_toldBySheet_9 (25 + 1) a w v d 0 0 0 Z0 Z0 1 = _
  rw [F_X11_toldBySheet_9, if_neg h1, if_neg h0, g0, if_pos rfl, g1, if_pos rfl, z, n1, t, t, o1]
  rfl
theorem sheet_rw {a : Int32} (ha : a = 0 ∨ a = 1 ∨ a = 2) (w v d : Int32) : (F_X12_sheet_x_46 26 a w d v 0 0 0 nowF).1 = shW a w v := by
  have h0 : ¬ F_X12_isThere nowF 0 = 0 := by decide +kernel
  have h1 : ¬ (24 : Int32) ≤ 0 := by decide
  have g0 : nowF (Int32.toNatClampNeg ((48 : Int32) + 0)) = 0 := by decide +kernel
  have g1 : nowF (Int32.toNatClampNeg ((72 : Int32) + 0)) = 0 := by decide +kernel
  have n1 : (0 : Int32) + 1 = nI 1 := by decide
  have nf : ∀ x : Int32, ∀ k, 1 ≤ k → k < 24 → F_X12_isThere (upd nowF (Int32.toNatClampNeg ((96 : Int32) + 0)) x) (nI k) = 0 := fun x k k1 k2 => by
    unfold F_X12_isThere
    rw [nI_cl k2, upd_ne (show k ≠ (Int32.toNatClampNeg ((96 : Int32) + 0)) by rw [show Int32.toNatClampNeg ((96 : Int32) + 0) = 96 by decide]; omega)]
    have e : nowF k = -1 := by
      unfold nowF
      rw [if_neg (by omega), if_neg (by omega), if_neg (by omega), if_pos k2]
    rw [e, if_pos rfl, ite_tt]
  have t : ∀ x s i p : Int32, F_X12_sheet_x_46 25 a w d s i p (nI 1) (upd nowF (Int32.toNatClampNeg ((96 : Int32) + 0)) x) = (p, upd nowF (Int32.toNatClampNeg ((96 : Int32) + 0)) x) := fun x s i p => sheet_r 23 1 25 _ a w d s i p (nf x) (Nat.le_refl _) rfl (by decide)
  have z0 : (0 : Int32) + 0 = 0 := by decide
  have z1 : (0 : Int32) + 1 = 1 := by decide
  have z2 : nI 1 = (1 : Int32) := by decide
  show (F_X12_sheet_x_46 (25 + 1) a w d v 0 0 0 nowF).1 = _
  rw [F_X12_sheet_x_46, if_neg h1, if_neg h0, g0, g1, upd_eq, upd_eq, n1, t, t]
  unfold shW F_X11_asWide
  rcases ha with rfl | rfl | rfl
  · rw [if_pos rfl, if_pos rfl, if_pos rfl, if_neg (show ¬ (3 : Int32) ≤ 0 by decide), if_pos rfl]
    by_cases c1 : w ≤ 0
    · rw [if_pos c1, if_pos c1]; exact z0
    · rw [if_neg c1, if_neg c1]
      by_cases c2 : Int8.toInt32 (Int32.toInt8 v) ≤ 0
      · rw [if_pos c2, if_pos c2]; exact z0
      · rw [if_neg c2, if_neg c2]; first | exact z1 | exact z2
  · rw [if_neg (show ¬ (1 : Int32) = 0 by decide), if_pos rfl, if_pos rfl, if_pos rfl, if_neg (show ¬ (3 : Int32) ≤ 1 by decide), if_neg (show ¬ (1 : Int32) = 0 by decide), if_pos rfl]
    by_cases c1 : w ≤ 0
    · rw [if_pos c1, if_pos c1]; exact z0
    · rw [if_neg c1, if_neg c1]
      by_cases c2 : Int16.toInt32 (Int32.toInt16 v) ≤ 0
      · rw [if_pos c2, if_pos c2]; exact z0
      · rw [if_neg c2, if_neg c2]; first | exact z1 | exact z2
  · rw [if_neg (show ¬ (2 : Int32) = 0 by decide), if_neg (show ¬ (2 : Int32) = 1 by decide), if_pos rfl, if_pos rfl, if_neg (show ¬ (3 : Int32) ≤ 2 by decide), if_neg (show ¬ (2 : Int32) = 0 by decide), if_neg (show ¬ (2 : Int32) = 1 by decide)]
    by_cases c1 : w ≤ 0
    · rw [if_pos c1, if_pos c1]; exact z0
    · rw [if_neg c1, if_neg c1]
      by_cases c2 : v ≤ 0
      · rw [if_pos c2, if_pos c2]; exact z0
      · rw [if_neg c2, if_neg c2]; first | exact z1 | exact z2
theorem shW_bc (a w v : Int32) : F_J6_bitCount_0f7a4 (shW a w v) = shW a w v := by
  have b0 : F_J6_bitCount_0f7a4 0 = 0 := by decide +kernel
  have b1 : F_J6_bitCount_0f7a4 1 = 1 := by decide +kernel
  unfold shW
  split
  · exact b0
  · split
    · exact b0
    · exact b1
theorem fr_sheet (a w v d : Int32) : (F_X11_sheet Z0 Z0 1 0 a w v d).1 = (F_X12_sheet_x nowF a w v d).1 := by
  unfold F_X11_sheet F_X12_sheet_x F_X12_in
  have z1 : ¬ (1 : Int32) = 0 := by decide
  by_cases c1 : a < 0
  · rw [if_pos c1, if_pos c1, if_pos rfl]
  · rw [if_neg c1, if_neg c1]
    by_cases c2 : (3 : Int32) < a
    · rw [if_pos c2, if_pos c2, if_pos rfl]
    · rw [if_neg c2, if_neg c2, if_neg z1]
      by_cases c3 : w ≤ 24
      · rw [if_pos c3, if_pos c3]
        by_cases c4 : a = 3
        · have l3 : (3 : Int32) ≤ a := by rw [c4]; decide
          rw [if_pos c4, if_pos l3]
          show _ = (if a = 3 then ((-3 : Int32), _) else _).1
          rw [if_pos c4]
        · have l3 : ¬ (3 : Int32) ≤ a := fun q => c4 (Int32.toInt_inj.mp (by have := fz_le.mp q; have := fz_le.mp (nlt_le c2); omega))
          have a3 : a = 0 ∨ a = 1 ∨ a = 2 := by
            have h1 := fz_le.mp (nlt_le c1)
            have h2 := fz_lt.mp (nle_lt l3)
            have z0 : (0 : Int32).toInt = 0 := rfl
            have z3 : (3 : Int32).toInt = 3 := rfl
            rcases (show a.toInt = 0 ∨ a.toInt = 1 ∨ a.toInt = 2 by omega) with q | q | q
            · exact Or.inl (Int32.toInt_inj.mp q)
            · exact Or.inr (Or.inl (Int32.toInt_inj.mp q))
            · exact Or.inr (Or.inr (Int32.toInt_inj.mp q))
          rw [if_neg c4, if_neg l3]
          by_cases c5 : (0 : Int32) ≤ w
          · rw [if_pos c5, if_pos c5, sheet_cw]
            show F_J6_bitCount_0f7a4 (shW a w v) = (if a = 3 then ((-3 : Int32), _) else (_, _)).1
            rw [if_neg c4, shW_bc, sheet_rw a3]
          · rw [if_neg c5, if_neg c5]
      · rw [if_neg c3, if_neg c3]
