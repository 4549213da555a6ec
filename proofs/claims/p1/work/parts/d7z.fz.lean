/-! ===== the class's questions on a new object ===== -/
theorem fz_has {a : Int32} (h : ¬ F_X10_has 1 a = 0) : rgI 0 0 a := by
  unfold F_X10_has at h
  by_cases c1 : a < 0
  · rw [if_pos c1] at h; exact absurd rfl h
  · rw [if_neg c1] at h
    by_cases c2 : (24 : Int32) ≤ a
    · rw [if_pos c2] at h; exact absurd rfl h
    · rw [if_neg c2] at h
      obtain ⟨j, hj, e⟩ := nI_of c1
      have hj2 : j < 24 := by
        have q := fz_lt.mp (nle_lt c2)
        rw [e, nI_toInt hj] at q
        have z : (24 : Int32).toInt = 24 := rfl
        omega
      subst e
      by_cases q : j = 0
      · subst q; exact ⟨by decide, by decide⟩
      · exfalso
        have : ((1 : Int32) &&& (1 <<< (nI j &&& 31))) = 0 := by
          refine b_ext (fun i hi => ?_)
          have t : ∀ j, j < 32 → bt 1 j = decide (j = 0) := by decide +kernel
          rw [b_and, bt_one_is (by omega), t i hi, b_0]
          by_cases w : i = 0
          · rw [decide_eq_true w, decide_eq_false (by omega)]; rfl
          · rw [decide_eq_false w]; rfl
        rw [if_pos this] at h
        exact h rfl
theorem fz_has1 {a : Int32} (h : rgI 0 0 a) : rgI 1 1 (F_X10_has 1 a) := by
  rw [rg_is (n := 0) (y := 0) h rfl]; exact ⟨by decide, by decide⟩
theorem fz_hasPlace {a d : Int32} (h : ¬ F_X10_hasPlace 1 a d = 0) : rgI 0 0 a ∧ rgI 0 3 d := by
  unfold F_X10_hasPlace at h
  by_cases c : F_X10_has 1 a = 0
  · rw [if_pos c] at h; exact absurd rfl h
  · rw [if_neg c] at h
    refine ⟨fz_has c, ?_⟩
    by_cases c1 : d < 0
    · rw [if_pos c1] at h; exact absurd rfl h
    · rw [if_neg c1] at h
      by_cases c2 : (4 : Int32) ≤ d
      · rw [if_pos c2] at h; exact absurd rfl h
      · have q1 := fz_le.mp (nlt_le c1)
        have q2 := fz_lt.mp (nle_lt c2)
        have z : (4 : Int32).toInt = 4 := rfl
        have z0 : (0 : Int32).toInt = 0 := rfl
        exact ⟨by omega, by omega⟩
theorem fz_hp1 {a d : Int32} (ha : rgI 0 0 a) (hd : rgI 0 3 d) : rgI 1 1 (F_X10_hasPlace 1 a d) := by
  rw [rg_is (n := 0) (y := 0) ha rfl]
  unfold F_X10_hasPlace
  have z : (4 : Int32).toInt = 4 := rfl
  have z0 : (0 : Int32).toInt = 0 := rfl
  rw [if_neg (by decide), if_neg (fun q => by have := fz_lt.mp q; have := hd.1; omega), if_neg (fun q => by have := fz_le.mp q; have := hd.2; omega)]
  exact ⟨by decide, by decide⟩
theorem fz_isUnbindable {a : Int32} : rgI 0 0 (F_X10_isUnbindable 0 a) := by
  unfold F_X10_isUnbindable
  have : ((0 : Int32) &&& (1 <<< (a &&& 31))) = 0 := b_ext (fun i _ => by rw [b_and, b_0]; rfl)
  rw [if_pos this]
  split
  · exact ⟨by decide, by decide⟩
  · split <;> exact ⟨by decide, by decide⟩
theorem fz_groupOf {a : Int32} : rgI 0 0 (F_X10_groupOf Z0 a) := by
  have z : rgI 0 0 (0 : Int32) := ⟨by decide, by decide⟩
  unfold F_X10_groupOf
  split
  · exact z
  · split
    · exact z
    · exact z
theorem fz_size : rgI 1 1 (F_X10_size 1) := by
  have : F_X10_size 1 = 1 := by decide +kernel
  rw [this]; exact ⟨by decide, by decide⟩
theorem fz_bc1 {a : Int32} (h : rgI 1 1 a) : rgI 1 1 (F_J6_bitCount_0f7a4 a) := by
  rw [rg_is (n := 1) (y := 1) h rfl]
  have : F_J6_bitCount_0f7a4 1 = 1 := by decide +kernel
  rw [this]; exact ⟨by decide, by decide⟩
theorem fz_bc0 {a : Int32} (h : rgI 0 0 a) : rgI 0 0 (F_J6_bitCount_0f7a4 a) := by
  rw [rg_is (n := 0) (y := 0) h rfl]
  have : F_J6_bitCount_0f7a4 0 = 0 := by decide +kernel
  rw [this]; exact ⟨by decide, by decide⟩
/-- one step of a counter from 0 to 24 -/
theorem y24_s {y : Int32} (h : rgI 0 24 y) (c : ¬ (24 : Int32) ≤ y) : rgI 0 24 (y + 1) ∧ (y + 1).toInt = y.toInt + 1 ∧ rgI 0 23 y ∧ y.toNatClampNeg < 24 := by
  have q := fz_lt.mp (nle_lt c)
  have z : (24 : Int32).toInt = 24 := rfl
  have h1 := h.1
  have e : (y + 1).toInt = y.toInt + 1 := ti_add (y := 1) (by show _ ≤ y.toInt + 1; omega) (by show y.toInt + 1 ≤ _; omega)
  have := cl_nat h1
  exact ⟨⟨by omega, by omega⟩, e, ⟨h1, by omega⟩, by omega⟩
theorem fz_mountAt_9 {x : Int32} : ∀ (n : Nat) (y : Int32), rgI 0 24 y → (24 - y.toInt).toNat < n → F_X10_mountAt_9 n x y P0 = 24 := by
  intro n
  induction n with
  | zero => intro y _ h; exact absurd h (Nat.not_lt_zero _)
  | succ n ih =>
    intro y hy hm
    rw [F_X10_mountAt_9]
    by_cases c : (24 : Int32) ≤ y
    · rw [if_pos c]
    · obtain ⟨s1, s2, s3, s4⟩ := y24_s hy c
      rw [if_neg c]
      by_cases c1 : x < 0
      · rw [if_pos c1]
      · rw [if_neg c1, P0_m s4, if_neg (fun q => c1 (by rw [← q]; decide))]
        exact ih _ s1 (by have := s3.2; omega)
theorem fz_mountAt_e {m d : Int32} : F_X10_mountAt P0 m d = 24 := fz_mountAt_9 26 0 ⟨by decide, by decide⟩ (by decide)
theorem fz_mountAt {m d : Int32} : rgI 24 24 (F_X10_mountAt P0 m d) := by rw [fz_mountAt_e]; exact ⟨by decide, by decide⟩
theorem fz_takenAt_4 {x s : Int32} : ∀ (n : Nat) (y : Int32), rgI 0 24 y → (24 - y.toInt).toNat < n → F_X10_takenAt_4 n x s y P0 = s := by
  intro n
  induction n with
  | zero => intro y _ h; exact absurd h (Nat.not_lt_zero _)
  | succ n ih =>
    intro y hy hm
    rw [F_X10_takenAt_4]
    by_cases c : (24 : Int32) ≤ y
    · rw [if_pos c]
    · obtain ⟨s1, s2, s3, s4⟩ := y24_s hy c
      rw [if_neg c, P0_m s4, if_pos (by decide)]
      exact ih _ s1 (by have := s3.2; omega)
theorem fz_takenAt_e {d : Int32} : F_X10_takenAt P0 d = 0 := fz_takenAt_4 26 0 ⟨by decide, by decide⟩ (by decide)
theorem fz_takenAt {d : Int32} : rgI 0 0 (F_X10_takenAt P0 d) := by rw [fz_takenAt_e]; exact ⟨by decide, by decide⟩
theorem fz_spreadOf {a : Int32} (h : rgI 0 0 a) : rgI 1 1 (F_X10_spreadOf Z0 Z0 a) := by
  rw [rg_is (n := 0) (y := 0) h rfl]
  have : F_X10_spreadOf Z0 Z0 0 = 1 := by decide +kernel
  rw [this]; exact ⟨by decide, by decide⟩
theorem fz_bindable {a : Int32} (h : rgI 0 0 a) : rgI 1 1 (F_X0_bindableTree P0 0 a) := by
  rw [rg_is (n := 0) (y := 0) h rfl]
  have : F_X0_bindableTree P0 0 0 = 1 := by decide +kernel
  rw [this]; exact ⟨by decide, by decide⟩
theorem rg03 {d : Int32} (h : rgI 0 3 d) : d = 0 ∨ d = 1 ∨ d = 2 ∨ d = 3 := by
  have h1 := h.1; have h2 := h.2
  rcases (show d.toInt = 0 ∨ d.toInt = 1 ∨ d.toInt = 2 ∨ d.toInt = 3 by omega) with q | q | q | q
  · exact Or.inl (Int32.toInt_inj.mp q)
  · exact Or.inr (Or.inl (Int32.toInt_inj.mp q))
  · exact Or.inr (Or.inr (Or.inl (Int32.toInt_inj.mp q)))
  · exact Or.inr (Or.inr (Or.inr (Int32.toInt_inj.mp q)))
theorem fz_parentsBy {a d : Int32} (ha : rgI 0 0 a) (hd : rgI 0 3 d) : rgI 1 1 (F_X0_parentsBy P0 Z0 Z0 1 a d) := by
  rw [rg_is (n := 0) (y := 0) ha rfl]
  have : ∀ d, d = 0 ∨ d = 1 ∨ d = 2 ∨ d = 3 → F_X0_parentsBy P0 Z0 Z0 1 0 d = 1 := by
    rintro d (rfl | rfl | rfl | rfl) <;> decide +kernel
  rw [this d (rg03 hd)]; exact ⟨by decide, by decide⟩
/-- the copy's places: all but ROOT's and that of mount 1 are nowhere -/
def Q1 (f : Nat → Int32) : Prop := f 0 = -1 ∧ ∀ k, 2 ≤ k → k < 24 → f k = -1
theorem put_1 {p d g m r n : Int32} {f0 f1 f2 : Nat → Int32} (h : F_X10_put P0 Z0 Z0 1 p d g m = (r, f0, f1, f2, n)) : rgI 1 1 r ∧ Q1 f0 := by
  have e : F_X10_leastOf ((1 : Int32) ^^^ (-1)) = 1 := by decide +kernel
  unfold F_X10_put at h
  rw [e, if_neg (by decide)] at h
  have h1 := congrArg (fun z => z.1) h
  have h2 := congrArg (fun z => z.2.1) h
  simp only at h1 h2
  refine ⟨by rw [← h1]; exact ⟨by decide, by decide⟩, ?_, fun k k2 kl => ?_⟩
  · rw [← h2]
    show upd P0 1 _ 0 = -1
    rw [upd_ne (by decide)]; exact P0_m (by decide)
  · rw [← h2]
    show upd P0 1 _ k = -1
    rw [upd_ne (by omega)]; exact P0_m kl
theorem q1_at_9 {f : Nat → Int32} (h : Q1 f) {x : Int32} : ∀ (n : Nat) (y : Int32), rgI 0 24 y → (24 - y.toInt).toNat < n → F_X10_mountAt_9 n x y f = 24 ∨ F_X10_mountAt_9 n x y f = 1 := by
  intro n
  induction n with
  | zero => intro y _ h; exact absurd h (Nat.not_lt_zero _)
  | succ n ih =>
    intro y hy hm
    rw [F_X10_mountAt_9]
    by_cases c : (24 : Int32) ≤ y
    · rw [if_pos c]; exact Or.inl rfl
    · obtain ⟨s1, s2, s3, s4⟩ := y24_s hy c
      rw [if_neg c]
      by_cases c1 : x < 0
      · rw [if_pos c1]; exact Or.inl rfl
      · rw [if_neg c1]
        by_cases c2 : f y.toNatClampNeg = x
        · rw [if_pos c2]
          have hc := cl_nat s3.1
          have nm : ¬ f y.toNatClampNeg = -1 := fun q => c1 (by rw [← c2, q]; decide)
          have y1 : y.toNatClampNeg = 1 := by
            rcases (show y.toNatClampNeg = 0 ∨ y.toNatClampNeg = 1 ∨ 2 ≤ y.toNatClampNeg by omega) with q | q | q
            · rw [q] at nm; exact absurd h.1 nm
            · exact q
            · exact absurd (h.2 _ q s4) nm
          exact Or.inr (Int32.toInt_inj.mp (by have z : (1 : Int32).toInt = 1 := rfl; omega))
        · rw [if_neg c2]
          exact ih _ s1 (by have := s3.2; omega)
theorem q1_at {f : Nat → Int32} {a d x : Int32} (h : Q1 f) (_ha : rgI 0 0 a) (e : x = F_X10_mountAt f a d) : rgI 1 24 x ∧ (¬ x = 24 → x = 1) := by
  have q : F_X10_mountAt f a d = 24 ∨ F_X10_mountAt f a d = 1 := q1_at_9 h 26 0 ⟨by decide, by decide⟩ (by decide)
  rw [← e] at q
  rcases q with q | q
  · rw [q]; exact ⟨⟨by decide, by decide⟩, fun w => absurd rfl w⟩
  · rw [q]; exact ⟨⟨by decide, by decide⟩, fun _ => rfl⟩
