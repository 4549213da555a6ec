/-! ===== what is thrown on a new object, by the reference ===== -/
theorem fr_mount1 {a w : Int32} (h : okM a w) : F_X12_mount_x nowF 0 a w = (valM w, 0) := by
  obtain ⟨rfl, h⟩ := h
  rcases h with rfl | rfl | rfl | rfl | rfl | rfl <;> decide +kernel
theorem fr_mount2 {a w : Int32} (h : ¬ okM a w) : (F_X12_mount_x nowF 0 a w).2 = 1 := by
  rcases fr_has a with rfl | ⟨-, e2⟩
  · have k2 : ¬ F_X12_isThere nowF 0 = 0 := by decide +kernel
    have k3 : F_X12_in w 0 5 = 0 := by
      unfold F_X12_in
      by_cases c1 : w < 0
      · rw [if_pos c1]
      · rw [if_neg c1]
        by_cases c2 : (5 : Int32) < w
        · rw [if_pos c2]
        · refine absurd ⟨rfl, ?_⟩ h
          have h1 := fz_le.mp (nlt_le c1)
          have h2 := fz_le.mp (nlt_le c2)
          have z0 : (0 : Int32).toInt = 0 := rfl
          have z5 : (5 : Int32).toInt = 5 := rfl
          rcases (show w.toInt = 0 ∨ w.toInt = 1 ∨ w.toInt = 2 ∨ w.toInt = 3 ∨ w.toInt = 4 ∨ w.toInt = 5 by omega) with q | q | q | q | q | q
          · exact Or.inl (Int32.toInt_inj.mp q)
          · exact Or.inr (Or.inl (Int32.toInt_inj.mp q))
          · exact Or.inr (Or.inr (Or.inl (Int32.toInt_inj.mp q)))
          · exact Or.inr (Or.inr (Or.inr (Or.inl (Int32.toInt_inj.mp q))))
          · exact Or.inr (Or.inr (Or.inr (Or.inr (Or.inl (Int32.toInt_inj.mp q)))))
          · exact Or.inr (Or.inr (Or.inr (Or.inr (Or.inr (Int32.toInt_inj.mp q)))))
    unfold F_X12_mount_x
    rw [if_neg k2, if_pos k3]
    rfl
  · unfold F_X12_mount_x
    rw [if_pos e2]
    rfl
theorem fr_at1 {a d : Int32} (h : okA a d) : F_X12_at_x nowF 0 a d = (24, 0) := by
  rcases fr_place a d with ⟨e, -⟩ | ⟨rfl, rfl | rfl | rfl | rfl⟩
  · exact absurd e h
  all_goals decide +kernel
theorem fr_at2 {a d : Int32} (h : ¬ okA a d) : (F_X12_at_x nowF 0 a d).2 = 1 := by
  rcases fr_place a d with ⟨e, w⟩ | ⟨rfl, rfl | rfl | rfl | rfl⟩
  · unfold F_X12_at_x
    by_cases c : F_X12_isThere nowF a = 0
    · rw [if_pos c]; rfl
    · rw [if_neg c, if_pos (w.resolve_left c)]; rfl
  · exact absurd (show ¬ F_X10_hasPlace 1 0 0 = 0 by decide +kernel) h
  · exact absurd (show ¬ F_X10_hasPlace 1 0 1 = 0 by decide +kernel) h
  · exact absurd (show ¬ F_X10_hasPlace 1 0 2 = 0 by decide +kernel) h
  · exact absurd (show ¬ F_X10_hasPlace 1 0 3 = 0 by decide +kernel) h
theorem fr_row (a : Int32) : F_X12_row_x 0 0 a = 1 := by
  have k : F_X12_in a 0 (0 - 1) = 0 := by
    unfold F_X12_in
    by_cases c1 : a < 0
    · rw [if_pos c1]
    · have c2 : (0 : Int32) - 1 < a := fz_lt.mpr (by
        have h1 := fz_le.mp (nlt_le c1)
        have z0 : (0 : Int32).toInt = 0 := rfl
        have z1 : ((0 : Int32) - 1).toInt = -1 := by decide
        omega)
      rw [if_neg c1, if_pos c2]
  unfold F_X12_row_x
  rw [if_pos k]
  rfl
