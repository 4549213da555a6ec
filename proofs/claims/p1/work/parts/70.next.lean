/-! ===== the values through making, coming, clearing, moving; the next number ===== -/
theorem VA_goMake {f : Nat → Int32} {Q : Int32 → Prop} {m v : Int32} (q0 : Q 0) (qn : Q (f 121)) (hm : rgI 0 23 m) (ht : tN f m.toNatClampNeg) (h : VA f Q) : VA (F_X12_goMake f m v) Q ∧ (F_X12_goMake f m v 121 = f 121 ∨ F_X12_goMake f m v 121 = f 121 + 1) ∧ ∀ j, j < 48 → F_X12_goMake f m v j = f j := by
  have rw24 : rgI 0 24 m := rg_w hm (by decide) (by decide)
  have e48 : ((48 : Int32) + m).toNatClampNeg = 48 + m.toNatClampNeg := add_cl (n := 48) rfl (by decide) rw24
  have e72 : ((72 : Int32) + m).toNatClampNeg = 72 + m.toNatClampNeg := add_cl (n := 72) rfl (by decide) rw24
  have e96 : ((96 : Int32) + m).toNatClampNeg = 96 + m.toNatClampNeg := add_cl (n := 96) rfl (by decide) rw24
  have e120 : (120 : Int32).toNatClampNeg = 120 := by decide
  have e121 : (121 : Int32).toNatClampNeg = 121 := by decide
  have hml := ht.1
  obtain ⟨o1, o2⟩ := VA_goOut q0 hm ht h
  have o121 := o2 121 (Or.inr (by decide))
  unfold F_X12_goMake
  rw [e48, e72, e96, e120]
  by_cases c1 : v = 1
  · rw [if_pos c1]
    by_cases c2 : upd f (96 + m.toNatClampNeg) 0 (48 + m.toNatClampNeg) = 0
    · rw [if_pos c2]
      unfold F_X12_newGroup
      rw [e121, upd_eq, upd_ne (show 121 ≠ 96 + m.toNatClampNeg by omega)]
      have ec : f 121 + 1 - 1 = f 121 := by rw [Int32.add_sub_cancel]
      rw [ec]
      refine ⟨VA_hi (by omega) (VA_g hml qn (VA_hi (by omega) (VA_hi (by omega) h))), Or.inr ?_, fun j hj => ?_⟩
      · rw [upd_ne (show (121 : Nat) ≠ 120 by omega), upd_ne (show 121 ≠ 48 + m.toNatClampNeg by omega)]
        show upd (upd f (96 + m.toNatClampNeg) 0) 121 (f 121 + 1) 121 = f 121 + 1
        exact upd_eq
      · rw [upd_ne (by omega), upd_ne (by omega)]
        show upd (upd f (96 + m.toNatClampNeg) 0) 121 (f 121 + 1) j = f j
        rw [upd_ne (by omega), upd_ne (by omega)]
    · rw [if_neg c2]
      refine ⟨VA_hi (by omega) (VA_hi (by omega) h), Or.inl ?_, fun j hj => ?_⟩
      · rw [upd_ne (by omega), upd_ne (by omega)]
      · rw [upd_ne (by omega), upd_ne (by omega)]
  · rw [if_neg c1]
    by_cases c2 : v = 2
    · rw [if_pos c2]
      by_cases c3 : F_J6_bitCount_0f7a4 (F_X12_inGroup f (f (48 + m.toNatClampNeg))) ≤ 1
      · rw [if_pos c3]
        refine ⟨VA_hi (by omega) o1, Or.inl ?_, fun j hj => ?_⟩
        · rw [upd_ne (by omega)]; exact o121
        · rw [upd_ne (by omega)]; exact o2 j (Or.inl hj)
      · rw [if_neg c3]
        obtain ⟨p1, p2⟩ := VA_goOut (f := upd f (72 + m.toNatClampNeg) (f (48 + m.toNatClampNeg))) q0 hm ⟨hml, by rw [upd_ne (by omega)]; exact ht.2⟩ (VA_m hml (h _ hml ht).1 h)
        refine ⟨VA_hi (by omega) p1, Or.inl ?_, fun j hj => ?_⟩
        · rw [upd_ne (by omega), p2 121 (Or.inr (by decide)), upd_ne (by omega)]
        · rw [upd_ne (by omega), p2 j (Or.inl hj), upd_ne (by omega)]
    · rw [if_neg c2]
      by_cases c3 : v = 3
      · rw [if_pos c3]
        refine ⟨VA_hi (by omega) (VA_hi (by omega) (VA_m hml q0 o1)), Or.inl ?_, fun j hj => ?_⟩
        · rw [upd_ne (by omega), upd_ne (by omega), upd_ne (by omega)]; exact o121
        · rw [upd_ne (by omega), upd_ne (by omega), upd_ne (by omega)]; exact o2 j (Or.inl hj)
      · rw [if_neg c3]
        refine ⟨VA_hi (by omega) (VA_hi (by omega) (VA_m hml q0 o1)), Or.inl ?_, fun j hj => ?_⟩
        · rw [upd_ne (by omega), upd_ne (by omega), upd_ne (by omega)]; exact o121
        · rw [upd_ne (by omega), upd_ne (by omega), upd_ne (by omega)]; exact o2 j (Or.inl hj)
theorem VA_comes {f : Nat → Int32} {Q : Int32 → Prop} {m d g s : Int32} (h : VA f Q) (hl : (F_X12_freeOf f).toInt < 24) (hg : Q g) (hs : Q s) : VA (F_X12_comes f m d g s).2 Q ∧ (F_X12_comes f m d g s).2 121 = f 121 := by
  have hk := (free_is f).1
  have hc := cl_nat hk.1
  have e24 : ((24 : Int32) + F_X12_freeOf f).toNatClampNeg = 24 + (F_X12_freeOf f).toNatClampNeg := add_cl (n := 24) rfl (by decide) hk
  have e48 : ((48 : Int32) + F_X12_freeOf f).toNatClampNeg = 48 + (F_X12_freeOf f).toNatClampNeg := add_cl (n := 48) rfl (by decide) hk
  have e72 : ((72 : Int32) + F_X12_freeOf f).toNatClampNeg = 72 + (F_X12_freeOf f).toNatClampNeg := add_cl (n := 72) rfl (by decide) hk
  have e96 : ((96 : Int32) + F_X12_freeOf f).toNatClampNeg = 96 + (F_X12_freeOf f).toNatClampNeg := add_cl (n := 96) rfl (by decide) hk
  unfold F_X12_comes
  rw [e24, e48, e72, e96]
  generalize (F_X12_freeOf f).toNatClampNeg = k at hc
  have hk24 : k < 24 := by omega
  show VA (upd (upd (upd (upd (upd f k m) (24 + k) d) (48 + k) g) (72 + k) s) (96 + k) 0) Q ∧ upd (upd (upd (upd (upd f k m) (24 + k) d) (48 + k) g) (72 + k) s) (96 + k) 0 121 = f 121
  refine ⟨VA_of (k := k) h (fun i hi q => ?_) (fun i hi q => ?_) (fun i hi q => ?_) (fun _ _ => ?_), ?_⟩
  · rw [upd_ne (by omega), upd_ne (by omega), upd_ne (by omega), upd_ne (by omega), upd_ne (by omega)]
  · rw [upd_ne (by omega), upd_ne (by omega), upd_ne (by omega), upd_ne (by omega), upd_ne (by omega)]
  · rw [upd_ne (by omega), upd_ne (by omega), upd_ne (by omega), upd_ne (by omega), upd_ne (by omega)]
  · rw [upd_ne (show 48 + k ≠ 96 + k by omega), upd_ne (show 48 + k ≠ 72 + k by omega), upd_eq, upd_ne (show 72 + k ≠ 96 + k by omega), upd_eq]
    exact ⟨hg, hs⟩
  · rw [upd_ne (by omega), upd_ne (by omega), upd_ne (by omega), upd_ne (by omega), upd_ne (by omega)]
