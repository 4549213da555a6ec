/-! ===== the values through clearing and moving; unbindable or not ===== -/
theorem VA_clear {f : Nat → Int32} {Q : Int32 → Prop} {m : Int32} (hm : rgI 0 23 m) (h : VA f Q) : VA (F_X12_clear f m) Q ∧ F_X12_clear f m 121 = f 121 := by
  have hk : rgI 0 24 m := rg_w hm (by decide) (by decide)
  have e24 : ((24 : Int32) + m).toNatClampNeg = 24 + m.toNatClampNeg := add_cl (n := 24) rfl (by decide) hk
  have e48 : ((48 : Int32) + m).toNatClampNeg = 48 + m.toNatClampNeg := add_cl (n := 48) rfl (by decide) hk
  have e72 : ((72 : Int32) + m).toNatClampNeg = 72 + m.toNatClampNeg := add_cl (n := 72) rfl (by decide) hk
  have e96 : ((96 : Int32) + m).toNatClampNeg = 96 + m.toNatClampNeg := add_cl (n := 96) rfl (by decide) hk
  have hc := cl_nat hm.1
  have hk24 : m.toNatClampNeg < 24 := by have := hm.2; omega
  unfold F_X12_clear
  rw [e24, e48, e72, e96]
  generalize m.toNatClampNeg = k at hk24
  refine ⟨VA_of (k := k) h (fun i hi q => ?_) (fun i hi q => ?_) (fun i hi q => ?_) (fun _ ht => absurd ?_ ht.2), ?_⟩
  · rw [upd_ne (by omega), upd_ne (by omega), upd_ne (by omega), upd_ne (by omega), upd_ne (by omega)]
  · rw [upd_ne (by omega), upd_ne (by omega), upd_ne (by omega), upd_ne (by omega), upd_ne (by omega)]
  · rw [upd_ne (by omega), upd_ne (by omega), upd_ne (by omega), upd_ne (by omega), upd_ne (by omega)]
  · rw [upd_ne (by omega), upd_ne (by omega), upd_ne (by omega), upd_ne (by omega), upd_eq]
  · rw [upd_ne (by omega), upd_ne (by omega), upd_ne (by omega), upd_ne (by omega), upd_ne (by omega)]
theorem VA_goMove {f : Nat → Int32} {Q : Int32 → Prop} {m a d : Int32} (hm : rgI 0 23 m) (htm : tN f m.toNatClampNeg) (h : VA f Q) : VA (F_X12_goMove f m a d) Q ∧ F_X12_goMove f m a d 121 = f 121 := by
  have e24 : ((24 : Int32) + m).toNatClampNeg = 24 + m.toNatClampNeg := add_cl (n := 24) rfl (by decide) (rg_w hm (by decide) (by decide))
  have e120 : (120 : Int32).toNatClampNeg = 120 := by decide
  have hk24 := htm.1
  unfold F_X12_goMove
  rw [e24, e120]
  generalize m.toNatClampNeg = k at hk24 htm
  refine ⟨VA_hi (by omega) (VA_lo (by omega) (by omega) ?_), ?_⟩
  · refine VA_of (k := k) h (fun i hi q => upd_ne q) (fun i hi q => upd_ne (by omega)) (fun i hi q => upd_ne (by omega)) (fun _ _ => ?_)
    rw [upd_ne (by omega), upd_ne (by omega)]
    exact h k hk24 htm
  · rw [upd_ne (by omega), upd_ne (by omega), upd_ne (by omega)]
