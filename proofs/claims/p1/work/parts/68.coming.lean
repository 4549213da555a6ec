/-! ===== coming, clearing and moving keep a rank of groups ===== -/
theorem P2_of {f f' : Nat → Int32} {σ : Int32 → Nat} {k : Nat} (h : P2A f σ) (e0 : ∀ i, i < 24 → i ≠ k → f' i = f i) (e1 : ∀ i, i < 24 → i ≠ k → f' (48 + i) = f (48 + i)) (e2 : ∀ i, i < 24 → i ≠ k → f' (72 + i) = f (72 + i)) (hk : k < 24 → tN f' k → P2 f' σ k) : P2A f' σ := fun i hi ht => by
  by_cases q : i = k
  · subst q; exact hk hi ht
  · exact P2_c (h i hi ⟨ht.1, by rw [← e0 i hi q]; exact ht.2⟩) (e1 i hi q) (e2 i hi q)
theorem P2_comes {f : Nat → Int32} {σ : Int32 → Nat} {m d g s : Int32} (h : P2A f σ) (hl : (F_X12_freeOf f).toInt < 24) (hgs : ¬ g = 0 → ¬ s = 0 → σ s < σ g) : P2A (F_X12_comes f m d g s).2 σ := by
  have hk := (free_is f).1
  have hc := cl_nat hk.1
  have e24 : ((24 : Int32) + F_X12_freeOf f).toNatClampNeg = 24 + (F_X12_freeOf f).toNatClampNeg := add_cl (n := 24) rfl (by decide) hk
  have e48 : ((48 : Int32) + F_X12_freeOf f).toNatClampNeg = 48 + (F_X12_freeOf f).toNatClampNeg := add_cl (n := 48) rfl (by decide) hk
  have e72 : ((72 : Int32) + F_X12_freeOf f).toNatClampNeg = 72 + (F_X12_freeOf f).toNatClampNeg := add_cl (n := 72) rfl (by decide) hk
  have e96 : ((96 : Int32) + F_X12_freeOf f).toNatClampNeg = 96 + (F_X12_freeOf f).toNatClampNeg := add_cl (n := 96) rfl (by decide) hk
  unfold F_X12_comes
  rw [e24, e48, e72, e96]
  generalize (F_X12_freeOf f).toNatClampNeg = k at hc
  have hk24 : k < 24 := by omega
  show P2A (upd (upd (upd (upd (upd f k m) (24 + k) d) (48 + k) g) (72 + k) s) (96 + k) 0) σ
  refine P2_of (k := k) h (fun i hi q => ?_) (fun i hi q => ?_) (fun i hi q => ?_) (fun _ _ => ?_)
  · rw [upd_ne (by omega), upd_ne (by omega), upd_ne (by omega), upd_ne (by omega), upd_ne (by omega)]
  · rw [upd_ne (by omega), upd_ne (by omega), upd_ne (by omega), upd_ne (by omega), upd_ne (by omega)]
  · rw [upd_ne (by omega), upd_ne (by omega), upd_ne (by omega), upd_ne (by omega), upd_ne (by omega)]
  · unfold P2
    rw [upd_ne (show 48 + k ≠ 96 + k by omega), upd_ne (show 48 + k ≠ 72 + k by omega), upd_eq, upd_ne (show 72 + k ≠ 96 + k by omega), upd_eq]
    exact hgs
theorem P2_clear {f : Nat → Int32} {σ : Int32 → Nat} {m : Int32} (hm : rgI 0 23 m) (h : P2A f σ) : P2A (F_X12_clear f m) σ := by
  have hk : rgI 0 24 m := rg_w hm (by decide) (by decide)
  have e24 : ((24 : Int32) + m).toNatClampNeg = 24 + m.toNatClampNeg := add_cl (n := 24) rfl (by decide) hk
  have e48 : ((48 : Int32) + m).toNatClampNeg = 48 + m.toNatClampNeg := add_cl (n := 48) rfl (by decide) hk
  have e72 : ((72 : Int32) + m).toNatClampNeg = 72 + m.toNatClampNeg := add_cl (n := 72) rfl (by decide) hk
  have e96 : ((96 : Int32) + m).toNatClampNeg = 96 + m.toNatClampNeg := add_cl (n := 96) rfl (by decide) hk
  have hc := cl_nat hm.1
  have hk24 : m.toNatClampNeg < 24 := by have := hm.2; omega
  unfold F_X12_clear
  rw [e24, e48, e72, e96]
  generalize m.toNatClampNeg = k at hk24
  refine P2_of (k := k) h (fun i hi q => ?_) (fun i hi q => ?_) (fun i hi q => ?_) (fun _ ht => absurd ?_ ht.2)
  · rw [upd_ne (by omega), upd_ne (by omega), upd_ne (by omega), upd_ne (by omega), upd_ne (by omega)]
  · rw [upd_ne (by omega), upd_ne (by omega), upd_ne (by omega), upd_ne (by omega), upd_ne (by omega)]
  · rw [upd_ne (by omega), upd_ne (by omega), upd_ne (by omega), upd_ne (by omega), upd_ne (by omega)]
  · rw [upd_ne (by omega), upd_ne (by omega), upd_ne (by omega), upd_ne (by omega), upd_eq]
theorem P2_goMove {f : Nat → Int32} {σ : Int32 → Nat} {m a d : Int32} (hm : rgI 0 23 m) (htm : tN f m.toNatClampNeg) (h : P2A f σ) : P2A (F_X12_goMove f m a d) σ := by
  have e24 : ((24 : Int32) + m).toNatClampNeg = 24 + m.toNatClampNeg := add_cl (n := 24) rfl (by decide) (rg_w hm (by decide) (by decide))
  have e120 : (120 : Int32).toNatClampNeg = 120 := by decide
  have hk24 := htm.1
  unfold F_X12_goMove
  rw [e24, e120]
  refine P2_hi (by omega) (P2_lo (by omega) (by omega) ?_)
  generalize m.toNatClampNeg = k at hk24 htm
  refine P2_of (k := k) h (fun i hi q => upd_ne q) (fun i hi q => upd_ne (by omega)) (fun i hi q => upd_ne (by omega)) (fun _ _ => ?_)
  exact P2_c (h k hk24 htm) (upd_ne (by omega)) (upd_ne (by omega))
