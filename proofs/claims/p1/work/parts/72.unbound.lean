/-! ===== unbindable: 0 or 1 ===== -/
def UB (f : Nat → Int32) : Prop := ∀ i, i < 24 → f (96 + i) = 0 ∨ f (96 + i) = 1
theorem UB_same {f f' : Nat → Int32} (h : UB f) (e : ∀ i, i < 24 → f' (96 + i) = f (96 + i)) : UB f' := fun i hi => by rw [e i hi]; exact h i hi
theorem UB_u {f : Nat → Int32} {k : Nat} {v : Int32} (hk : k < 96 ∨ 120 ≤ k) (h : UB f) : UB (upd f k v) := UB_same h (fun i hi => upd_ne (by omega))
theorem UB_v {f : Nat → Int32} {k : Nat} {v : Int32} (hv : v = 0 ∨ v = 1) (h : UB f) : UB (upd f (96 + k) v) := fun i hi => by
  by_cases q : i = k
  · rw [q, upd_eq]; exact hv
  · rw [upd_ne (by omega)]; exact h i hi
theorem UB_comes {f : Nat → Int32} {m d g s : Int32} (hl : (F_X12_freeOf f).toInt < 24) (h : UB f) : UB (F_X12_comes f m d g s).2 := by
  have hk := (free_is f).1
  have hc := cl_nat hk.1
  unfold F_X12_comes
  rw [add_cl (n := 24) rfl (by decide) hk, add_cl (n := 48) rfl (by decide) hk, add_cl (n := 72) rfl (by decide) hk, add_cl (n := 96) rfl (by decide) hk]
  exact UB_v (Or.inl rfl) (UB_u (Or.inl (by omega)) (UB_u (Or.inl (by omega)) (UB_u (Or.inl (by omega)) (UB_u (Or.inl (by omega)) h))))
theorem UB_clear {f : Nat → Int32} {m : Int32} (hm : rgI 0 23 m) (h : UB f) : UB (F_X12_clear f m) := by
  have hk : rgI 0 24 m := rg_w hm (by decide) (by decide)
  have hc := cl_nat hm.1
  have h2 := hm.2
  unfold F_X12_clear
  rw [add_cl (n := 24) rfl (by decide) hk, add_cl (n := 48) rfl (by decide) hk, add_cl (n := 72) rfl (by decide) hk, add_cl (n := 96) rfl (by decide) hk]
  exact UB_v (Or.inl rfl) (UB_u (Or.inl (by omega)) (UB_u (Or.inl (by omega)) (UB_u (Or.inl (by omega)) (UB_u (Or.inl (by omega)) h))))
theorem UB_goMove {f : Nat → Int32} {m a d : Int32} (hm : rgI 0 23 m) (h : UB f) : UB (F_X12_goMove f m a d) := by
  have hk : rgI 0 24 m := rg_w hm (by decide) (by decide)
  have hc := cl_nat hm.1
  have h2 := hm.2
  have e120 : (120 : Int32).toNatClampNeg = 120 := by decide
  unfold F_X12_goMove
  rw [add_cl (n := 24) rfl (by decide) hk, e120]
  exact UB_u (Or.inr (by omega)) (UB_u (Or.inl (by omega)) (UB_u (Or.inl (by omega)) h))
theorem UB_goOut {f : Nat → Int32} {m : Int32} (hm : rgI 0 23 m) (ht : tN f m.toNatClampNeg) (h : UB f) : UB (F_X12_goOut f m) :=
  UB_same h (fun i hi => (VA_goOut (Q := fun _ => True) trivial hm ht (fun _ _ _ => ⟨trivial, trivial⟩)).2 _ (Or.inr (by omega)))
theorem UB_goMake {f : Nat → Int32} {m v : Int32} (hm : rgI 0 23 m) (ht : tN f m.toNatClampNeg) (h : UB f) : UB (F_X12_goMake f m v) := by
  have hk : rgI 0 24 m := rg_w hm (by decide) (by decide)
  have hml := ht.1
  have e120 : (120 : Int32).toNatClampNeg = 120 := by decide
  have e121 : (121 : Int32).toNatClampNeg = 121 := by decide
  have o := UB_goOut hm ht h
  unfold F_X12_goMake
  rw [add_cl (c := 48) (n := 48) rfl (by decide) hk, add_cl (c := 72) (n := 72) rfl (by decide) hk, add_cl (c := 96) (n := 96) rfl (by decide) hk, e120]
  by_cases c1 : v = 1
  · rw [if_pos c1]
    by_cases c2 : upd f (96 + m.toNatClampNeg) 0 (48 + m.toNatClampNeg) = 0
    · rw [if_pos c2]
      unfold F_X12_newGroup
      rw [e121]
      exact UB_u (Or.inr (by omega)) (UB_u (Or.inl (by omega)) (UB_u (Or.inr (by omega)) (UB_v (Or.inl rfl) h)))
    · rw [if_neg c2]
      exact UB_u (Or.inr (by omega)) (UB_v (Or.inl rfl) h)
  · rw [if_neg c1]
    by_cases c2 : v = 2
    · rw [if_pos c2]
      by_cases c3 : F_J6_bitCount_0f7a4 (F_X12_inGroup f (f (48 + m.toNatClampNeg))) ≤ 1
      · rw [if_pos c3]; exact UB_u (Or.inr (by omega)) o
      · rw [if_neg c3]
        exact UB_u (Or.inr (by omega)) (UB_goOut hm ⟨hml, by rw [upd_ne (by omega)]; exact ht.2⟩ (UB_u (Or.inl (by omega)) h))
    · rw [if_neg c2]
      by_cases c3 : v = 3
      · rw [if_pos c3]; exact UB_u (Or.inr (by omega)) (UB_v (Or.inr rfl) (UB_u (Or.inl (by omega)) o))
      · rw [if_neg c3]; exact UB_u (Or.inr (by omega)) (UB_v (Or.inl rfl) (UB_u (Or.inl (by omega)) o))
