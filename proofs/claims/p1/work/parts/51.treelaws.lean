/-! ===== the reference's rows of mounts: parents ===== -/
def thr (f : Nat → Int32) (k : Int32) : Prop := rgI 0 23 k ∧ ¬ f k.toNatClampNeg = -1
/-- parents are there, and nearer to the root by a rank -/
def P1 (f : Nat → Int32) (ρ : Nat → Nat) : Prop := f 0 = 24 ∧ (∀ k : Int32, thr f k → ¬ k = 0 → thr f (f k.toNatClampNeg) ∧ ρ (f k.toNatClampNeg).toNatClampNeg < ρ k.toNatClampNeg) ∧ ∀ k, ρ k ≤ 23
theorem st_up {ρ : Nat → Nat} {n x y k m : Int32} (h : 0 ≤ n.toInt ∧ n.toInt + (ρ k.toNatClampNeg : Int) ≤ (ρ m.toNatClampNeg : Int)) (hb : ρ m.toNatClampNeg ≤ 23) (hd : ρ y.toNatClampNeg < ρ k.toNatClampNeg) (ex : x = n + 1) : 0 ≤ x.toInt ∧ x.toInt + (ρ y.toNatClampNeg : Int) ≤ (ρ m.toNatClampNeg : Int) := by
  have e : x.toInt = n.toInt + 1 := by rw [ex]; exact ti_add (y := 1) (by show _ ≤ n.toInt + 1; omega) (by show n.toInt + 1 ≤ _; omega)
  omega
theorem F_isThere_thr {f : Nat → Int32} {k : Int32} (h : ¬ F_X12_isThere f k = 0) : thr f k := by
  unfold F_X12_isThere at h
  unfold F_X12_in at h
  by_cases c1 : k < 0
  · rw [if_pos c1] at h; exact absurd rfl h
  rw [if_neg c1] at h
  by_cases c2 : (23 : Int32) < k
  · rw [if_pos c2] at h; exact absurd rfl h
  rw [if_neg c2, if_neg (by decide)] at h
  by_cases c3 : f k.toNatClampNeg = -1
  · rw [if_pos c3] at h; exact absurd rfl h
  have h1 := fz_le.mp (nlt_le c1); have h2 := fz_le.mp (nlt_le c2)
  exact ⟨⟨h1, h2⟩, c3⟩
