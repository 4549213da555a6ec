/-! ===== reading an act of a day ===== -/
def RAO (L L' A A' : Nat → Int32) (lm lm' a a' w' : Int32) (k : Nat) : Prop := lm.toInt ≤ lm'.toInt ∧ (∀ j : Nat, (j : Int) < lm.toInt → L' j = L j) ∧ (∀ j : Nat, (j < k ∨ k + 4 ≤ j) → A' j = A j) ∧ a.toInt ≤ a'.toInt ∧ rgI 0 80 a' ∧ WR w' ∧ lm'.toInt ≤ a'.toInt + 2 ∧ (w' = -1 → a.toInt < a'.toInt ∧ lm'.toInt ≤ a'.toInt ∧ AOK L' A' lm'.toInt k)
theorem ai_d {i a d : Int32} {n : Nat} (e : i = a + d) (ha : rgI 0 316 a) (hd : d.toInt = n) (hn : n ≤ 3) : i.toNatClampNeg = a.toNatClampNeg + n := by
  have h1 := ha.1; have h2 := ha.2
  have hn1 := cl_nat h1
  exact cl_of (by rw [e, ti_add (by omega) (by omega), hd]; omega)
theorem ac_s {A0 A A' : Nat → Int32} {i v : Int32} {k n : Nat} (h : ∀ j : Nat, (j < k ∨ k + 4 ≤ j) → A j = A0 j) (e : A' = upd A i.toNatClampNeg v) (ei : i.toNatClampNeg = k + n) (hn : n ≤ 3) : ∀ j : Nat, (j < k ∨ k + 4 ≤ j) → A' j = A0 j := fun j hj => by
  rw [e, ei, upd_ne (by omega)]; exact h j hj
theorem ac_v {A A' : Nat → Int32} {i v : Int32} {k n : Nat} (e : A' = upd A i.toNatClampNeg v) (ei : i.toNatClampNeg = k + n) : A' (k + n) = v := by rw [e, ei]; exact upd_eq
theorem ac_k {A A' : Nat → Int32} {i v x : Int32} {k n m : Nat} (h : A (k + m) = x) (e : A' = upd A i.toNatClampNeg v) (ei : i.toNatClampNeg = k + n) (hn : m ≠ n) : A' (k + m) = x := by rw [e, ei, upd_ne (by omega)]; exact h
theorem at_up {a n x h : Int32} (hl : a < n) (hn : rgI 0 80 n) (ha : rgI 0 80 a) (q : x.toInt = a.toInt + 1) : rgI 1 80 x := by
  have := fz_lt.mp hl; have := hn.2; have := ha.1
  exact ⟨by omega, by omega⟩
theorem ps_eq {L : Nat → Int32} {lm : Int} {x y : Int32} (h : PSt L lm x) (e : y = x) : PSt L lm y := by rw [e]; exact h
