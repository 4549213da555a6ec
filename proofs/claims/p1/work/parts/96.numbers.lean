/-! ===== what calls that are compared answer, of the reference's numbers ===== -/
def SignN (n n' r : Int32) : Prop := (r = -1 ∧ (80 : Int32) < n + 4 ∧ n' = n) ∨ (r = n + 4 ∧ n + 4 ≤ 80 ∧ n' = n + 4)
def CutN (n n' r a : Int32) : Prop := (r = 0 ∧ (a < 0 ∨ n < a) ∧ n' = n) ∨ (r = 1 ∧ ¬ a < 0 ∧ a ≤ n ∧ n' = a)
def HeardN (n n' r a b : Int32) : Prop := (r = -1 ∧ ¬ hearOK a b n ∧ n' = n) ∨ (r = n + 1 ∧ hearOK a b n ∧ n' = n + 1)
def SawN (n n' r a b c : Int32) : Prop := (r = -1 ∧ ¬ seeOK a b c n ∧ n' = n) ∨ (r = n + 1 ∧ seeOK a b c n ∧ n' = n + 1)
theorem in_no {v a b x : Int32} (e : x = F_X12_in v a b) (c : x = 0) : v < a ∨ b < v := by
  rw [e] at c
  unfold F_X12_in at c
  by_cases c1 : v < a
  · exact Or.inl c1
  · rw [if_neg c1] at c
    by_cases c2 : b < v
    · exact Or.inr c2
    · rw [if_neg c2] at c; exact absurd c (by decide)
theorem in_yes {v a b x : Int32} (e : x = F_X12_in v a b) (c : ¬ x = 0) : ¬ v < a ∧ ¬ b < v := by
  rw [e] at c
  unfold F_X12_in at c
  by_cases c1 : v < a
  · rw [if_pos c1] at c; exact absurd rfl c
  · rw [if_neg c1] at c
    by_cases c2 : b < v
    · rw [if_pos c2] at c; exact absurd rfl c
    · exact ⟨c1, c2⟩
/-- the four signs -/
theorem sg_s {n y k y1 k1 : Int32} (h : y = n + (3 - k)) (e1 : y1 = y + 1) (e2 : k1 = k + -1) : y1 = n + (3 - k1) := by
  subst e2; subst e1; subst h
  simp only [Int32.sub_eq_add_neg, Int32.neg_add, Int32.neg_neg, Int32.add_assoc]
theorem sg_r {n y k : Int32} (h : y = n + (3 - k)) (h80 : rgI 0 80 n) (hn : n + 4 ≤ 80) (hk : rgI (-1) 3 k) : y.toInt = n.toInt + (3 - k.toInt) ∧ n.toInt ≤ 76 := by
  have a1 := h80.1; have a2 := h80.2; have b1 := hk.1; have b2 := hk.2
  have q := fz_le.mp hn
  have z : (80 : Int32).toInt = 80 := rfl
  have e4 : (n + 4).toInt = n.toInt + 4 := ti_add (y := 4) (by show _ ≤ n.toInt + 4; omega) (by show n.toInt + 4 ≤ _; omega)
  have e3 : ((3 : Int32) - k).toInt = 3 - k.toInt := ti_sub (x := 3) (by show _ ≤ 3 - k.toInt; omega) (by show 3 - k.toInt ≤ _; omega)
  have : y.toInt = n.toInt + (3 - k.toInt) := by rw [h, ti_add (by omega) (by omega), e3]
  exact ⟨this, by omega⟩
