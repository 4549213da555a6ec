/-! ===== reading a rule: what comes of it ===== -/
theorem wr_1 {rdf askf : Nat → Int32} {len top isA a w r : Int32} {lo hi : Int} (e : r = (F_X12_wasRight rdf askf len top isA a w).1) (h : ¬ r = 0) (ha : rgI lo hi a) (h0 : 0 ≤ lo) : len.toInt ≤ a.toInt := by
  rw [e] at h
  unfold F_X12_wasRight at h
  by_cases c : len ≤ a
  · exact fz_le.mp c
  · exfalso
    rw [if_neg c] at h
    apply h
    have ha1 : ¬ a = -1 := nh_pos ha h0
    unfold F_X12_fault bn3
    have hf : ∀ x y, F_X12_fine rdf askf len top isA x y = if y = -1 then 1 else 0 := fun x y => rfl
    by_cases q : w = -1
    · rw [hf, if_pos q, if_neg (by decide)]
      show F_X12_fine rdf askf len top isA a a = 0
      rw [hf, if_neg ha1]
    · rw [hf, if_neg q, if_pos rfl]
      show F_X12_fine rdf askf len top isA a w = 0
      rw [hf, if_neg q]
theorem wr_01 {rdf askf : Nat → Int32} {len top isA a w r : Int32} (e : r = (F_X12_wasRight rdf askf len top isA a w).1) : rgI 0 1 r := by
  rw [e]
  have hf : ∀ x y, rgI 0 1 (F_X12_fine rdf askf len top isA x y) := fun x y => by
    show rgI 0 1 (if y = -1 then 1 else 0)
    split
    · exact ⟨by decide, by decide⟩
    · exact ⟨by decide, by decide⟩
  unfold F_X12_wasRight
  split
  · exact hf a w
  · exact hf (F_X12_fault rdf askf len top isA a a w).2.1 (F_X12_fault rdf askf len top isA a a w).2.2
