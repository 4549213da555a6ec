theorem fine1 {x y : Int32} (h : (x = 1 ∧ y = -1) ∨ (x = 0 ∧ ¬ y = -1)) (c : ¬ x = 0) : y = -1 := h.elim (fun q => q.2) (fun q => absurd q.1 c)
theorem fine0 {x y : Int32} (h : (x = 1 ∧ y = -1) ∨ (x = 0 ∧ ¬ y = -1)) (c : x = 0) : ¬ y = -1 := h.elim (fun q => by rw [c] at q; exact absurd q.1 (by decide)) (fun q => q.2)
