def kp (G : Gh) (i : Int32) : Prop := (i = 0 ∧ G.1 3 = 1) ∨ (i = 1 ∧ G.1 4 = 1)
theorem kp_lt {G : Gh} {i : Int32} (h : i < 0) : ¬ kp G i := by
  rintro (⟨rfl, -⟩ | ⟨rfl, -⟩) <;> exact absurd h (by decide)
theorem kp_ge {G : Gh} {i : Int32} (h : (2 : Int32) ≤ i) : ¬ kp G i := by
  rintro (⟨rfl, -⟩ | ⟨rfl, -⟩) <;> exact absurd h (by decide)
theorem kp_none {G : Gh} {i : Int32} {f : Nat → Option Nat} (hi : rgI 0 1 i) (h : none = f i.toNatClampNeg) (h0 : oB (f 0) = G.1 3) (h1 : oB (f 1) = G.1 4) : ¬ kp G i := by
  rcases b01 hi with rfl | rfl
  · have e : f 0 = none := h.symm
    rw [e] at h0
    rintro (⟨-, q⟩ | ⟨q, -⟩)
    · rw [← h0] at q; exact absurd q (by decide)
    · exact absurd q (by decide)
  · have e : f 1 = none := h.symm
    rw [e] at h1
    rintro (⟨q, -⟩ | ⟨-, q⟩)
    · exact absurd q (by decide)
    · rw [← h1] at q; exact absurd q (by decide)
theorem kp_some {G : Gh} {i : Int32} {y : Nat} {f : Nat → Option Nat} (hi : rgI 0 1 i) (h : f i.toNatClampNeg = some y) (h0 : oB (f 0) = G.1 3) (h1 : oB (f 1) = G.1 4) : kp G i := by
  rcases b01 hi with rfl | rfl
  · have e : f 0 = some y := h
    rw [e] at h0
    exact Or.inl ⟨rfl, h0.symm⟩
  · have e : f 1 = some y := h
    rw [e] at h1
    exact Or.inr ⟨rfl, h1.symm⟩
def SignR (G G' : Gh) (r : Int32) : Prop := (r = -1 ∧ (80 : Int32) < G.1 0 + 4 ∧ G' = G) ∨ (r = G.1 0 + 4 ∧ G.1 0 + 4 ≤ 80 ∧ G' = gset G 0 (G.1 0 + 4))
theorem sign1 {G G1 : Gh} {x : Int32} (h : AddR G G1 x) (c : ¬ x = 0) : SignR G G1 (G1.1 0) := by
  rcases h with ⟨q, -, -⟩ | ⟨-, a, e⟩
  · exact absurd q c
  · exact Or.inr ⟨by rw [e]; exact gs_eq, a, e⟩
theorem sign0 {G G1 : Gh} {x : Int32} (h : AddR G G1 x) (c : x = 0) : SignR G G1 (-1) := by
  rcases h with ⟨-, a, e⟩ | ⟨q, -, -⟩
  · exact Or.inl ⟨rfl, a, e⟩
  · rw [c] at q; exact absurd q (by decide)
def HeardR (G G' : Gh) (r a b : Int32) : Prop := (r = -1 ∧ ¬ hearOK a b (G.1 1) ∧ G' = G) ∨ (r = G.1 1 + 1 ∧ hearOK a b (G.1 1) ∧ G' = gset G 1 (G.1 1 + 1))
theorem heard1 {G G1 : Gh} {x a b : Int32} (h : HearR G G1 x a b) (c : ¬ x = 0) : HeardR G G1 (G1.1 1) a b := by
  rcases h with ⟨q, -, -⟩ | ⟨-, o, e⟩
  · exact absurd q c
  · exact Or.inr ⟨by rw [e]; exact gs_eq, o, e⟩
theorem heard0 {G G1 : Gh} {x a b : Int32} (h : HearR G G1 x a b) (c : x = 0) : HeardR G G1 (-1) a b := by
  rcases h with ⟨-, o, e⟩ | ⟨q, -, -⟩
  · exact Or.inl ⟨rfl, o, e⟩
  · rw [c] at q; exact absurd q (by decide)
def SawR (g : Gx) (G G' : Gh) (r a b c : Int32) : Prop := (r = -1 ∧ ¬ seeOK a b c (G.1 2) ∧ G' = G) ∨ (r = G.1 2 + 1 ∧ seeOK a b c (G.1 2) ∧ G' = seeG g G a b c)
theorem saw1 {g : Gx} {G G1 : Gh} {x a b d : Int32} (h : SeeR g G G1 x a b d) (c : ¬ x = 0) : SawR g G G1 (G1.1 2) a b d := by
  rcases h with ⟨q, -, -⟩ | ⟨-, o, e⟩
  · exact absurd q c
  · exact Or.inr ⟨by rw [e]; exact gs_eq, o, e⟩
theorem saw0 {g : Gx} {G G1 : Gh} {x a b d : Int32} (h : SeeR g G G1 x a b d) (c : x = 0) : SawR g G G1 (-1) a b d := by
  rcases h with ⟨-, o, e⟩ | ⟨q, -, -⟩
  · exact Or.inl ⟨rfl, o, e⟩
  · rw [c] at q; exact absurd q (by decide)
/-- the text is empty behind it; of the numbers and rows that are held only what reading a rule needs may differ -/
def TXR (g : Gx) (G G' : Gh) : Prop := G'.1 0 = 0 ∧ (∀ i, i ≠ 0 → i ≠ 5 → i ≠ 6 → G'.1 i = G.1 i) ∧ (∀ b, b ≠ g.2.2 51 → G'.2.1 b = G.2.1 b) ∧ G'.2.2 = G.2.2
theorem TXR.of {g : Gx} {G G1 G2 : Gh} (h : RLx g G G1) (e : G2 = gset G1 0 0) : TXR g G G2 := ⟨by rw [e]; exact gs_eq, fun i a b c => by rw [e, gs_ne a]; exact h.1 i b c, fun b hb => by rw [e]; exact h.2.1 b hb, by rw [e]; exact h.2.2⟩
def KeepR (G G' : Gh) (r i : Int32) : Prop := (r = 0 ∧ (i < 0 ∨ (2 : Int32) ≤ i) ∧ G' = G) ∨ (r = 1 ∧ ((i = 0 ∧ G' = gset G 3 1) ∨ (i = 1 ∧ G' = gset G 4 1)))
