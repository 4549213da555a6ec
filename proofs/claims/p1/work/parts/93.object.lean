/-! ===== the reference's object, between calls ===== -/
def sl (f : Nat → Int32) (i : Nat) : Nat → Int32 := fun j => f (122 * i + j)
def OI (g : Gx) (B : Int) (G : Gh) : Prop := rgI 0 80 (G.1 102) ∧ rgI 0 32 (G.1 104) ∧ rgI 0 40 (G.1 113) ∧ rgI 0 12 (G.1 122) ∧ rgI 0 12 (G.1 133) ∧ rgI 0 10 (G.1 137) ∧ G.2.2 111 = some (g.2.2 111) ∧ G.2.2 112 = some (g.2.2 112) ∧ TI B (G.2.1 (g.2.2 100)) ∧ (∀ i : Nat, (i : Int) < (G.1 122).toInt → TI B (sl (G.2.1 (g.2.2 121)) i)) ∧ (∀ i : Nat, i < 2 → ¬ G.2.1 (g.2.2 141) i = 0 → TI B (sl (G.2.1 (g.2.2 140)) i))
section OIs
variable {g : Gx} {B B2 : Int} {G : Gh}
theorem OI.a102 (h : OI g B G) : rgI 0 80 (G.1 102) := h.1
theorem OI.a104 (h : OI g B G) : rgI 0 32 (G.1 104) := h.2.1
theorem OI.a113 (h : OI g B G) : rgI 0 40 (G.1 113) := h.2.2.1
theorem OI.a122 (h : OI g B G) : rgI 0 12 (G.1 122) := h.2.2.2.1
theorem OI.a133 (h : OI g B G) : rgI 0 12 (G.1 133) := h.2.2.2.2.1
theorem OI.a137 (h : OI g B G) : rgI 0 10 (G.1 137) := h.2.2.2.2.2.1
theorem OI.r111 (h : OI g B G) : G.2.2 111 = some (g.2.2 111) := h.2.2.2.2.2.2.1
theorem OI.r112 (h : OI g B G) : G.2.2 112 = some (g.2.2 112) := h.2.2.2.2.2.2.2.1
theorem OI.ti (h : OI g B G) : TI B (G.2.1 (g.2.2 100)) := h.2.2.2.2.2.2.2.2.1
theorem OI.un (h : OI g B G) : ∀ i : Nat, (i : Int) < (G.1 122).toInt → TI B (sl (G.2.1 (g.2.2 121)) i) := h.2.2.2.2.2.2.2.2.2.1
theorem OI.ke (h : OI g B G) : ∀ i : Nat, i < 2 → ¬ G.2.1 (g.2.2 141) i = 0 → TI B (sl (G.2.1 (g.2.2 140)) i) := h.2.2.2.2.2.2.2.2.2.2
theorem OI.un2 {f : Nat → Int32} {n : Int32} (h : OI g B G) (hb : B ≤ B2) (e : f = G.2.1 (g.2.2 121)) (en : n = G.1 122) : ∀ i : Nat, (i : Int) < n.toInt → TI B2 (sl f i) := fun i hi => by
  subst e; subst en; exact (h.un i hi).hi hb
theorem OI.ke2 {f k : Nat → Int32} (h : OI g B G) (hb : B ≤ B2) (e : f = G.2.1 (g.2.2 140)) (ek : k = G.2.1 (g.2.2 141)) : ∀ i : Nat, i < 2 → ¬ k i = 0 → TI B2 (sl f i) := fun i hi hk => by
  subst e; subst ek; exact (h.ke i hi hk).hi hb
end OIs
