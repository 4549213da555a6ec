theorem ht19 {g : Gx} {Ty : TyM} {G : Gh} {H : Heap} {a : Nat} (h : HT g Ty G H) (k : Ty a = some (19, 0)) : rgI 0 80 (G.1 0) := by
  obtain ⟨_, ⟨x1, rfl, h2, h3, h4⟩, _⟩ := h a _ k
  exact h3
theorem ht13 {g : Gx} {Ty : TyM} {G : Gh} {H : Heap} {a : Nat} (h : HT g Ty G H) (k : Ty a = some (13, 0)) : rgI 0 12 (G.1 1) := by
  obtain ⟨_, ⟨x1, x2, h1, h2, h3, h4, h5, h6, h7⟩, _⟩ := h a _ k
  exact h6
theorem ht15 {g : Gx} {Ty : TyM} {G : Gh} {H : Heap} {a : Nat} (h : HT g Ty G H) (k : Ty a = some (15, 0)) : rgI 0 10 (G.1 2) := by
  obtain ⟨_, ⟨x1, x2, x3, x4, h1, h2, h3, h4, h5, h6⟩, _⟩ := h a _ k
  exact h5
theorem rg_is {n : Nat} {x y : Int32} (h : rgI n n x) (hy : y.toInt = n) : x = y := by
  have h1 := h.1; have h2 := h.2
  exact Int32.toInt_inj.mp (by omega)
theorem addrg {G G1 : Gh} {i : Int32} (h80 : rgI 0 80 (G.1 0)) (h : G.1 0 + 4 ≤ 80) (e : G1 = gset G 0 (G.1 0 + i)) (hi : rgI 0 3 i) : rgI 0 79 (G1.1 0) := by
  have a1 := h80.1; have a2 := h80.2; have b1 := hi.1; have b2 := hi.2
  have h := fz_le.mp h
  have z : (80 : Int32).toInt = 80 := rfl
  have e4 : (G.1 0 + 4).toInt = (G.1 0).toInt + 4 := ti_add (y := 4) (by show _ ≤ (G.1 0).toInt + 4; omega) (by show (G.1 0).toInt + 4 ≤ _; omega)
  have ei : (G.1 0 + i).toInt = (G.1 0).toInt + i.toInt := ti_add (by omega) (by omega)
  rw [e, gs_eq]
  exact ⟨by omega, by omega⟩
theorem addmore {G G1 G2 : Gh} {i i' x : Int32} (e : G1 = gset G 0 (G.1 0 + i)) (ex : x = G1.1 0 + 1) (e2 : G2 = gset G1 0 x) (ei : i' = i + 1) : G2 = gset G 0 (G.1 0 + i') := by
  have : x = G.1 0 + i' := by rw [ex, e, gs_eq, ei, Int32.add_assoc]
  rw [e2, e, gs_gs, this]
def AddR (G G' : Gh) (r : Int32) : Prop := (r = 0 ∧ (80 : Int32) < G.1 0 + 4 ∧ G' = G) ∨ (r = 1 ∧ G.1 0 + 4 ≤ 80 ∧ G' = gset G 0 (G.1 0 + 4))
def CutR (G G' : Gh) (r n : Int32) : Prop := (r = 0 ∧ (n < 0 ∨ G.1 0 < n) ∧ G' = G) ∨ (r = 1 ∧ ¬ n < 0 ∧ n ≤ G.1 0 ∧ G' = gset G 0 n)
def hearOK (a b s : Int32) : Prop := ¬ a < 0 ∧ ¬ (5 : Int32) ≤ a ∧ ¬ b < 0 ∧ ¬ mvf a.toNatClampNeg < b ∧ s < 12
def HearR (G G' : Gh) (r a b : Int32) : Prop := (r = 0 ∧ ¬ hearOK a b (G.1 1) ∧ G' = G) ∨ (r = 1 ∧ hearOK a b (G.1 1) ∧ G' = gset G 1 (G.1 1 + 1))
def seeOK (a b c s : Int32) : Prop := ¬ a < 0 ∧ ¬ (9 : Int32) < a ∧ ¬ b < 0 ∧ ¬ (4 : Int32) < b ∧ ¬ c < 0 ∧ ¬ (1 : Int32) < c ∧ s < 10
def see1 (g : Gx) (G : Gh) (a : Int32) : Gh := aset G (g.2.2 52) (upd (G.2.1 (g.2.2 52)) (G.1 2).toNatClampNeg a)
def see2 (g : Gx) (G : Gh) (a : Int32) : Gh := aset G (g.2.2 53) (upd (G.2.1 (g.2.2 53)) (G.1 2).toNatClampNeg a)
def see3 (g : Gx) (G : Gh) (a : Int32) : Gh := aset G (g.2.2 54) (upd (G.2.1 (g.2.2 54)) (G.1 2).toNatClampNeg a)
def seeG (g : Gx) (G : Gh) (a b c : Int32) : Gh := gset (see3 g (see2 g (see1 g G a) b) c) 2 (G.1 2 + 1)
def SeeR (g : Gx) (G G' : Gh) (r a b c : Int32) : Prop := (r = 0 ∧ ¬ seeOK a b c (G.1 2) ∧ G' = G) ∨ (r = 1 ∧ seeOK a b c (G.1 2) ∧ G' = seeG g G a b c)
