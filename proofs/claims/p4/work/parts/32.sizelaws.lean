theorem ht13 {g : Gx} {Ty : TyM} {G : Gh} {H : Heap} {a : Nat} (h : HT g Ty G H) (k : Ty a = some (13, 0)) : rgI 0 12 (G.1 1) := by
  obtain ⟨_, ⟨x1, x2, x3, x4, x5, h1, h2, h3, h4, h5, h6, h7⟩, _⟩ := h a _ k
  exact h6
theorem ht15 {g : Gx} {Ty : TyM} {G : Gh} {H : Heap} {a : Nat} (h : HT g Ty G H) (k : Ty a = some (15, 0)) : rgI 0 10 (G.1 2) := by
  obtain ⟨_, ⟨x1, x2, x3, x4, h1, h2, h3, h4, h5, h6⟩, _⟩ := h a _ k
  exact h5
theorem rg_is {n : Nat} {x y : Int32} (h : rgI n n x) (hy : y.toInt = n) : x = y := by
  have h1 := h.1; have h2 := h.2
  exact Int32.toInt_inj.mp (by omega)
def CutR (G G' : Gh) (r n : Int32) : Prop := (r = 0 ∧ (n < 0 ∨ G.1 0 < n) ∧ G' = G) ∨ (r = 1 ∧ ¬ n < 0 ∧ n ≤ G.1 0 ∧ G' = gset G 0 n)
def hearOK (a b s : Int32) : Prop := ¬ a < 0 ∧ ¬ (5 : Int32) ≤ a ∧ ¬ b < 0 ∧ ¬ mvf a.toNatClampNeg < b ∧ s < 12
def HearR (G G' : Gh) (r a b : Int32) : Prop := (r = 0 ∧ ¬ hearOK a b (G.1 1) ∧ G' = G) ∨ (r = 1 ∧ hearOK a b (G.1 1) ∧ G' = gset G 1 (G.1 1 + 1))
def seeOK (a b c s : Int32) : Prop := ¬ a < 0 ∧ ¬ (9 : Int32) < a ∧ ¬ b < 0 ∧ ¬ (4 : Int32) < b ∧ ¬ c < 0 ∧ ¬ (1 : Int32) < c ∧ s < 10
def SeeR (G G' : Gh) (r a b c : Int32) : Prop := (r = 0 ∧ ¬ seeOK a b c (G.1 2) ∧ G' = G) ∨ (r = 1 ∧ seeOK a b c (G.1 2) ∧ G' = gset G 2 (G.1 2 + 1))
/-- the byte of v that stands at i, the highest first -/
def sgn (v i : Int32) : Int32 := (v.toUInt32 >>> ((24 - 8 * i).toUInt32 &&& Int32.toUInt32 31)).toInt32 &&& 255
def adK (row : Nat → Int32) (n v : Int32) : Nat → Nat → Int32
  | 0 => row
  | k + 1 => upd (adK row n v k) (n.toNatClampNeg + k) (sgn v (Int32.ofNat k))
def AdI (g : Gx) (G G' : Gh) (v i : Int32) : Prop := G' = gset (aset G (g.2.2 55) (adK (G.2.1 (g.2.2 55)) (G.1 0) v i.toNatClampNeg)) 0 (G.1 0 + i)
theorem as_id4 {G : Gh} {a : Nat} : aset G a (G.2.1 a) = G := by
  unfold aset
  refine Prod.ext rfl (Prod.ext ?_ rfl)
  funext b
  show (if b = a then G.2.1 a else G.2.1 b) = G.2.1 b
  by_cases h : b = a
  · rw [if_pos h, h]
  · rw [if_neg h]
theorem as_as4 {G : Gh} {a : Nat} {f h : Nat → Int32} : aset (aset G a f) a h = aset G a h := by
  unfold aset
  refine Prod.ext rfl (Prod.ext ?_ rfl)
  funext b
  show (if b = a then h else (if b = a then f else G.2.1 b)) = (if b = a then h else G.2.1 b)
  by_cases q : b = a
  · rw [if_pos q, if_pos q]
  · rw [if_neg q, if_neg q, if_neg q]
theorem add_0 {g : Gx} {G : Gh} {v : Int32} : AdI g G G v 0 := by
  show G = gset (aset G (g.2.2 55) (G.2.1 (g.2.2 55))) 0 (G.1 0 + 0)
  rw [as_id4]
  exact (gs_id (by simp)).symm
theorem addrg {g : Gx} {G G1 : Gh} {v i : Int32} (h80 : rgI 0 80 (G.1 0)) (h : G.1 0 + 4 ≤ 80) (e : AdI g G G1 v i) (hi : rgI 0 3 i) : rgI 0 79 (G1.1 0) := by
  have a1 := h80.1; have a2 := h80.2; have b1 := hi.1; have b2 := hi.2
  have h := fz_le.mp h
  have z : (80 : Int32).toInt = 80 := rfl
  have e4 : (G.1 0 + 4).toInt = (G.1 0).toInt + 4 := ti_add (y := 4) (by show _ ≤ (G.1 0).toInt + 4; omega) (by show (G.1 0).toInt + 4 ≤ _; omega)
  have ei : (G.1 0 + i).toInt = (G.1 0).toInt + i.toInt := ti_add (by omega) (by omega)
  have e : G1 = _ := e
  rw [e, gs_eq]
  exact ⟨by omega, by omega⟩
theorem addmore {g : Gx} {G GL GA GN : Gh} {v i i2 m k u w x : Int32} (h80 : rgI 0 80 (G.1 0)) (h : AdI g G GL v i) (hi : rgI 0 3 i) (em : m = 8 * i) (ek : k = 24 - m) (eu : u = (v.toUInt32 >>> (k.toUInt32 &&& Int32.toUInt32 31)).toInt32) (ew : w = u &&& 255) (eA : GA = aset GL (g.2.2 55) (upd (GL.2.1 (g.2.2 55)) (GL.1 0).toNatClampNeg w)) (ex : x = GL.1 0 + 1) (eN : GN = gset GA 0 x) (ei : i2 = i + 1) : AdI g G GN v i2 := by
  have h : GL = gset (aset G (g.2.2 55) (adK (G.2.1 (g.2.2 55)) (G.1 0) v i.toNatClampNeg)) 0 (G.1 0 + i) := h
  have a1 := h80.1; have a2 := h80.2; have b1 := hi.1; have b2 := hi.2
  have l0 : GL.1 0 = G.1 0 + i := by rw [h]; exact gs_eq
  have lr : GL.2.1 (g.2.2 55) = adK (G.2.1 (g.2.2 55)) (G.1 0) v i.toNatClampNeg := by
    rw [h]
    show (aset G (g.2.2 55) (adK (G.2.1 (g.2.2 55)) (G.1 0) v i.toNatClampNeg)).2.1 (g.2.2 55) = _
    exact aset_eq
  have ti : i2.toInt = i.toInt + 1 := by rw [ei]; exact ti_add (y := 1) (by show _ ≤ i.toInt + 1; omega) (by show i.toInt + 1 ≤ _; omega)
  have tn : (G.1 0 + i).toInt = (G.1 0).toInt + i.toInt := ti_add (by omega) (by omega)
  have ci := cl_nat hi.1
  have c0 := cl_nat h80.1
  have e1 : i2.toNatClampNeg = i.toNatClampNeg + 1 := cl_of (by omega)
  have e2 : (G.1 0 + i).toNatClampNeg = (G.1 0).toNatClampNeg + i.toNatClampNeg := cl_of (by omega)
  have es : w = sgn v (Int32.ofNat i.toNatClampNeg) := by rw [← i32n hi.1, ew, eu, ek, em]; rfl
  have er : adK (G.2.1 (g.2.2 55)) (G.1 0) v i2.toNatClampNeg = upd (GL.2.1 (g.2.2 55)) (GL.1 0).toNatClampNeg w := by rw [e1, lr, l0, e2, es]; rfl
  show GN = gset (aset G (g.2.2 55) (adK (G.2.1 (g.2.2 55)) (G.1 0) v i2.toNatClampNeg)) 0 (G.1 0 + i2)
  have ex2 : x = G.1 0 + i2 := by rw [ex, l0, ei, Int32.add_assoc]
  rw [er, ← ex2, eN, eA]
  generalize upd (GL.2.1 (g.2.2 55)) (GL.1 0).toNatClampNeg w = R
  rw [h]
  show gset (gset (aset (aset G (g.2.2 55) (adK (G.2.1 (g.2.2 55)) (G.1 0) v i.toNatClampNeg)) (g.2.2 55) R) 0 (G.1 0 + i)) 0 x = _
  rw [gs_gs, as_as4]
def AddR (g : Gx) (G G' : Gh) (r v : Int32) : Prop := (r = 0 ∧ (80 : Int32) < G.1 0 + 4 ∧ G' = G) ∨ (r = 1 ∧ G.1 0 + 4 ≤ 80 ∧ AdI g G G' v 4)
