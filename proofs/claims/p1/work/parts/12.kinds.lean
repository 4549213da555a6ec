/-! ===== kinds; ghosts: G.1 numbers, G.2.1 rows of ints by their address, G.2.2 references ===== -/
abbrev Gh : Type := (Nat → Int32) × (Nat → Nat → Int32) × (Nat → Option Nat)
def gset (G : Gh) (i : Nat) (v : Int32) : Gh := (upd G.1 i v, G.2)
def aset (G : Gh) (a : Nat) (f : Nat → Int32) : Gh := (G.1, (fun b => if b = a then f else G.2.1 b), G.2.2)
def rset (G : Gh) (i : Nat) (o : Option Nat) : Gh := (G.1, G.2.1, fun j => if j = i then o else G.2.2 j)
def oB (o : Option Nat) : Int32 := if o.isSome then 1 else 0
abbrev mdl (g : Gx) (G : Gh) : List Value := [.ref (g.2.2 100), .ref (g.2.2 101), .int (G.1 102), .ref (g.2.2 103), .int (G.1 104), .int (G.1 105), va_rf (G.2.2 106), .int (G.1 107), .int (G.1 108), .int (G.1 109), .int (G.1 110), va_rf (G.2.2 111), va_rf (G.2.2 112), .int (G.1 113), .int (G.1 114), .ref (g.2.2 115), .ref (g.2.2 116), .int (G.1 117), .int (G.1 118), .int (G.1 119), .int (G.1 120), .ref (g.2.2 121), .int (G.1 122), .ref (g.2.2 123), .ref (g.2.2 124), .ref (g.2.2 125), .ref (g.2.2 126), .int (G.1 127), .int (G.1 128), .ref (g.2.2 129), .ref (g.2.2 130), .ref (g.2.2 131), .ref (g.2.2 132), .int (G.1 133), .ref (g.2.2 134), .ref (g.2.2 135), .ref (g.2.2 136), .int (G.1 137), .ref (g.2.2 138), .int (G.1 139), .ref (g.2.2 140), .ref (g.2.2 141)]
/-- the kinds of the reference's rows -/
def mdK (g : Gx) (Ty : TyM) : Prop := Ty (g.2.2 100) = some (30, 122) ∧ Ty (g.2.2 101) = some (31, 80) ∧ Ty (g.2.2 103) = some (1, 32) ∧ Ty (g.2.2 115) = some (30, 7) ∧ Ty (g.2.2 116) = some (31, 160) ∧ Ty (g.2.2 121) = some (30, 1464) ∧ Ty (g.2.2 123) = some (30, 122) ∧ Ty (g.2.2 124) = some (30, 122) ∧ Ty (g.2.2 125) = some (30, 24) ∧ Ty (g.2.2 126) = some (30, 24) ∧ Ty (g.2.2 129) = some (30, 122) ∧ Ty (g.2.2 130) = some (30, 320) ∧ Ty (g.2.2 131) = some (0, 12) ∧ Ty (g.2.2 132) = some (0, 12) ∧ Ty (g.2.2 134) = some (30, 10) ∧ Ty (g.2.2 135) = some (30, 10) ∧ Ty (g.2.2 136) = some (30, 10) ∧ Ty (g.2.2 138) = some (1, 17) ∧ Ty (g.2.2 140) = some (30, 244) ∧ Ty (g.2.2 141) = some (33, 2) ∧ Ty (g.2.2 111) = some (31, 40) ∧ Ty (g.2.2 112) = some (31, 40)
def conf (g : Gx) (Ty : TyM) (G : Gh) (a : Nat) (k : Kd) (e : va_E) : Prop := match k.1 with
  | 0 => ∃ f : Nat → Int32, e = .inl (g.2.1 1, k.2, .inl f)
  | 1 => ∃ f : Nat → Int64, e = .inl (g.2.1 2, k.2, .inr (.inl f))
  | 2 => ∃ f : Nat → Int32, e = .inl (g.2.1 0, k.2, .inl f)
  | 3 => ∃ f : Nat → Int32, e = .inl (g.2.1 3, k.2, .inl f)
  | 4 => ∃ f : Nat → Option Nat, e = .inl (g.2.1 4, k.2, .inr (.inr (.inr (.inr f)))) ∧ ∀ j t, f j = some t → Ty t = some (20, 0)
  | 5 => ∃ f : Nat → Option Nat, e = .inl (g.2.1 4, k.2, .inr (.inr (.inr (.inr f)))) ∧ (∀ j t, f j = some t → Ty t = some (20, 0)) ∧ a = g.2.2 3 ∧ oB (f 0) = G.1 3 ∧ oB (f 1) = G.1 4
  | 10 => e = .inr (0, [.ref (g.2.2 0), .ref (g.2.2 6), .ref (g.2.2 73)]) ∧ Ty (g.2.2 0) = some (24, 0) ∧ Ty (g.2.2 6) = some (18, 0) ∧ Ty (g.2.2 73) = some (30, 24)
  | 11 => ∃ (cs : Nat) (u w : Int64), e = .inr (1, [.ref cs, .long u, .long w]) ∧ Ty cs = some (1, 17)
  | 12 => ∃ x : Int32, e = .inr (2, [.ref (g.2.2 0), .ref (g.2.2 8), .ref (g.2.2 9), .int x, .int (G.1 29)]) ∧ Ty (g.2.2 0) = some (24, 0) ∧ Ty (g.2.2 8) = some (10, 0) ∧ Ty (g.2.2 9) = some (16, 0) ∧ a = g.2.2 10
  | 13 => ∃ w v : Nat, e = .inr (3, [.ref (g.2.2 0), .ref w, .ref v, .int (G.1 1), .ref (g.2.2 74), .int (G.1 26)]) ∧ Ty (g.2.2 0) = some (24, 0) ∧ Ty w = some (0, 12) ∧ Ty v = some (0, 12) ∧ Ty (g.2.2 74) = some (30, 24) ∧ rgI 0 12 (G.1 1) ∧ a = g.2.2 11
  | 14 => ∃ (r : Nat) (t : Int32), e = .inr (4, [.ref r, .int t, .int (G.1 28)]) ∧ Ty r = some (4, 12) ∧ a = g.2.2 2
  | 15 => ∃ (u b q : Nat) (ml : Int32), e = .inr (5, [.ref u, .ref b, .ref q, .int (G.1 2), .int ml]) ∧ Ty u = some (30, 10) ∧ Ty b = some (30, 10) ∧ Ty q = some (30, 10) ∧ rgI 0 10 (G.1 2) ∧ (a = g.2.2 12 ∧ u = g.2.2 52 ∧ b = g.2.2 53 ∧ q = g.2.2 54)
  | 16 => ∃ x y : Int32, e = .inr (6, [.int x, .int y])
  | 17 => ∃ n : Nat, e = .inr (7, [.ref n, .int (G.1 27)]) ∧ Ty n = some (1, 24) ∧ rgI 0 24 (G.1 27) ∧ a = g.2.2 5
  | 18 => ∃ (st w : Nat) (wt td dg dp cm : Int32) (le sk : Nat), e = .inr (8, [.ref st, .int (G.1 24), .ref w, .int wt, .int td, .int dg, .int dp, .int cm, .ref le, .ref sk]) ∧ Ty st = some (0, 40) ∧ Ty w = some (0, 40) ∧ Ty le = some (0, 7) ∧ Ty sk = some (0, 40) ∧ rgI 0 40 (G.1 24) ∧ rgI 0 1 td ∧ a = g.2.2 6
  | 19 => ∃ sg : Nat, e = .inr (9, [.ref sg, .int (G.1 0)]) ∧ Ty sg = some (0, 80) ∧ rgI 0 80 (G.1 0) ∧ a = g.2.2 4
  | 20 => ∃ (q1 q2 q3 : Nat) (th ub ac ng : Int32), e = .inr (10, [.ref q1, .ref q2, .ref q3, .int th, .int ub, .int ac, .int ng]) ∧ Ty q1 = some (0, 24) ∧ Ty q2 = some (0, 24) ∧ Ty q3 = some (0, 24)
  | 21 => e = .inr (11, [.ref (g.2.2 0), .ref (g.2.2 1), .ref (g.2.2 2), .ref (g.2.2 3), .ref (g.2.2 4), .ref (g.2.2 5), .ref (g.2.2 6), .ref (g.2.2 7), .ref (g.2.2 8), .ref (g.2.2 9), .ref (g.2.2 10), .ref (g.2.2 11), .ref (g.2.2 12), .ref (g.2.2 13), .int (G.1 25)]) ∧ Ty (g.2.2 0) = some (24, 0) ∧ Ty (g.2.2 1) = some (20, 0) ∧ Ty (g.2.2 2) = some (14, 0) ∧ Ty (g.2.2 3) = some (5, 2) ∧ Ty (g.2.2 4) = some (19, 0) ∧ Ty (g.2.2 5) = some (17, 0) ∧ Ty (g.2.2 6) = some (18, 0) ∧ Ty (g.2.2 7) = some (23, 0) ∧ Ty (g.2.2 8) = some (10, 0) ∧ Ty (g.2.2 9) = some (16, 0) ∧ Ty (g.2.2 10) = some (12, 0) ∧ Ty (g.2.2 11) = some (13, 0) ∧ Ty (g.2.2 12) = some (15, 0) ∧ Ty (g.2.2 13) = some (11, 0) ∧ a = g.2.2 19
  | 24 => e = .inr (10, [.ref (g.2.2 70), .ref (g.2.2 71), .ref (g.2.2 72), .int (G.1 20), .int (G.1 21), .int (G.1 22), .int (G.1 23)]) ∧ Ty (g.2.2 70) = some (30, 24) ∧ Ty (g.2.2 71) = some (30, 24) ∧ Ty (g.2.2 72) = some (30, 24) ∧ a = g.2.2 0
  | 23 => ∃ (st : Nat) (sz td dg cm : Int32) (le sk : Nat), e = .inr (8, [.ref st, .int sz, .ref (g.2.2 51), .int (G.1 5), .int td, .int dg, .int (G.1 6), .int cm, .ref le, .ref sk]) ∧ Ty st = some (0, 40) ∧ Ty (g.2.2 51) = some (30, 40) ∧ Ty le = some (0, 7) ∧ Ty sk = some (0, 40) ∧ rgI 0 40 sz ∧ rgI 0 1 td ∧ a = g.2.2 7
  | 22 => e = .inr (12, mdl g G) ∧ a = g.2.2 20 ∧ mdK g Ty
  | 30 => e = .inl (g.2.1 1, k.2, .inl (G.2.1 a))
  | 31 => e = .inl (g.2.1 0, k.2, .inl (G.2.1 a))
  | 33 => e = .inl (g.2.1 3, k.2, .inl (G.2.1 a))
  | _ => False
def HT (g : Gx) (Ty : TyM) (G : Gh) (H : Heap) : Prop := ∀ (a : Nat) (k : Kd), Ty a = some k → ∃ e, conf g Ty G a k e ∧ va_at g.1 vwCl (a, e) H
def AF (Ty : TyM) (sz : Nat) : Nat → Prop := fun q => (∃ k, Ty q = some k) ∨ sz ≤ q
theorem AF.of {Ty : TyM} {sz a : Nat} {k : Kd} (h : Ty a = some k) : AF Ty sz a := Or.inl ⟨k, h⟩
theorem HT.put {g : Gx} {Ty : TyM} {G : Gh} {H H1 : Heap} {a : Nat} {k : Kd} {e : va_E} (h : HT g Ty G H) (ha : Ty a = some k) (he : conf g Ty G a k e) (h1 : va_at g.1 vwCl (a, e) H1) (oq : ∀ q : Nat, q ≠ a → H1[q]? = H[q]?) : HT g Ty G H1 := by
  intro b kb hb
  by_cases hab : b = a
  · subst hab
    rw [ha] at hb; cases hb
    exact ⟨e, he, h1⟩
  · obtain ⟨e2, c2, v2⟩ := h b kb hb
    exact ⟨e2, c2, v2.kept (oq b hab)⟩
/-- the numbers that a kind's cell tells; whose they are -/
def depN (t : Nat) : List Nat := match t with
  | 5 => [3, 4]
  | 12 => [29]
  | 13 => [1, 26]
  | 14 => [28]
  | 15 => [2]
  | 17 => [27]
  | 18 => [24]
  | 19 => [0]
  | 21 => [25]
  | 23 => [5, 6]
  | 24 => [20, 21, 22, 23]
  | _ => []
def ownL (t : Nat) : Nat := match t with
  | 5 => 3
  | 12 => 10
  | 13 => 11
  | 14 => 2
  | 15 => 12
  | 17 => 5
  | 18 => 6
  | 19 => 4
  | 21 => 19
  | 23 => 7
  | 24 => 0
  | _ => 9999
def ownN (i : Nat) : Nat := match i with
  | 3 => 3
  | 4 => 3
  | 29 => 10
  | 1 => 11
  | 26 => 11
  | 28 => 2
  | 2 => 12
  | 27 => 5
  | 24 => 6
  | 0 => 4
  | 25 => 19
  | 5 => 7
  | 6 => 7
  | 20 => 0
  | 21 => 0
  | 22 => 0
  | 23 => 0
  | _ => 20
/-- two ghosts say the same of a cell of a kind -/
def GA (G G' : Gh) (a tag : Nat) : Prop := (∀ i ∈ depN tag, G'.1 i = G.1 i) ∧ (tag = 22 → (∀ i, 100 ≤ i → G'.1 i = G.1 i) ∧ G'.2.2 = G.2.2) ∧ (tag = 30 ∨ tag = 31 ∨ tag = 33 → G'.2.1 a = G.2.1 a)
theorem dep_own {t i : Nat} (h : i ∈ depN t) : ownN i = ownL t := by
  unfold depN at h
  split at h <;> simp only [List.mem_cons, List.not_mem_nil, or_false] at h
  all_goals first | (rcases h with rfl | rfl | rfl | rfl <;> rfl) | (rcases h with rfl | rfl <;> rfl) | (subst h; rfl)
theorem conf_gh {g : Gx} {Ty : TyM} {G G' : Gh} {a : Nat} {k : Kd} {e : va_E} (h : conf g Ty G a k e) (hg : GA G G' a k.1) : conf g Ty G' a k e := by
  obtain ⟨t, n⟩ := k
  obtain ⟨hN, g22, g3⟩ := hg
  have hN : ∀ i ∈ depN t, G'.1 i = G.1 i := hN
  by_cases t5 : t = 5
  · subst t5
    have e3 : G'.1 3 = G.1 3 := hN 3 (by decide)
    have e4 : G'.1 4 = G.1 4 := hN 4 (by decide)
    obtain ⟨f, h1, h2, h3, h4, h5⟩ := h
    exact ⟨f, h1, h2, h3, by rw [e3]; exact h4, by rw [e4]; exact h5⟩
  by_cases t12 : t = 12
  · subst t12
    have e29 : G'.1 29 = G.1 29 := hN 29 (by decide)
    obtain ⟨x1, h1, h2⟩ := h
    exact ⟨x1, by rw [e29]; exact h1, h2⟩
  by_cases t13 : t = 13
  · subst t13
    have e1 : G'.1 1 = G.1 1 := hN 1 (by decide)
    have e26 : G'.1 26 = G.1 26 := hN 26 (by decide)
    obtain ⟨x1, x2, h1, h2, h3, h4, h5, h6, h7⟩ := h
    exact ⟨x1, x2, by rw [e1, e26]; exact h1, h2, h3, h4, h5, by rw [e1]; exact h6, h7⟩
  by_cases t14 : t = 14
  · subst t14
    have e28 : G'.1 28 = G.1 28 := hN 28 (by decide)
    obtain ⟨x1, x2, h1, h2, h3⟩ := h
    exact ⟨x1, x2, by rw [e28]; exact h1, h2, h3⟩
  by_cases t15 : t = 15
  · subst t15
    have e2 : G'.1 2 = G.1 2 := hN 2 (by decide)
    obtain ⟨x1, x2, x3, x4, h1, h2, h3, h4, h5, h6⟩ := h
    exact ⟨x1, x2, x3, x4, by rw [e2]; exact h1, h2, h3, h4, by rw [e2]; exact h5, h6⟩
  by_cases t17 : t = 17
  · subst t17
    have e27 : G'.1 27 = G.1 27 := hN 27 (by decide)
    obtain ⟨x1, h1, h2, h3, h4⟩ := h
    exact ⟨x1, by rw [e27]; exact h1, h2, by rw [e27]; exact h3, h4⟩
  by_cases t18 : t = 18
  · subst t18
    have e24 : G'.1 24 = G.1 24 := hN 24 (by decide)
    obtain ⟨x1, x2, x3, x4, x5, x6, x7, x8, x9, h1, h2, h3, h4, h5, h6, h7, h8⟩ := h
    exact ⟨x1, x2, x3, x4, x5, x6, x7, x8, x9, by rw [e24]; exact h1, h2, h3, h4, h5, by rw [e24]; exact h6, h7, h8⟩
  by_cases t19 : t = 19
  · subst t19
    have e0 : G'.1 0 = G.1 0 := hN 0 (by decide)
    obtain ⟨x1, h1, h2, h3, h4⟩ := h
    exact ⟨x1, by rw [e0]; exact h1, h2, by rw [e0]; exact h3, h4⟩
  by_cases t21 : t = 21
  · subst t21
    have e25 : G'.1 25 = G.1 25 := hN 25 (by decide)
    obtain ⟨h1, h2⟩ := h
    exact ⟨by rw [e25]; exact h1, h2⟩
  by_cases t23 : t = 23
  · subst t23
    have e5 : G'.1 5 = G.1 5 := hN 5 (by decide)
    have e6 : G'.1 6 = G.1 6 := hN 6 (by decide)
    obtain ⟨x1, x2, x3, x4, x5, x6, x7, h1, h2⟩ := h
    exact ⟨x1, x2, x3, x4, x5, x6, x7, by rw [e5, e6]; exact h1, h2⟩
  by_cases t24 : t = 24
  · subst t24
    have e20 : G'.1 20 = G.1 20 := hN 20 (by decide)
    have e21 : G'.1 21 = G.1 21 := hN 21 (by decide)
    have e22 : G'.1 22 = G.1 22 := hN 22 (by decide)
    have e23 : G'.1 23 = G.1 23 := hN 23 (by decide)
    obtain ⟨h1, h2⟩ := h
    exact ⟨by rw [e20, e21, e22, e23]; exact h1, h2⟩
  by_cases t22 : t = 22
  · subst t22
    obtain ⟨h1, h2, h3⟩ := h
    obtain ⟨q1, q2⟩ := g22 rfl
    refine ⟨?_, h2, h3⟩
    show e = .inr (12, mdl g G')
    rw [h1]
    simp only [mdl, q2, q1 102 (by decide), q1 104 (by decide), q1 105 (by decide), q1 107 (by decide), q1 108 (by decide), q1 109 (by decide), q1 110 (by decide), q1 113 (by decide), q1 114 (by decide), q1 117 (by decide), q1 118 (by decide), q1 119 (by decide), q1 120 (by decide), q1 122 (by decide), q1 127 (by decide), q1 128 (by decide), q1 133 (by decide), q1 137 (by decide), q1 139 (by decide)]
  by_cases t30 : t = 30
  · subst t30
    show e = .inl (g.2.1 1, n, .inl (G'.2.1 a))
    rw [g3 (by simp)]; exact h
  by_cases t31 : t = 31
  · subst t31
    show e = .inl (g.2.1 0, n, .inl (G'.2.1 a))
    rw [g3 (by simp)]; exact h
  by_cases t33 : t = 33
  · subst t33
    show e = .inl (g.2.1 3, n, .inl (G'.2.1 a))
    rw [g3 (by simp)]; exact h
  unfold conf at h ⊢
  split at h <;> simp_all
theorem HT.putG {g : Gx} {Ty : TyM} {G : Gh} (G' : Gh) {H H1 : Heap} {a : Nat} {k : Kd} {e : va_E} (h : HT g Ty G H) (ha : Ty a = some k) (he : conf g Ty G' a k e) (h1 : va_at g.1 vwCl (a, e) H1) (oq : ∀ q : Nat, q ≠ a → H1[q]? = H[q]?) (hg : ∀ (b : Nat) (kb : Kd) (eb : va_E), b ≠ a → conf g Ty G b kb eb → GA G G' b kb.1) : HT g Ty G' H1 := by
  intro b kb hb
  by_cases hab : b = a
  · subst hab
    rw [ha] at hb; cases hb
    exact ⟨e, he, h1⟩
  · obtain ⟨e2, c2, v2⟩ := h b kb hb
    exact ⟨e2, conf_gh c2 (hg b kb e2 hab c2), v2.kept (oq b hab)⟩
theorem cf5 {g : Gx} {Ty : TyM} {G : Gh} {a n : Nat} {e : va_E} (h : conf g Ty G a (5, n) e) : a = g.2.2 3 := by
  obtain ⟨f, h1, h2, h3, h4, h5⟩ := h; exact h3
theorem cf22 {g : Gx} {Ty : TyM} {G : Gh} {a n : Nat} {e : va_E} (h : conf g Ty G a (22, n) e) : a = g.2.2 20 := by
  obtain ⟨h1, h2, h3⟩ := h; exact h2
theorem cf_own {g : Gx} {Ty : TyM} {G : Gh} {a t n i : Nat} {e : va_E} (h : conf g Ty G a (t, n) e) (hi : i ∈ depN t) : a = g.2.2 (ownL t) := by
  by_cases t5 : t = 5
  · subst t5
    obtain ⟨f, h1, h2, h3, h4, h5⟩ := h
    exact h3
  by_cases t12 : t = 12
  · subst t12
    obtain ⟨x1, h1, h2, h3, h4, h5⟩ := h
    exact h5
  by_cases t13 : t = 13
  · subst t13
    obtain ⟨x1, x2, h1, h2, h3, h4, h5, h6, h7⟩ := h
    exact h7
  by_cases t14 : t = 14
  · subst t14
    obtain ⟨x1, x2, h1, h2, h3⟩ := h
    exact h3
  by_cases t15 : t = 15
  · subst t15
    obtain ⟨x1, x2, x3, x4, h1, h2, h3, h4, h5, h6⟩ := h
    exact h6.1
  by_cases t17 : t = 17
  · subst t17
    obtain ⟨x1, h1, h2, h3, h4⟩ := h
    exact h4
  by_cases t18 : t = 18
  · subst t18
    obtain ⟨x1, x2, x3, x4, x5, x6, x7, x8, x9, h1, h2, h3, h4, h5, h6, h7, h8⟩ := h
    exact h8
  by_cases t19 : t = 19
  · subst t19
    obtain ⟨x1, h1, h2, h3, h4⟩ := h
    exact h4
  by_cases t21 : t = 21
  · subst t21
    obtain ⟨h1, h2, h3, h4, h5, h6, h7, h8, h9, h10, h11, h12, h13, h14, h15, h16⟩ := h
    exact h16
  by_cases t23 : t = 23
  · subst t23
    obtain ⟨x1, x2, x3, x4, x5, x6, x7, h1, h2, h3, h4, h5, h6, h7, h8⟩ := h
    exact h8
  by_cases t24 : t = 24
  · subst t24
    obtain ⟨h1, h2, h3, h4, h5⟩ := h
    exact h5
  exfalso
  unfold depN at hi
  split at hi <;> first | contradiction | cases hi
theorem upd_ne {f : Nat → Int32} {k j : Nat} {x : Int32} (h : j ≠ k) : upd f k x j = f j := by unfold upd; rw [if_neg h]
theorem upd_eq {f : Nat → Int32} {k : Nat} {x : Int32} : upd f k x k = x := by unfold upd; rw [if_pos rfl]
/-- a number of the ghost goes with the cell of the one object that holds it -/
theorem HT.putI {g : Gx} {Ty : TyM} {G : Gh} {H H1 : Heap} {a : Nat} {k : Kd} {e : va_E} (i : Nat) (v : Int32) (h : HT g Ty G H) (ha : Ty a = some k) (he : conf g Ty (gset G i v) a k e) (h1 : va_at g.1 vwCl (a, e) H1) (oq : ∀ q : Nat, q ≠ a → H1[q]? = H[q]?) (hi : a = g.2.2 (ownN i)) (h22 : 100 ≤ i → a = g.2.2 20) : HT g Ty (gset G i v) H1 := by
  refine HT.putG (gset G i v) h ha he h1 oq fun b kb eb hb hc => ?_
  obtain ⟨t, n⟩ := kb
  refine ⟨fun j hj => ?_, fun ht => ?_, fun _ => rfl⟩
  · refine upd_ne fun q => ?_
    subst q
    have q1 := cf_own hc hj
    rw [← dep_own hj] at q1
    exact hb (q1.trans hi.symm)
  · simp only at ht
    subst ht
    refine ⟨fun j hj => upd_ne fun q => ?_, rfl⟩
    subst q
    exact hb ((cf22 hc).trans (h22 hj).symm)
theorem HT.putM {g : Gx} {Ty : TyM} {G : Gh} {H H1 : Heap} {a : Nat} {k : Kd} {e : va_E} (i : Nat) (v : Int32) (h : HT g Ty G H) (ha : Ty a = some k) (he : conf g Ty (gset G i v) a k e) (h1 : va_at g.1 vwCl (a, e) H1) (oq : ∀ q : Nat, q ≠ a → H1[q]? = H[q]?) (hi : (20 ≤ i ∧ i ≤ 29) ∧ a = g.2.2 (ownN i)) : HT g Ty (gset G i v) H1 :=
  HT.putI i v h ha he h1 oq hi.2 (fun q => absurd hi.1.2 (by omega))
theorem HT.putN {g : Gx} {Ty : TyM} {G : Gh} {H H1 : Heap} {a : Nat} {k : Kd} {e : va_E} (i : Nat) (v : Int32) (h : HT g Ty G H) (ha : Ty a = some k) (he : conf g Ty (gset G i v) a k e) (h1 : va_at g.1 vwCl (a, e) H1) (oq : ∀ q : Nat, q ≠ a → H1[q]? = H[q]?) (hi : (i = 0 ∧ a = g.2.2 4) ∨ (i = 1 ∧ a = g.2.2 11) ∨ (i = 2 ∧ a = g.2.2 12) ∨ ((i = 3 ∨ i = 4) ∧ a = g.2.2 3) ∨ ((i = 5 ∨ i = 6) ∧ a = g.2.2 7) ∨ (100 ≤ i ∧ a = g.2.2 20)) : HT g Ty (gset G i v) H1 := by
  rcases hi with ⟨rfl, q⟩ | ⟨rfl, q⟩ | ⟨rfl, q⟩ | ⟨rfl | rfl, q⟩ | ⟨rfl | rfl, q⟩ | ⟨w, q⟩
  · exact HT.putI _ v h ha he h1 oq q (fun z => absurd z (by decide))
  · exact HT.putI _ v h ha he h1 oq q (fun z => absurd z (by decide))
  · exact HT.putI _ v h ha he h1 oq q (fun z => absurd z (by decide))
  · exact HT.putI _ v h ha he h1 oq q (fun z => absurd z (by decide))
  · exact HT.putI _ v h ha he h1 oq q (fun z => absurd z (by decide))
  · exact HT.putI _ v h ha he h1 oq q (fun z => absurd z (by decide))
  · exact HT.putI _ v h ha he h1 oq q (fun z => absurd z (by decide))
  · refine HT.putI _ v h ha he h1 oq ?_ (fun _ => q)
    have : ownN i = 20 := by
      unfold ownN
      split <;> first | omega | rfl
    rw [this]; exact q
/-- a row that is held word for word -/
theorem HT.putA {g : Gx} {Ty : TyM} {G : Gh} {H H1 : Heap} {a : Nat} {k : Kd} {e : va_E} (f : Nat → Int32) (h : HT g Ty G H) (ha : Ty a = some k) (he : conf g Ty (aset G a f) a k e) (h1 : va_at g.1 vwCl (a, e) H1) (oq : ∀ q : Nat, q ≠ a → H1[q]? = H[q]?) : HT g Ty (aset G a f) H1 := by
  refine HT.putG (aset G a f) h ha he h1 oq fun b kb eb hb hc => ?_
  refine ⟨fun _ _ => rfl, fun _ => ⟨fun _ _ => rfl, rfl⟩, fun _ => ?_⟩
  show (if b = a then f else G.2.1 b) = G.2.1 b
  rw [if_neg hb]
theorem aset_eq {G : Gh} {a : Nat} {f : Nat → Int32} : (aset G a f).2.1 a = f := by show (if a = a then f else _) = f; rw [if_pos rfl]
theorem aset_ne {G : Gh} {a b : Nat} {f : Nat → Int32} (h : b ≠ a) : (aset G a f).2.1 b = G.2.1 b := by show (if b = a then f else _) = _; rw [if_neg h]
/-- a reference of the reference's object -/
theorem HT.putR {g : Gx} {Ty : TyM} {G : Gh} {H H1 : Heap} {a : Nat} {k : Kd} {e : va_E} (i : Nat) (o : Option Nat) (h : HT g Ty G H) (ha : Ty a = some k) (he : conf g Ty (rset G i o) a k e) (h1 : va_at g.1 vwCl (a, e) H1) (oq : ∀ q : Nat, q ≠ a → H1[q]? = H[q]?) (hi : a = g.2.2 20) : HT g Ty (rset G i o) H1 := by
  refine HT.putG (rset G i o) h ha he h1 oq fun b kb eb hb hc => ?_
  obtain ⟨t, n⟩ := kb
  refine ⟨fun _ _ => rfl, fun ht => ?_, fun _ => rfl⟩
  simp only at ht
  subst ht
  exact absurd ((cf22 hc).trans hi.symm) hb
theorem HT.kept {g : Gx} {Ty : TyM} {G : Gh} {H H1 : Heap} (h : HT g Ty G H) (oq : ∀ (q : Nat) (k : Kd), Ty q = some k → H1[q]? = H[q]?) : HT g Ty G H1 := by
  intro b kb hb
  obtain ⟨e2, c2, v2⟩ := h b kb hb
  exact ⟨e2, c2, v2.kept (oq b kb hb)⟩
theorem HT.lt {g : Gx} {Ty : TyM} {G : Gh} {H : Heap} {a : Nat} {k : Kd} (h : HT g Ty G H) (ha : Ty a = some k) : a < H.size := by
  obtain ⟨e, -, v⟩ := h a k ha
  exact v.lt
theorem ne_kd {Ty : TyM} {a b : Nat} {k1 k2 : Kd} (h1 : Ty a = some k1) (h2 : Ty b = some k2) (hk : k1 ≠ k2) : a ≠ b := by
  intro h; subst h; rw [h1] at h2; exact hk (Option.some.inj h2)
/-- a method's start over a typed heap -/
def PcT (g : Gx) (Ty : TyM) (G : Gh) (sz : Nat) (av : List Value) : Array Value → State → Prop := fun v U => v = av.toArray ∧ U.heap.size = sz ∧ KK g U ∧ HT g Ty G U.heap
theorem PcT_blind {g : Gx} {Ty : TyM} {G : Gh} {sz : Nat} {av : List Value} : FrameBlind (PcT g Ty G sz av) := fun a U f mk q => by
  obtain ⟨q0, q1, qK, qH⟩ := q
  exact ⟨q0, q1, KK.same (u := U) (U := U.calling f mk a) rfl qK, qH⟩
theorem PcT_pre {g : Gx} {Ty : TyM} {G : Gh} {s : State} {H : Heap} {av : List Value} (hK : KK g s) (hH : HT g Ty G H) : ∀ U : State, U.heap = H → s.WarmedH U.vm → PcT g Ty G H.size av av.toArray U := fun U hU hW => ⟨rfl, by rw [hU], KK.warm hW hK, by rw [hU]; exact hH⟩
/-- the start of a method that looks at no cell of ours -/
def PcN (g : Gx) (av : List Value) : Array Value → State → Prop := fun v U => v = av.toArray ∧ KK g U
theorem PcN_blind {g : Gx} {av : List Value} : FrameBlind (PcN g av) := fun a U f mk q => ⟨q.1, KK.same (u := U) (U := U.calling f mk a) rfl q.2⟩
theorem PcN_pre {g : Gx} {s : State} {H : Heap} {av : List Value} (hK : KK g s) : ∀ U : State, U.heap = H → s.WarmedH U.vm → PcN g av av.toArray U := fun U _ hW => ⟨rfl, KK.warm hW hK⟩
abbrev Wm (p : Program) (l : Launch) (e : Env) (ws : List Cond) (rm : Room) (s : State) (m : MethodId) (av : List Value) (below : List Frame) (meth : Method) (c : Code) (H : Heap) (locs : List Loc) (cells slots : Nat) (Qc : Array Value → State → Outcome → State → Prop) (mc ms : Nat) (free : Addr → Prop) (f : JFrame) : Prop := W p l e (headSpec ws rm).room s m av.toArray below meth c H locs cells slots (MQ below Qc av.toArray s mc ms free) f
/-- ends: the answer, and the cells as a ghost and a table of kinds tell them -/
abbrev QwI (g : Gx) (Ty : TyM) (sz : Nat) (post : Int32 → TyM × Gh → Prop) : Array Value → State → Outcome → State → Prop := va_Qi post (fun u t => HT g u.1 u.2 t.heap) (AF Ty sz)
abbrev QwJ (g : Gx) (Ty : TyM) (sz : Nat) (post : Int64 → TyM × Gh → Prop) : Array Value → State → Outcome → State → Prop := va_Ql post (fun u t => HT g u.1 u.2 t.heap) (AF Ty sz)
abbrev QwV (g : Gx) (Ty : TyM) (sz : Nat) (post : TyM × Gh → Prop) : Array Value → State → Outcome → State → Prop := va_Qv post (fun u t => HT g u.1 u.2 t.heap) (AF Ty sz)
def PcH (g : Gx) (Ty : TyM) (G : Gh) (av : List Value) : Array Value → State → Prop := fun v U => v = av.toArray ∧ KK g U ∧ HT g Ty G U.heap
theorem PcH_blind {g : Gx} {Ty : TyM} {G : Gh} {av : List Value} : FrameBlind (PcH g Ty G av) := fun a U f mk q => by
  obtain ⟨q0, qK, qH⟩ := q
  exact ⟨q0, KK.same (u := U) (U := U.calling f mk a) rfl qK, qH⟩
theorem PcH_pre {g : Gx} {Ty : TyM} {G : Gh} {s : State} {H : Heap} {av : List Value} (hK : KK g s) (hH : HT g Ty G H) : ∀ U : State, U.heap = H → s.WarmedH U.vm → PcH g Ty G av av.toArray U := fun U hU hW => ⟨rfl, KK.warm hW hK, by rw [hU]; exact hH⟩
theorem AF.mono {Ty : TyM} {a b q : Nat} (h : a ≤ b) (hq : AF Ty b q) : AF Ty a q := hq.elim Or.inl (fun x => Or.inr (Nat.le_trans h x))
theorem b01 {x : Int32} (h : rgI 0 1 x) : x = 0 ∨ x = 1 := by
  have h1 := h.1; have h2 := h.2
  rcases (show x.toInt = 0 ∨ x.toInt = 1 by omega) with q | q
  · exact Or.inl (Int32.toInt_inj.mp q)
  · exact Or.inr (Int32.toInt_inj.mp q)
theorem nz01 {x : Int32} (h : rgI 0 1 x) : narrow .boolean (.int x) = .int x := by rcases b01 h with rfl | rfl <;> rfl
theorem fz01 {x : Int32} (h : rgI 0 1 x) : fits .boolean (.int x) = true := by rcases b01 h with rfl | rfl <;> rfl
theorem up_all {Ty : TyM} {f : Nat → Option Nat} {k v : Nat} (h : ∀ j t, f j = some t → Ty t = some (20, 0)) (hv : Ty v = some (20, 0)) : ∀ j t, va_up f k (some v) j = some t → Ty t = some (20, 0) := by
  intro j t e
  unfold va_up at e
  by_cases hj : j = k
  · rw [if_pos hj] at e; cases e; exact hv
  · rw [if_neg hj] at e; exact h j t e
theorem cf30 {g : Gx} {Ty : TyM} {G : Gh} {a n : Nat} {f : Nat → Int32} : conf g Ty (aset G a f) a (30, n) (.inl (g.2.1 1, n, .inl f)) := by
  show _ = _; rw [aset_eq]
theorem cf31 {g : Gx} {Ty : TyM} {G : Gh} {a n : Nat} {f : Nat → Int32} : conf g Ty (aset G a f) a (31, n) (.inl (g.2.1 0, n, .inl f)) := by
  show _ = _; rw [aset_eq]
theorem cf33 {g : Gx} {Ty : TyM} {G : Gh} {a n : Nat} {f : Nat → Int32} : conf g Ty (aset G a f) a (33, n) (.inl (g.2.1 3, n, .inl f)) := by
  show _ = _; rw [aset_eq]
theorem rgu {lo hi : Int} {G : Gh} {i : Nat} {x : Int32} (h : rgI lo hi x) : rgI lo hi ((gset G i x).1 i) := by
  show rgI lo hi (upd G.1 i x i); rw [upd_eq]; exact h
theorem gs_eq {G : Gh} {i : Nat} {x : Int32} : (gset G i x).1 i = x := upd_eq
theorem gs_ne {G : Gh} {i j : Nat} {x : Int32} (h : j ≠ i) : (gset G i x).1 j = G.1 j := upd_ne h
theorem gs_gs {G : Gh} {i : Nat} {x y : Int32} : gset (gset G i x) i y = gset G i y := by
  unfold gset
  refine Prod.ext ?_ rfl
  funext j
  show upd (upd G.1 i x) i y j = upd G.1 i y j
  unfold upd
  split <;> rfl
theorem gs_id {G : Gh} {i : Nat} {x : Int32} (h : x = G.1 i) : gset G i x = G := by
  unfold gset
  refine Prod.ext ?_ rfl
  funext j
  show upd G.1 i x j = G.1 j
  unfold upd
  split
  · rename_i q; rw [q]; exact h
  · rfl
theorem lc_ne {x y : Int64} {v : Int32} (e : v = lg_cmp x y) (h : ¬ v = 0) : ¬ x = y := by
  intro q; apply h; rw [e, q]; unfold lg_cmp; rw [if_neg (fun z => by have := Int64.lt_iff_toInt_lt.mp z; omega), if_pos rfl]
theorem lc_pos {x y : Int64} {v : Int32} (e : v = lg_cmp x y) (h : ¬ v ≤ 0) : ¬ x = y := by
  intro q; apply h; rw [e, q]; unfold lg_cmp; rw [if_neg (fun z => by have := Int64.lt_iff_toInt_lt.mp z; omega), if_pos rfl]; decide
