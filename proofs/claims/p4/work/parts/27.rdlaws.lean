/-! ===== reading a rule: what waits; as many open brackets wait as the depth says, or more ===== -/
def rk0 (x : Int32) : Bool := !(decide (x = 42) || decide (x = 43) || decide (x = 45) || decide (x = 47) || decide (x = 60) || decide (x = 61) || decide (x = 62) || decide (x = 256))
def z0 (f : Nat → Int32) : Nat → Nat
  | 0 => 0
  | n + 1 => z0 f n + (if rk0 (f n) then 1 else 0)
theorem z0_le (f : Nat → Int32) : ∀ n, z0 f n ≤ n
  | 0 => Nat.le_refl _
  | n + 1 => by have := z0_le f n; unfold z0; split <;> omega
theorem z0_s (f : Nat → Int32) (n : Nat) : z0 f (n + 1) = z0 f n + (if rk0 (f n) then 1 else 0) := rfl
theorem z0_upd (f : Nat → Int32) (k : Nat) (x : Int32) : ∀ n, n ≤ k → z0 (upd f k x) n = z0 f n
  | 0, _ => rfl
  | n + 1, h => by rw [z0_s, z0_s, z0_upd f k x n (by omega), upd_ne (by omega)]
theorem cl_nat {x : Int32} (h : 0 ≤ x.toInt) : (x.toNatClampNeg : Int) = x.toInt := by
  show ((x.toInt.toNat : Nat) : Int) = x.toInt
  omega
theorem cl_of {x : Int32} {n : Nat} (h : x.toInt = (n : Int)) : x.toNatClampNeg = n := by
  show x.toInt.toNat = n
  omega
theorem ht23 {g : Gx} {Ty : TyM} {G : Gh} {H : Heap} {a : Nat} (h : HT g Ty G H) (k : Ty a = some (23, 0)) : rgI 0 40 (G.1 7) ∧ rgI 0 1 (G.1 8) := by
  obtain ⟨_, ⟨x1, x2, x3, rfl, h2, h3, h4, h5, h6, h7, h8⟩, _⟩ := h a _ k
  exact ⟨h6, h7⟩
/-- the numbers of the rule that is read -/
abbrev nR (i : Nat) : Prop := i < 5 ∨ 10 < i
def RLx (g : Gx) (G G' : Gh) : Prop := (∀ i, nR i → G'.1 i = G.1 i) ∧ (∀ b, b ≠ g.2.2 51 → G'.2.1 b = G.2.1 b) ∧ G'.2.2 = G.2.2
theorem RLx.rf {g : Gx} {G : Gh} : RLx g G G := ⟨fun _ _ => rfl, fun _ _ => rfl, rfl⟩
theorem RLx.tr {g : Gx} {A B C : Gh} (h : RLx g A B) (h2 : RLx g B C) : RLx g A C := ⟨fun i a => (h2.1 i a).trans (h.1 i a), fun i a => (h2.2.1 i a).trans (h.2.1 i a), h2.2.2.trans h.2.2⟩
theorem RLx.n {g : Gx} {G : Gh} {k : Nat} {x : Int32} (hk : ¬ nR k) : RLx g G (gset G k x) := ⟨fun i a => gs_ne (fun q => hk (by rw [← q]; exact a)), fun _ _ => rfl, rfl⟩
theorem RLx.a51 {g : Gx} {G : Gh} {f : Nat → Int32} : RLx g G (aset G (g.2.2 51) f) := ⟨fun _ _ => rfl, fun _ h => aset_ne h, rfl⟩
def RW (g : Gx) (G : Gh) : Prop := rgI 0 40 (G.1 5) ∧ rgI 0 4 (G.1 6) ∧ (G.1 6).toInt ≤ (z0 (G.2.1 (g.2.2 51)) (G.1 5).toNatClampNeg : Int)
theorem RW.n {g : Gx} {G G1 : Gh} {k : Nat} {x : Int32} (h : RW g G) (e : G1 = gset G k x) (h5 : 5 ≠ k) (h6 : 6 ≠ k) : RW g G1 := by
  have a : G1.1 5 = G.1 5 := by rw [e]; exact gs_ne h5
  have b : G1.1 6 = G.1 6 := by rw [e]; exact gs_ne h6
  have c : G1.2.1 = G.2.1 := by rw [e]; rfl
  exact ⟨by rw [a]; exact h.1, by rw [b]; exact h.2.1, by rw [a, b, c]; exact h.2.2⟩
def HoldR (g : Gx) (G G' : Gh) (x : Int32) : Prop := (G.1 5 < 40 ∧ G' = gset (aset G (g.2.2 51) (upd (G.2.1 (g.2.2 51)) (G.1 5).toNatClampNeg x)) 5 (G.1 5 + 1)) ∨ ((40 : Int32) ≤ G.1 5 ∧ G' = G)
def EmitR (G G' : Gh) : Prop := (G.1 7 < 40 ∧ G' = gset G 7 (G.1 7 + 1)) ∨ ((40 : Int32) ≤ G.1 7 ∧ G' = G)
theorem EmitR.keep {G G' : Gh} {i : Nat} (h : EmitR G G') (hi : i ≠ 7) : G'.1 i = G.1 i := by
  rcases h with ⟨-, e⟩ | ⟨-, e⟩
  · rw [e]; exact gs_ne hi
  · rw [e]
theorem EmitR.sz {G G' : Gh} (h : EmitR G G') (h7 : rgI 0 40 (G.1 7)) : (G.1 7).toInt ≤ (G'.1 7).toInt ∧ (G'.1 7).toInt ≤ (G.1 7).toInt + 1 ∧ (G'.1 7).toInt ≤ 40 ∧ ((G.1 7).toInt ≤ 39 → (G'.1 7).toInt = (G.1 7).toInt + 1) := by
  have z : (40 : Int32).toInt = 40 := rfl
  have a := h7.1
  have b := h7.2
  rcases h with ⟨c, e⟩ | ⟨c, e⟩
  · have c := fz_lt.mp c
    have t : (G.1 7 + 1).toInt = (G.1 7).toInt + 1 := ti_add (y := 1) (by show _ ≤ (G.1 7).toInt + 1; omega) (by show (G.1 7).toInt + 1 ≤ _; omega)
    have e7 : G'.1 7 = G.1 7 + 1 := by rw [e]; exact gs_eq
    rw [e7]
    exact ⟨by omega, by omega, by omega, fun _ => by omega⟩
  · have c := fz_le.mp c
    rw [e]
    exact ⟨by omega, by omega, by omega, fun _ => by omega⟩
theorem EmitR.fr {g : Gx} {G G' : Gh} (h : EmitR G G') : RLx g G G' := by
  rcases h with ⟨-, e⟩ | ⟨-, e⟩
  · rw [e]; exact RLx.n (by decide)
  · rw [e]; exact RLx.rf
theorem EmitR.rows {G G' : Gh} (h : EmitR G G') : G'.2.1 = G.2.1 := by
  rcases h with ⟨-, e⟩ | ⟨-, e⟩
  · rw [e]; rfl
  · rw [e]
def RelR (g : Gx) (G G' : Gh) (a : Int32) : Prop := 0 ≤ (G'.1 5).toInt ∧ (G'.1 5).toInt ≤ (G.1 5).toInt ∧ (∀ i, i ≠ 5 → i ≠ 7 → G'.1 i = G.1 i) ∧ G'.2.1 = G.2.1 ∧ G'.2.2 = G.2.2 ∧ (1 ≤ a.toInt → z0 (G.2.1 (g.2.2 51)) (G'.1 5).toNatClampNeg = z0 (G.2.1 (g.2.2 51)) (G.1 5).toNatClampNeg) ∧ (rgI 0 40 (G.1 7) → rgI 0 40 (G'.1 7) ∧ (G.1 7).toInt ≤ (G'.1 7).toInt ∧ (G'.1 5).toInt + (G'.1 7).toInt ≤ (G.1 5).toInt + (G.1 7).toInt)
def STEP (g : Gx) (G G' : Gh) : Prop := RLx g G G' ∧ RW g G' ∧ (G'.1 5).toInt ≤ (G.1 5).toInt + 1
theorem STEP.rf {g : Gx} {G : Gh} (h : RW g G) : STEP g G G := ⟨RLx.rf, h, by omega⟩
theorem STEP.n {g : Gx} {G G1 : Gh} {k : Nat} {x : Int32} (h : RW g G) (e : G1 = gset G k x) (h5 : 5 ≠ k) (h6 : 6 ≠ k) (hk : ¬ nR k) : STEP g G G1 := ⟨by rw [e]; exact RLx.n hk, h.n e h5 h6, by rw [e, gs_ne h5]; omega⟩
theorem STEP.aft {g : Gx} {G G1 G2 : Gh} {k : Nat} {x : Int32} (h : STEP g G G1) (e : G2 = gset G1 k x) (h5 : 5 ≠ k) (h6 : 6 ≠ k) (hk : ¬ nR k) : STEP g G G2 := ⟨h.1.tr (by rw [e]; exact RLx.n hk), h.2.1.n e h5 h6, by rw [e, gs_ne h5]; exact h.2.2⟩
theorem STEP.bef {g : Gx} {G G1 G2 : Gh} {k : Nat} {x : Int32} (e : G1 = gset G k x) (h5 : 5 ≠ k) (hk : ¬ nR k) (h : STEP g G1 G2) : STEP g G G2 := ⟨RLx.tr (by rw [e]; exact RLx.n hk) h.1, h.2.1, by have := h.2.2; rw [e, gs_ne h5] at this; exact this⟩
theorem hold_z {g : Gx} {G G' : Gh} {x : Int32} (h : HoldR g G G' x) (h0 : 0 ≤ (G.1 5).toInt) (h1 : (G.1 5).toInt ≤ 39) : (G'.1 5).toInt = (G.1 5).toInt + 1 ∧ (∀ i, i ≠ 5 → G'.1 i = G.1 i) ∧ RLx g G G' ∧ z0 (G'.2.1 (g.2.2 51)) (G'.1 5).toNatClampNeg = z0 (G.2.1 (g.2.2 51)) (G.1 5).toNatClampNeg + (if rk0 x then 1 else 0) := by
  rcases h with ⟨-, e⟩ | ⟨q, -⟩
  · subst e
    have e5 : (gset (aset G (g.2.2 51) (upd (G.2.1 (g.2.2 51)) (G.1 5).toNatClampNeg x)) 5 (G.1 5 + 1)).1 5 = G.1 5 + 1 := gs_eq
    have t5 : (G.1 5 + 1).toInt = (G.1 5).toInt + 1 := ti_add (y := 1) (by show _ ≤ (G.1 5).toInt + 1; omega) (by show (G.1 5).toInt + 1 ≤ _; omega)
    refine ⟨by rw [e5]; exact t5, fun i hi => gs_ne hi, RLx.tr RLx.a51 (RLx.n (by decide)), ?_⟩
    rw [e5]
    show z0 ((aset G (g.2.2 51) (upd (G.2.1 (g.2.2 51)) (G.1 5).toNatClampNeg x)).2.1 (g.2.2 51)) _ = _
    rw [aset_eq]
    have hc : (G.1 5 + 1).toNatClampNeg = (G.1 5).toNatClampNeg + 1 := cl_of (by rw [t5]; have := cl_nat h0; omega)
    rw [hc, z0_s, z0_upd _ _ _ _ (Nat.le_refl _), upd_eq]
  · have := fz_le.mp q; have z : (40 : Int32).toInt = 40 := rfl; omega
theorem hold_step {g : Gx} {G G' : Gh} {x : Int32} (hW : RW g G) (h1 : (G.1 5).toInt ≤ 39) (h : HoldR g G G' x) : STEP g G G' := by
  obtain ⟨a, b, c, d⟩ := hold_z h hW.1.1 h1
  refine ⟨c, ⟨⟨by have := hW.1.1; omega, by omega⟩, by rw [b 6 (by decide)]; exact hW.2.1, ?_⟩, by omega⟩
  rw [b 6 (by decide), d]
  have := hW.2.2
  omega
theorem open_step {g : Gx} {G G1 G2 G3 : Gh} {x y : Int32} (hW : RW g G) (h1 : (G.1 5).toInt ≤ 39) (hd : G.1 6 < 4) (e1 : G1 = gset G 6 x) (ex : x = G.1 6 + 1) (e2 : G2 = gset G1 10 y) (h : HoldR g G2 G3 40) : STEP g G G3 := by
  have hd := fz_lt.mp hd
  have z4 : (4 : Int32).toInt = 4 := rfl
  have e5 : G2.1 5 = G.1 5 := by rw [e2, gs_ne (by decide), e1]; exact gs_ne (by decide)
  have e6 : G2.1 6 = x := by rw [e2, gs_ne (by decide), e1]; exact gs_eq
  have ef : G2.2.1 (g.2.2 51) = G.2.1 (g.2.2 51) := by rw [e2, e1]; rfl
  have l0 := hW.2.1.1
  have l5 := hW.1.1
  have t6 : x.toInt = (G.1 6).toInt + 1 := by rw [ex]; exact ti_add (y := 1) (by show _ ≤ (G.1 6).toInt + 1; omega) (by show (G.1 6).toInt + 1 ≤ _; omega)
  obtain ⟨a, b, c, d⟩ := hold_z h (by rw [e5]; omega) (by rw [e5]; exact h1)
  have b := b 6 (by decide)
  have hr : RLx g G G2 := RLx.tr (B := G1) (by rw [e1]; exact RLx.n (by decide)) (by rw [e2]; exact RLx.n (by decide))
  rw [e5] at a d
  rw [ef] at d
  refine ⟨hr.tr c, ⟨⟨by omega, by omega⟩, by rw [b, e6]; exact ⟨by omega, by omega⟩, ?_⟩, by omega⟩
  rw [b, e6, d]
  have := hW.2.2
  rw [if_pos (by decide)]
  omega
theorem RelR.keep {g : Gx} {G G' : Gh} {a : Int32} {i : Nat} (h : RelR g G G' a) (hi : i ≠ 5) (h7 : i ≠ 7) : G'.1 i = G.1 i := h.2.2.1 i hi h7
theorem RelR.fr {g : Gx} {G G' : Gh} {a : Int32} (h : RelR g G G' a) : RLx g G G' := ⟨fun i hi => h.2.2.1 i (by omega) (by omega), fun b _ => by rw [h.2.2.2.1], h.2.2.2.2.1⟩
theorem rel_step {g : Gx} {G G' : Gh} {a : Int32} (hW : RW g G) (ha : 1 ≤ a.toInt) (h : RelR g G G' a) : RLx g G G' ∧ RW g G' ∧ (G'.1 5).toInt ≤ (G.1 5).toInt := by
  refine ⟨h.fr, ⟨⟨h.1, by have := hW.1.2; have := h.2.1; omega⟩, by rw [h.keep (by decide) (by decide)]; exact hW.2.1, ?_⟩, h.2.1⟩
  rw [h.keep (by decide) (by decide), h.2.2.2.1, h.2.2.2.2.2.1 ha]
  exact hW.2.2
theorem follow_step {g : Gx} {G G1 G2 : Gh} {a x : Int32} (hW : RW g G) (h1 : (G.1 5).toInt ≤ 39) (ha : 1 ≤ a.toInt) (h : RelR g G G1 a) (h2 : HoldR g G1 G2 x) : STEP g G G2 := by
  obtain ⟨r, w, l⟩ := rel_step hW ha h
  obtain ⟨r2, w2, l2⟩ := hold_step w (by omega) h2
  exact ⟨r.tr r2, w2, by omega⟩
theorem close_w {g : Gx} {G : Gh} (hW : RW g G) (hd : 1 ≤ (G.1 6).toInt) : 1 ≤ (G.1 5).toInt := by
  have h1 := hW.2.2
  have h2 := z0_le (G.2.1 (g.2.2 51)) (G.1 5).toNatClampNeg
  have h3 := cl_nat hW.1.1
  omega
theorem close_t {g : Gx} {G G1 : Gh} {x y : Int32} (hW : RW g G) (hne : ¬ G.1 6 = 0) (h : RelR g G G1 1) (ex : x = G1.1 5 - 1) (ey : y = G.1 6 - 1) : x.toInt = (G1.1 5).toInt - 1 ∧ y.toInt = (G.1 6).toInt - 1 ∧ 0 ≤ x.toInt ∧ 0 ≤ y.toInt ∧ (G1.1 5).toInt ≤ 40 := by
  have hd : 1 ≤ (G.1 6).toInt := (rg_neL hW.2.1 rl_0 hne).1
  have k6 : G1.1 6 = G.1 6 := h.keep (by decide) (by decide)
  obtain ⟨r, w, l⟩ := rel_step hW (by decide) h
  have hd1 : 1 ≤ (G1.1 6).toInt := by rw [k6]; exact hd
  have h5 := close_w w hd1
  have u5 := w.1.2
  have u6 := w.2.1.2
  rw [k6] at u6
  have tx : x.toInt = (G1.1 5).toInt - 1 := by rw [ex]; exact ti_sub (y := 1) (by show _ ≤ (G1.1 5).toInt - 1; omega) (by show (G1.1 5).toInt - 1 ≤ _; omega)
  have ty : y.toInt = (G.1 6).toInt - 1 := by rw [ey]; exact ti_sub (y := 1) (by show _ ≤ (G.1 6).toInt - 1; omega) (by show (G.1 6).toInt - 1 ≤ _; omega)
  exact ⟨tx, ty, by omega, by omega, by omega⟩
theorem close_step {g : Gx} {G G1 G2 G3 : Gh} {x y : Int32} (hW : RW g G) (hne : ¬ G.1 6 = 0) (h : RelR g G G1 1) (e2 : G2 = gset G1 5 x) (ex : x = G1.1 5 - 1) (e3 : G3 = gset G2 6 y) (ey : y = G.1 6 - 1) : STEP g G G3 := by
  obtain ⟨tx, ty, hx0, hy0, u5⟩ := close_t hW hne h ex ey
  have k6 : G1.1 6 = G.1 6 := h.keep (by decide) (by decide)
  obtain ⟨r, w, l⟩ := rel_step hW (by decide) h
  have u6 := hW.2.1.2
  have p5 : G3.1 5 = x := by rw [e3, gs_ne (by decide), e2]; exact gs_eq
  have p6 : G3.1 6 = y := by rw [e3]; exact gs_eq
  have pf : G3.2.1 (g.2.2 51) = G1.2.1 (g.2.2 51) := by rw [e3, e2]; rfl
  have r3 : RLx g G G3 := r.tr (RLx.tr (B := G2) (by rw [e2]; exact RLx.n (by decide)) (by rw [e3]; exact RLx.n (by decide)))
  refine ⟨r3, ⟨by rw [p5]; exact ⟨by omega, by omega⟩, by rw [p6]; exact ⟨by omega, by omega⟩, ?_⟩, by rw [p5]; omega⟩
  rw [p5, p6, pf]
  have hz := w.2.2
  have hc : (G1.1 5).toNatClampNeg = x.toNatClampNeg + 1 := cl_of (by have := cl_nat (x := x) (by omega); omega)
  rw [hc, z0_s, k6] at hz
  split at hz <;> omega
/-- one more is let go -/
theorem rel_more {g : Gx} {G GL G1 G2 : Gh} {a x v : Int32} {r : Int32} (hL : RelR g G GL a) (h1 : (0 : Int32) < GL.1 5) (h4 : (GL.1 5).toInt ≤ 40) (ex : x = GL.1 5 - 1) (hr : rk0 (GL.2.1 (g.2.2 51) v.toNatClampNeg) = true → r = 0) (ev : v = GL.1 5 - 1) (hra : a ≤ r) (e : G1 = gset GL 5 x) (hE : EmitR G1 G2) : RelR g G G2 a := by
  have h1 := fz_lt.mp h1
  have z00 : (0 : Int32).toInt = 0 := rfl
  obtain ⟨h2, h3, hk, hrw, hrf, hz, hsz⟩ := hL
  have tx : x.toInt = (GL.1 5).toInt - 1 := by rw [ex]; exact ti_sub (y := 1) (by show _ ≤ (GL.1 5).toInt - 1; omega) (by show (GL.1 5).toInt - 1 ≤ _; omega)
  have vx : v = x := by rw [ev, ex]
  have g5 : G2.1 5 = x := by rw [hE.keep (by decide), e]; exact gs_eq
  have g7 : G1.1 7 = GL.1 7 := by rw [e]; exact gs_ne (by decide)
  refine ⟨by rw [g5]; omega, by rw [g5]; omega, fun i i5 i7 => by rw [hE.keep i7, e, gs_ne i5]; exact hk i i5 i7, by rw [hE.rows, e]; exact hrw, ?_, fun ha => ?_, fun h7 => ?_⟩
  · have q : G2.2.2 = G1.2.2 := (hE.fr (g := g)).2.2
    rw [q, e]; exact hrf
  · rw [g5, ← hz ha]
    have hc : (GL.1 5).toNatClampNeg = x.toNatClampNeg + 1 := cl_of (by have := cl_nat (x := x) (by omega); omega)
    rw [hc, z0_s]
    have hk2 : rk0 (G.2.1 (g.2.2 51) x.toNatClampNeg) = false := by
      rw [hrw, vx] at hr
      cases hq : rk0 (G.2.1 (g.2.2 51) x.toNatClampNeg) with
      | false => rfl
      | true =>
        have := hr hq
        rw [this] at hra
        have := fz_le.mp hra
        have z : (0 : Int32).toInt = 0 := rfl
        omega
    rw [hk2]
    rfl
  · obtain ⟨s1, s2, s3⟩ := hsz h7
    obtain ⟨t1, t2, t3, t4⟩ := hE.sz (by rw [g7]; exact s1)
    rw [g7] at t1 t2
    have := s1.1
    exact ⟨⟨by omega, t3⟩, by omega, by rw [g5]; omega⟩
theorem RelR.rf {g : Gx} {G : Gh} {a : Int32} (h : rgI 0 40 (G.1 5)) : RelR g G G a := ⟨h.1, Int.le_refl _, fun _ _ _ => rfl, rfl, rfl, fun _ => rfl, fun h7 => ⟨h7, Int.le_refl _, Int.le_refl _⟩⟩
theorem STEP.w5 {g : Gx} {G G' : Gh} (h : STEP g G G') : RW g G' := h.2.1
theorem RelR.w5 {g : Gx} {G G' : Gh} {a : Int32} (h : RelR g G G' a) (hw : rgI 0 40 (G.1 5)) : rgI 0 40 (G'.1 5) := ⟨h.1, Int.le_trans h.2.1 hw.2⟩
theorem HoldR.keep {g : Gx} {G G' : Gh} {x : Int32} {i : Nat} (h : HoldR g G G' x) (hi : i ≠ 5) : G'.1 i = G.1 i := by
  rcases h with ⟨-, e⟩ | ⟨-, e⟩
  · rw [e]; exact gs_ne hi
  · rw [e]
theorem dg_y {r c : Int32} (h : (r = 1 ∧ ruD c = true) ∨ (r = 0 ∧ ¬ ruD c = true)) (q : ¬ r = 0) : ruD c = true := h.elim (fun a => a.2) (fun a => absurd a.1 q)
theorem dg_n {r c : Int32} (h : (r = 1 ∧ ruD c = true) ∨ (r = 0 ∧ ¬ ruD c = true)) (q : r = 0) : ¬ ruD c = true := h.elim (fun a => absurd (q.symm.trans a.1) (by decide)) (fun a => a.2)
theorem ht19 {g : Gx} {Ty : TyM} {G : Gh} {H : Heap} {a : Nat} (h : HT g Ty G H) (k : Ty a = some (19, 0)) : rgI 0 80 (G.1 0) := by
  obtain ⟨_, ⟨rfl, h2, h3, h4⟩, _⟩ := h a _ k
  exact h3
