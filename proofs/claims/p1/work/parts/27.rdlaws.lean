/-! ===== reading a rule: what waits; as many open brackets wait as the depth says, or more ===== -/
def rk0 (x : Int32) : Bool := !(decide (x = 42) || decide (x = 43) || decide (x = 45) || decide (x = 47) || decide (x = 60) || decide (x = 61) || decide (x = 62) || decide (x = 256))
def z0 (f : Nat → Int32) : Nat → Nat
  | 0 => 0
  | n + 1 => z0 f n + (if rk0 (f n) then 1 else 0)
theorem z0_le (f : Nat → Int32) : ∀ n, z0 f n ≤ n
  | 0 => Nat.le_refl _
  | n + 1 => by have := z0_le f n; unfold z0; split <;> omega
theorem z0_s (f : Nat → Int32) (n : Nat) : z0 f (n + 1) = z0 f n + (if rk0 (f n) then 1 else 0) := rfl
theorem z0_upd (f : Nat → Int32) (k : Nat) (x : Int32) : ∀ n, n ≤ k → z0 (upd f k x) n = z0 f n
  | 0, _ => rfl
  | n + 1, h => by rw [z0_s, z0_s, z0_upd f k x n (by omega), upd_ne (by omega)]
theorem cl_nat {x : Int32} (h : 0 ≤ x.toInt) : (x.toNatClampNeg : Int) = x.toInt := by
  show ((x.toInt.toNat : Nat) : Int) = x.toInt
  omega
theorem cl_of {x : Int32} {n : Nat} (h : x.toInt = (n : Int)) : x.toNatClampNeg = n := by
  show x.toInt.toNat = n
  omega
def RLx (g : Gx) (G G' : Gh) : Prop := (∀ i, i ≠ 5 → i ≠ 6 → G'.1 i = G.1 i) ∧ (∀ b, b ≠ g.2.2 51 → G'.2.1 b = G.2.1 b) ∧ G'.2.2 = G.2.2
theorem RLx.rf {g : Gx} {G : Gh} : RLx g G G := ⟨fun _ _ _ => rfl, fun _ _ => rfl, rfl⟩
theorem RLx.tr {g : Gx} {A B C : Gh} (h : RLx g A B) (h2 : RLx g B C) : RLx g A C := ⟨fun i a b => (h2.1 i a b).trans (h.1 i a b), fun i a => (h2.2.1 i a).trans (h.2.1 i a), h2.2.2.trans h.2.2⟩
theorem RLx.g5 {g : Gx} {G : Gh} {x : Int32} : RLx g G (gset G 5 x) := ⟨fun _ a _ => gs_ne a, fun _ _ => rfl, rfl⟩
theorem RLx.g6 {g : Gx} {G : Gh} {x : Int32} : RLx g G (gset G 6 x) := ⟨fun _ _ a => gs_ne a, fun _ _ => rfl, rfl⟩
theorem RLx.a51 {g : Gx} {G : Gh} {f : Nat → Int32} : RLx g G (aset G (g.2.2 51) f) := ⟨fun _ _ _ => rfl, fun _ h => aset_ne h, rfl⟩
def RW (g : Gx) (G : Gh) : Prop := rgI 0 40 (G.1 5) ∧ rgI 0 4 (G.1 6) ∧ (G.1 6).toInt ≤ (z0 (G.2.1 (g.2.2 51)) (G.1 5).toNatClampNeg : Int)
def HoldR (g : Gx) (G G' : Gh) (x : Int32) : Prop := (G.1 5 < 40 ∧ G' = gset (aset G (g.2.2 51) (upd (G.2.1 (g.2.2 51)) (G.1 5).toNatClampNeg x)) 5 (G.1 5 + 1)) ∨ ((40 : Int32) ≤ G.1 5 ∧ G' = G)
def RelR (g : Gx) (G G' : Gh) (a : Int32) : Prop := ∃ w : Int32, 0 ≤ w.toInt ∧ w.toInt ≤ (G.1 5).toInt ∧ G' = gset G 5 w ∧ (1 ≤ a.toInt → z0 (G.2.1 (g.2.2 51)) w.toNatClampNeg = z0 (G.2.1 (g.2.2 51)) (G.1 5).toNatClampNeg)
def STEP (g : Gx) (G G' : Gh) : Prop := RLx g G G' ∧ RW g G' ∧ (G'.1 5).toInt ≤ (G.1 5).toInt + 1
theorem STEP.rf {g : Gx} {G : Gh} (h : RW g G) : STEP g G G := ⟨RLx.rf, h, by omega⟩
theorem hold_z {g : Gx} {G G' : Gh} {x : Int32} (h : HoldR g G G' x) (h0 : 0 ≤ (G.1 5).toInt) (h1 : (G.1 5).toInt ≤ 39) : (G'.1 5).toInt = (G.1 5).toInt + 1 ∧ G'.1 6 = G.1 6 ∧ RLx g G G' ∧ z0 (G'.2.1 (g.2.2 51)) (G'.1 5).toNatClampNeg = z0 (G.2.1 (g.2.2 51)) (G.1 5).toNatClampNeg + (if rk0 x then 1 else 0) := by
  rcases h with ⟨-, e⟩ | ⟨q, -⟩
  · subst e
    have e5 : (gset (aset G (g.2.2 51) (upd (G.2.1 (g.2.2 51)) (G.1 5).toNatClampNeg x)) 5 (G.1 5 + 1)).1 5 = G.1 5 + 1 := gs_eq
    have t5 : (G.1 5 + 1).toInt = (G.1 5).toInt + 1 := ti_add (y := 1) (by show _ ≤ (G.1 5).toInt + 1; omega) (by show (G.1 5).toInt + 1 ≤ _; omega)
    refine ⟨by rw [e5]; exact t5, gs_ne (by decide), RLx.tr RLx.a51 RLx.g5, ?_⟩
    rw [e5]
    show z0 ((aset G (g.2.2 51) (upd (G.2.1 (g.2.2 51)) (G.1 5).toNatClampNeg x)).2.1 (g.2.2 51)) _ = _
    rw [aset_eq]
    have hc : (G.1 5 + 1).toNatClampNeg = (G.1 5).toNatClampNeg + 1 := cl_of (by rw [t5]; have := cl_nat h0; omega)
    rw [hc, z0_s, z0_upd _ _ _ _ (Nat.le_refl _), upd_eq]
  · have := fz_le.mp q; have z : (40 : Int32).toInt = 40 := rfl; omega
theorem hold_step {g : Gx} {G G' : Gh} {x : Int32} (hW : RW g G) (h1 : (G.1 5).toInt ≤ 39) (h : HoldR g G G' x) : STEP g G G' := by
  obtain ⟨a, b, c, d⟩ := hold_z h hW.1.1 h1
  refine ⟨c, ⟨⟨by have := hW.1.1; omega, by omega⟩, by rw [b]; exact hW.2.1, ?_⟩, by omega⟩
  rw [b, d]
  have := hW.2.2
  omega
theorem open_step {g : Gx} {G G1 G2 : Gh} {x : Int32} (hW : RW g G) (h1 : (G.1 5).toInt ≤ 39) (hd : G.1 6 < 4) (e1 : G1 = gset G 6 x) (ex : x = G.1 6 + 1) (h : HoldR g G1 G2 40) : STEP g G G2 := by
  have hd := fz_lt.mp hd
  have z4 : (4 : Int32).toInt = 4 := rfl
  have e5 : G1.1 5 = G.1 5 := by rw [e1]; exact gs_ne (by decide)
  have e6 : G1.1 6 = x := by rw [e1]; exact gs_eq
  have ef : G1.2.1 (g.2.2 51) = G.2.1 (g.2.2 51) := by rw [e1]; rfl
  have l0 := hW.2.1.1
  have l5 := hW.1.1
  have t6 : x.toInt = (G.1 6).toInt + 1 := by rw [ex]; exact ti_add (y := 1) (by show _ ≤ (G.1 6).toInt + 1; omega) (by show (G.1 6).toInt + 1 ≤ _; omega)
  obtain ⟨a, b, c, d⟩ := hold_z h (by rw [e5]; omega) (by rw [e5]; exact h1)
  have hr : RLx g G G1 := by rw [e1]; exact RLx.g6
  rw [e5] at a d
  rw [ef] at d
  refine ⟨hr.tr c, ⟨⟨by omega, by omega⟩, by rw [b, e6]; exact ⟨by omega, by omega⟩, ?_⟩, by omega⟩
  rw [b, e6, d]
  have := hW.2.2
  rw [if_pos (by decide)]
  omega
theorem rel_step {g : Gx} {G G' : Gh} {a : Int32} (hW : RW g G) (ha : 1 ≤ a.toInt) (h : RelR g G G' a) : RLx g G G' ∧ RW g G' ∧ (G'.1 5).toInt ≤ (G.1 5).toInt := by
  obtain ⟨w, h1, h2, e, h3⟩ := h
  subst e
  have e5 : (gset G 5 w).1 5 = w := gs_eq
  have e6 : (gset G 5 w).1 6 = G.1 6 := gs_ne (by decide)
  refine ⟨RLx.g5, ⟨by rw [e5]; exact ⟨h1, by have := hW.1.2; omega⟩, by rw [e6]; exact hW.2.1, ?_⟩, by rw [e5]; exact h2⟩
  rw [e5, e6]
  show _ ≤ ((z0 (G.2.1 (g.2.2 51)) w.toNatClampNeg : Nat) : Int)
  rw [h3 ha]
  exact hW.2.2
theorem follow_step {g : Gx} {G G1 G2 : Gh} {a x : Int32} (hW : RW g G) (h1 : (G.1 5).toInt ≤ 39) (ha : 1 ≤ a.toInt) (h : RelR g G G1 a) (h2 : HoldR g G1 G2 x) : STEP g G G2 := by
  obtain ⟨r, w, l⟩ := rel_step hW ha h
  obtain ⟨r2, w2, l2⟩ := hold_step w (by omega) h2
  exact ⟨r.tr r2, w2, by omega⟩
theorem close_w {g : Gx} {G : Gh} (hW : RW g G) (hd : 1 ≤ (G.1 6).toInt) : 1 ≤ (G.1 5).toInt := by
  have h1 := hW.2.2
  have h2 := z0_le (G.2.1 (g.2.2 51)) (G.1 5).toNatClampNeg
  have h3 := cl_nat hW.1.1
  omega
theorem close_step {g : Gx} {G G1 G2 G3 : Gh} {x y : Int32} (hW : RW g G) (hne : ¬ G.1 6 = 0) (h : RelR g G G1 1) (e2 : G2 = gset G1 5 x) (ex : x = G1.1 5 - 1) (e3 : G3 = gset G2 6 y) (ey : y = G.1 6 - 1) : STEP g G G3 := by
  have hd : 1 ≤ (G.1 6).toInt := (rg_neL hW.2.1 rl_0 hne).1
  have k6 : G1.1 6 = G.1 6 := by obtain ⟨w, -, -, e, -⟩ := h; rw [e]; exact gs_ne (by decide)
  obtain ⟨r, w, l⟩ := rel_step hW (by decide) h
  have hd1 : 1 ≤ (G1.1 6).toInt := by rw [k6]; exact hd
  have h5 := close_w w hd1
  have u5 := w.1.2
  have u6 := w.2.1.2
  have tx : x.toInt = (G1.1 5).toInt - 1 := by rw [ex]; exact ti_sub (y := 1) (by show _ ≤ (G1.1 5).toInt - 1; omega) (by show (G1.1 5).toInt - 1 ≤ _; omega)
  have ty : y.toInt = (G1.1 6).toInt - 1 := by rw [ey, ← k6]; exact ti_sub (y := 1) (by show _ ≤ (G1.1 6).toInt - 1; omega) (by show (G1.1 6).toInt - 1 ≤ _; omega)
  have p5 : G3.1 5 = x := by rw [e3, gs_ne (by decide), e2]; exact gs_eq
  have p6 : G3.1 6 = y := by rw [e3]; exact gs_eq
  have pf : G3.2.1 (g.2.2 51) = G1.2.1 (g.2.2 51) := by rw [e3, e2]; rfl
  have r3 : RLx g G G3 := r.tr (RLx.tr (B := G2) (by rw [e2]; exact RLx.g5) (by rw [e3]; exact RLx.g6))
  refine ⟨r3, ⟨by rw [p5]; exact ⟨by omega, by omega⟩, by rw [p6]; exact ⟨by omega, by omega⟩, ?_⟩, by rw [p5]; omega⟩
  rw [p5, p6, pf]
  have hz := w.2.2
  have hc : (G1.1 5).toNatClampNeg = x.toNatClampNeg + 1 := cl_of (by have := cl_nat (x := x) (by omega); omega)
  rw [hc, z0_s] at hz
  split at hz <;> omega
/-- one more is let go -/
theorem rel_more {g : Gx} {G GL G' : Gh} {a x v : Int32} {r : Int32} (hL : RelR g G GL a) (h1 : (0 : Int32) < GL.1 5) (h4 : (GL.1 5).toInt ≤ 40) (ex : x = GL.1 5 - 1) (hr : rk0 (GL.2.1 (g.2.2 51) v.toNatClampNeg) = true → r = 0) (ev : v = GL.1 5 - 1) (hra : a ≤ r) (e : G' = gset GL 5 x) : RelR g G G' a := by
  have h1 := fz_lt.mp h1
  have z00 : (0 : Int32).toInt = 0 := rfl
  obtain ⟨w, h2, h3, e0, hz⟩ := hL
  have g5 : GL.1 5 = w := by rw [e0]; exact gs_eq
  have gf : GL.2.1 (g.2.2 51) = G.2.1 (g.2.2 51) := by rw [e0]; rfl
  have tx : x.toInt = (GL.1 5).toInt - 1 := by rw [ex]; exact ti_sub (y := 1) (by show _ ≤ (GL.1 5).toInt - 1; omega) (by show (GL.1 5).toInt - 1 ≤ _; omega)
  have vx : v = x := by rw [ev, ex]
  refine ⟨x, by omega, by rw [g5] at tx; omega, by rw [e, e0]; exact gs_gs, fun ha => ?_⟩
  rw [← hz ha]
  have hc : w.toNatClampNeg = x.toNatClampNeg + 1 := cl_of (by rw [← g5]; have := cl_nat (x := x) (by omega); omega)
  rw [hc, z0_s]
  have hk : rk0 (G.2.1 (g.2.2 51) x.toNatClampNeg) = false := by
    rw [gf, vx] at hr
    cases hq : rk0 (G.2.1 (g.2.2 51) x.toNatClampNeg) with
    | false => rfl
    | true =>
      have := hr hq
      rw [this] at hra
      have := fz_le.mp hra
      have z : (0 : Int32).toInt = 0 := rfl
      omega
  rw [hk]
  rfl
theorem RelR.keep {g : Gx} {G G' : Gh} {a : Int32} {i : Nat} (h : RelR g G G' a) (hi : i ≠ 5) : G'.1 i = G.1 i := by
  obtain ⟨w, -, -, e, -⟩ := h
  rw [e]; exact gs_ne hi
theorem RelR.rf {g : Gx} {G : Gh} {a : Int32} (h : rgI 0 40 (G.1 5)) : RelR g G G a := ⟨G.1 5, h.1, Int.le_refl _, (gs_id rfl).symm, fun _ => rfl⟩
theorem STEP.w5 {g : Gx} {G G' : Gh} (h : STEP g G G') : RW g G' := h.2.1
theorem RelR.w5 {g : Gx} {G G' : Gh} {a : Int32} (h : RelR g G G' a) (hw : rgI 0 40 (G.1 5)) : rgI 0 40 (G'.1 5) := by
  obtain ⟨w, h1, h2, e, -⟩ := h
  rw [e, gs_eq]
  exact ⟨h1, Int.le_trans h2 hw.2⟩
