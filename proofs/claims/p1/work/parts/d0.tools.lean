/-! ===== p1: tuples told to a function; what the new parts lean on ===== -/
abbrev tu1 {A0 : Type} {R : Type} (x : A0) (k : A0 → R) : R := k x
theorem tu1_eq {A0 : Type} {R : Type} {a0 : A0} {k : A0 → R} : tu1 a0 k = k a0 := rfl
abbrev tu2 {A0 : Type} {A1 : Type} {R : Type} (x : A0 × A1) (k : A0 → A1 → R) : R := k x.1 x.2
theorem tu2_eq {A0 : Type} {A1 : Type} {R : Type} {a0 : A0} {a1 : A1} {k : A0 → A1 → R} : tu2 (a0, a1) k = k a0 a1 := rfl
abbrev tu3 {A0 : Type} {A1 : Type} {A2 : Type} {R : Type} (x : A0 × A1 × A2) (k : A0 → A1 → A2 → R) : R := k x.1 x.2.1 x.2.2
theorem tu3_eq {A0 : Type} {A1 : Type} {A2 : Type} {R : Type} {a0 : A0} {a1 : A1} {a2 : A2} {k : A0 → A1 → A2 → R} : tu3 (a0, a1, a2) k = k a0 a1 a2 := rfl
abbrev tu4 {A0 : Type} {A1 : Type} {A2 : Type} {A3 : Type} {R : Type} (x : A0 × A1 × A2 × A3) (k : A0 → A1 → A2 → A3 → R) : R := k x.1 x.2.1 x.2.2.1 x.2.2.2
theorem tu4_eq {A0 : Type} {A1 : Type} {A2 : Type} {A3 : Type} {R : Type} {a0 : A0} {a1 : A1} {a2 : A2} {a3 : A3} {k : A0 → A1 → A2 → A3 → R} : tu4 (a0, a1, a2, a3) k = k a0 a1 a2 a3 := rfl
abbrev tu5 {A0 : Type} {A1 : Type} {A2 : Type} {A3 : Type} {A4 : Type} {R : Type} (x : A0 × A1 × A2 × A3 × A4) (k : A0 → A1 → A2 → A3 → A4 → R) : R := k x.1 x.2.1 x.2.2.1 x.2.2.2.1 x.2.2.2.2
theorem tu5_eq {A0 : Type} {A1 : Type} {A2 : Type} {A3 : Type} {A4 : Type} {R : Type} {a0 : A0} {a1 : A1} {a2 : A2} {a3 : A3} {a4 : A4} {k : A0 → A1 → A2 → A3 → A4 → R} : tu5 (a0, a1, a2, a3, a4) k = k a0 a1 a2 a3 a4 := rfl
abbrev tu6 {A0 : Type} {A1 : Type} {A2 : Type} {A3 : Type} {A4 : Type} {A5 : Type} {R : Type} (x : A0 × A1 × A2 × A3 × A4 × A5) (k : A0 → A1 → A2 → A3 → A4 → A5 → R) : R := k x.1 x.2.1 x.2.2.1 x.2.2.2.1 x.2.2.2.2.1 x.2.2.2.2.2
theorem tu6_eq {A0 : Type} {A1 : Type} {A2 : Type} {A3 : Type} {A4 : Type} {A5 : Type} {R : Type} {a0 : A0} {a1 : A1} {a2 : A2} {a3 : A3} {a4 : A4} {a5 : A5} {k : A0 → A1 → A2 → A3 → A4 → A5 → R} : tu6 (a0, a1, a2, a3, a4, a5) k = k a0 a1 a2 a3 a4 a5 := rfl
abbrev tu7 {A0 : Type} {A1 : Type} {A2 : Type} {A3 : Type} {A4 : Type} {A5 : Type} {A6 : Type} {R : Type} (x : A0 × A1 × A2 × A3 × A4 × A5 × A6) (k : A0 → A1 → A2 → A3 → A4 → A5 → A6 → R) : R := k x.1 x.2.1 x.2.2.1 x.2.2.2.1 x.2.2.2.2.1 x.2.2.2.2.2.1 x.2.2.2.2.2.2
theorem tu7_eq {A0 : Type} {A1 : Type} {A2 : Type} {A3 : Type} {A4 : Type} {A5 : Type} {A6 : Type} {R : Type} {a0 : A0} {a1 : A1} {a2 : A2} {a3 : A3} {a4 : A4} {a5 : A5} {a6 : A6} {k : A0 → A1 → A2 → A3 → A4 → A5 → A6 → R} : tu7 (a0, a1, a2, a3, a4, a5, a6) k = k a0 a1 a2 a3 a4 a5 a6 := rfl
abbrev tu8 {A0 : Type} {A1 : Type} {A2 : Type} {A3 : Type} {A4 : Type} {A5 : Type} {A6 : Type} {A7 : Type} {R : Type} (x : A0 × A1 × A2 × A3 × A4 × A5 × A6 × A7) (k : A0 → A1 → A2 → A3 → A4 → A5 → A6 → A7 → R) : R := k x.1 x.2.1 x.2.2.1 x.2.2.2.1 x.2.2.2.2.1 x.2.2.2.2.2.1 x.2.2.2.2.2.2.1 x.2.2.2.2.2.2.2
theorem tu8_eq {A0 : Type} {A1 : Type} {A2 : Type} {A3 : Type} {A4 : Type} {A5 : Type} {A6 : Type} {A7 : Type} {R : Type} {a0 : A0} {a1 : A1} {a2 : A2} {a3 : A3} {a4 : A4} {a5 : A5} {a6 : A6} {a7 : A7} {k : A0 → A1 → A2 → A3 → A4 → A5 → A6 → A7 → R} : tu8 (a0, a1, a2, a3, a4, a5, a6, a7) k = k a0 a1 a2 a3 a4 a5 a6 a7 := rfl
abbrev tu9 {A0 : Type} {A1 : Type} {A2 : Type} {A3 : Type} {A4 : Type} {A5 : Type} {A6 : Type} {A7 : Type} {A8 : Type} {R : Type} (x : A0 × A1 × A2 × A3 × A4 × A5 × A6 × A7 × A8) (k : A0 → A1 → A2 → A3 → A4 → A5 → A6 → A7 → A8 → R) : R := k x.1 x.2.1 x.2.2.1 x.2.2.2.1 x.2.2.2.2.1 x.2.2.2.2.2.1 x.2.2.2.2.2.2.1 x.2.2.2.2.2.2.2.1 x.2.2.2.2.2.2.2.2
theorem tu9_eq {A0 : Type} {A1 : Type} {A2 : Type} {A3 : Type} {A4 : Type} {A5 : Type} {A6 : Type} {A7 : Type} {A8 : Type} {R : Type} {a0 : A0} {a1 : A1} {a2 : A2} {a3 : A3} {a4 : A4} {a5 : A5} {a6 : A6} {a7 : A7} {a8 : A8} {k : A0 → A1 → A2 → A3 → A4 → A5 → A6 → A7 → A8 → R} : tu9 (a0, a1, a2, a3, a4, a5, a6, a7, a8) k = k a0 a1 a2 a3 a4 a5 a6 a7 a8 := rfl
abbrev tu10 {A0 : Type} {A1 : Type} {A2 : Type} {A3 : Type} {A4 : Type} {A5 : Type} {A6 : Type} {A7 : Type} {A8 : Type} {A9 : Type} {R : Type} (x : A0 × A1 × A2 × A3 × A4 × A5 × A6 × A7 × A8 × A9) (k : A0 → A1 → A2 → A3 → A4 → A5 → A6 → A7 → A8 → A9 → R) : R := k x.1 x.2.1 x.2.2.1 x.2.2.2.1 x.2.2.2.2.1 x.2.2.2.2.2.1 x.2.2.2.2.2.2.1 x.2.2.2.2.2.2.2.1 x.2.2.2.2.2.2.2.2.1 x.2.2.2.2.2.2.2.2.2
theorem tu10_eq {A0 : Type} {A1 : Type} {A2 : Type} {A3 : Type} {A4 : Type} {A5 : Type} {A6 : Type} {A7 : Type} {A8 : Type} {A9 : Type} {R : Type} {a0 : A0} {a1 : A1} {a2 : A2} {a3 : A3} {a4 : A4} {a5 : A5} {a6 : A6} {a7 : A7} {a8 : A8} {a9 : A9} {k : A0 → A1 → A2 → A3 → A4 → A5 → A6 → A7 → A8 → A9 → R} : tu10 (a0, a1, a2, a3, a4, a5, a6, a7, a8, a9) k = k a0 a1 a2 a3 a4 a5 a6 a7 a8 a9 := rfl
abbrev tu11 {A0 : Type} {A1 : Type} {A2 : Type} {A3 : Type} {A4 : Type} {A5 : Type} {A6 : Type} {A7 : Type} {A8 : Type} {A9 : Type} {A10 : Type} {R : Type} (x : A0 × A1 × A2 × A3 × A4 × A5 × A6 × A7 × A8 × A9 × A10) (k : A0 → A1 → A2 → A3 → A4 → A5 → A6 → A7 → A8 → A9 → A10 → R) : R := k x.1 x.2.1 x.2.2.1 x.2.2.2.1 x.2.2.2.2.1 x.2.2.2.2.2.1 x.2.2.2.2.2.2.1 x.2.2.2.2.2.2.2.1 x.2.2.2.2.2.2.2.2.1 x.2.2.2.2.2.2.2.2.2.1 x.2.2.2.2.2.2.2.2.2.2
theorem tu11_eq {A0 : Type} {A1 : Type} {A2 : Type} {A3 : Type} {A4 : Type} {A5 : Type} {A6 : Type} {A7 : Type} {A8 : Type} {A9 : Type} {A10 : Type} {R : Type} {a0 : A0} {a1 : A1} {a2 : A2} {a3 : A3} {a4 : A4} {a5 : A5} {a6 : A6} {a7 : A7} {a8 : A8} {a9 : A9} {a10 : A10} {k : A0 → A1 → A2 → A3 → A4 → A5 → A6 → A7 → A8 → A9 → A10 → R} : tu11 (a0, a1, a2, a3, a4, a5, a6, a7, a8, a9, a10) k = k a0 a1 a2 a3 a4 a5 a6 a7 a8 a9 a10 := rfl
/-- the places of the class's rows and of the reference's are apart -/
def LD1 (g : Gx) : Prop := ∀ i, i ∈ ([51, 52, 53, 54, 70, 71, 72, 73, 74, 100, 101, 103, 115, 116, 121, 123, 124, 125, 126, 129, 130, 131, 132, 134, 135, 136, 138, 140, 141, 111, 112] : List Nat) → ∀ j, j ∈ ([51, 52, 53, 54, 70, 71, 72, 73, 74, 100, 101, 103, 115, 116, 121, 123, 124, 125, 126, 129, 130, 131, 132, 134, 135, 136, 138, 140, 141, 111, 112] : List Nat) → i ≠ j → g.2.2 i ≠ g.2.2 j
/-- places at first: nowhere -/
def P0 : Nat → Int32 := fun j => if j < 24 then -1 else 0
abbrev Z0 : Nat → Int32 := fun _ => 0
theorem P0_m {j : Nat} (h : j < 24) : P0 j = -1 := by unfold P0; rw [if_pos h]
theorem NWk_P0 {f : Nat → Int32} {k : Int32} (h : NWk f k.toNatClampNeg) (hk : rgI 24 24 k) : f = P0 := by
  have e : k.toNatClampNeg = 24 := cl_of (by have := hk.1; have := hk.2; omega)
  funext j
  rw [h j, e]
  rfl
theorem rg_one {n : Int} {x y : Int32} (hx : rgI n n x) (hy : rgI n n y) : x = y := Int32.toInt_inj.mp (by have := hx.1; have := hx.2; have := hy.1; have := hy.2; omega)
theorem rg_of0 {x : Int32} (h : x = 0) : rgI 0 0 x := by rw [h]; exact ⟨by decide, by decide⟩
theorem RLx_fr {g : Gx} {G G1 : Gh} (h : RLx g G G1) : FR [5, 6] [(g.2.2 51)] [] G G1 :=
  ⟨fun i hi => h.1 i (fun q => hi (by rw [q]; exact List.mem_cons_self)) (fun q => hi (by rw [q]; exact List.mem_cons_of_mem _ List.mem_cons_self)), fun b hb => h.2.1 b hb.1, fun i _ => by rw [h.2.2]⟩
def LYF (f0 f1 : Nat → Int32) (k : Nat) : Nat → Int32 := fun j => if k ≤ j ∧ j < k + 122 then f0 (j - k) else f1 j
theorem LYF_eq {f0 fb fl : Nat → Int32} {k : Nat} (h : LYk f0 fb fl k 122) : fl = LYF f0 fb k := funext h
theorem kp_no {G : Gh} {x : Int32} (h3 : G.1 3 = 0) (h4 : G.1 4 = 0) : ¬ kp G x := by
  rintro (⟨_, q⟩ | ⟨_, q⟩)
  · rw [h3] at q; exact absurd q (by decide)
  · rw [h4] at q; exact absurd q (by decide)
theorem and_z0 {x y : Int32} (h : rgI 0 0 x) : rgI 0 0 (x &&& y) := by
  rw [rg_is (n := 0) (y := 0) h rfl, show (0 : Int32) &&& y = 0 from b_ext (fun i _ => by rw [b_and, b_0]; rfl)]
  exact ⟨by decide, by decide⟩
theorem pb_one {v a b c n s L m : Int32} (ev : v = a ||| b) (ea : a = c &&& n) (ec : c = s &&& L) (eb : b = 1 <<< (m &&& 31)) (hs : rgI 1 1 s) (hm : rgI 0 0 m) : rgI 1 1 v := by
  have s1 : s = 1 := rg_is (n := 1) hs rfl
  have m0 : m = 0 := rg_is (n := 0) hm rfl
  subst s1 m0
  have b1 : b = 1 := by rw [eb]; decide
  have : v = 1 := by
    rw [ev, ea, ec, b1]
    refine b_ext (fun i hi => ?_)
    have t : ∀ j, j < 32 → bt 1 j = decide (j = 0) := by decide +kernel
    rw [b_or, b_and, b_and, t i hi]
    cases decide (i = 0) <;> simp
  rw [this]; exact ⟨by decide, by decide⟩
theorem ct_and0 {x b w c : Int32} (e : x = w &&& b) (eb : b = 1 <<< (c &&& 31)) (hw : rgI 1 1 w) (hc : c = 1) : rgI 0 0 x := by
  have w1 : w = 1 := rg_is (n := 1) hw rfl
  subst w1 hc
  rw [e, eb]
  exact ⟨by decide, by decide⟩
