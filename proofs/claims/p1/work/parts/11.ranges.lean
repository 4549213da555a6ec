/-! ===== ranges ===== -/
theorem rg_top (x : Int32) : rgI (-2147483648) 2147483647 x := ⟨Int32.le_toInt x, Int.le_of_lt_add_one (Int32.toInt_lt x)⟩
theorem fz_lt {a b : Int32} : a < b ↔ a.toInt < b.toInt := Int32.lt_iff_toInt_lt
theorem fz_le {a b : Int32} : a ≤ b ↔ a.toInt ≤ b.toInt := Int32.le_iff_toInt_le
theorem rg_w {a b a2 b2 : Int} {x : Int32} (h : rgI a b x) (h1 : a2 ≤ a) (h2 : b ≤ b2) : rgI a2 b2 x := ⟨Int.le_trans h1 h.1, Int.le_trans h.2 h2⟩
theorem rg_ltL {a b c d : Int} {x y : Int32} (hx : rgI a b x) (hy : rgI c d y) (h : x < y) : rgI a (d - 1) x := by
  have := fz_lt.mp h; have h1 := hx.1; have h2 := hy.2; constructor <;> omega
theorem rg_ltR {a b c d : Int} {x y : Int32} (hx : rgI a b x) (hy : rgI c d y) (h : x < y) : rgI (a + 1) d y := by
  have := fz_lt.mp h; have h1 := hx.1; have h2 := hy.2; constructor <;> omega
theorem rg_leL {a b c d : Int} {x y : Int32} (hx : rgI a b x) (hy : rgI c d y) (h : x ≤ y) : rgI a d x := by
  have := fz_le.mp h; have h1 := hx.1; have h2 := hy.2; constructor <;> omega
theorem rg_leR {a b c d : Int} {x y : Int32} (hx : rgI a b x) (hy : rgI c d y) (h : x ≤ y) : rgI a d y := by
  have := fz_le.mp h; have h1 := hx.1; have h2 := hy.2; constructor <;> omega
theorem nlt_le {x y : Int32} (h : ¬ x < y) : y ≤ x := fz_le.mpr (Int.not_lt.mp fun q => h (fz_lt.mpr q))
theorem nle_lt {x y : Int32} (h : ¬ x ≤ y) : y < x := fz_lt.mpr (Int.not_le.mp fun q => h (fz_le.mpr q))
theorem rg_eq {c d : Int} {x y : Int32} (hy : rgI c d y) (h : x = y) : rgI c d x := by rw [h]; exact hy
theorem rg_neL {b : Int} {x y : Int32} {a : Int} (hx : rgI a b x) (hy : rgI a a y) (h : ¬ x = y) : rgI (a + 1) b x := by
  have h1 := hx.1; have h2 := hx.2; have h3 := hy.1; have h4 := hy.2
  have : x.toInt ≠ y.toInt := fun q => h (Int32.toInt_inj.mp q)
  constructor <;> omega
theorem rg_neR {a : Int} {x y : Int32} {b : Int} (hx : rgI a b x) (hy : rgI b b y) (h : ¬ x = y) : rgI a (b - 1) x := by
  have h1 := hx.1; have h2 := hx.2; have h3 := hy.1; have h4 := hy.2
  have : x.toInt ≠ y.toInt := fun q => h (Int32.toInt_inj.mp q)
  constructor <;> omega
theorem bm_id {z : Int} (h1 : -2147483648 ≤ z) (h2 : z ≤ 2147483647) : z.bmod (2 ^ 32) = z := Int.bmod_eq_of_le (by omega) (by omega)
theorem ti_add {x y : Int32} (h1 : -2147483648 ≤ x.toInt + y.toInt) (h2 : x.toInt + y.toInt ≤ 2147483647) : (x + y).toInt = x.toInt + y.toInt := by rw [Int32.toInt_add]; exact bm_id h1 h2
theorem ti_sub {x y : Int32} (h1 : -2147483648 ≤ x.toInt - y.toInt) (h2 : x.toInt - y.toInt ≤ 2147483647) : (x - y).toInt = x.toInt - y.toInt := by rw [Int32.toInt_sub]; exact bm_id h1 h2
theorem ti_mul {x y : Int32} (h1 : -2147483648 ≤ x.toInt * y.toInt) (h2 : x.toInt * y.toInt ≤ 2147483647) : (x * y).toInt = x.toInt * y.toInt := by rw [Int32.toInt_mul]; exact bm_id h1 h2
theorem rg_add {a b c d : Int} {x y : Int32} (hx : rgI a b x) (hy : rgI c d y) (h1 : -2147483648 ≤ a + c) (h2 : b + d ≤ 2147483647) : rgI (a + c) (b + d) (x + y) := by
  have e1 := hx.1; have e2 := hx.2; have e3 := hy.1; have e4 := hy.2
  have := ti_add (x := x) (y := y) (by omega) (by omega)
  constructor <;> omega
theorem rg_sub {a b c d : Int} {x y : Int32} (hx : rgI a b x) (hy : rgI c d y) (h1 : -2147483648 ≤ a - d) (h2 : b - c ≤ 2147483647) : rgI (a - d) (b - c) (x - y) := by
  have e1 := hx.1; have e2 := hx.2; have e3 := hy.1; have e4 := hy.2
  have := ti_sub (x := x) (y := y) (by omega) (by omega)
  constructor <;> omega
theorem rg_addE {a b c : Int} {x y : Int32} (hx : rgI a b x) (hy : rgI c c y) (h1 : -2147483648 ≤ a + c) (h2 : b + c ≤ 2147483647) : (x + y).toInt = x.toInt + c := by
  have e1 := hx.1; have e2 := hx.2; have e3 := hy.1; have e4 := hy.2
  have := ti_add (x := x) (y := y) (by omega) (by omega)
  omega
theorem rg_in {n : Nat} {a b : Int} {x : Int32} (h : rgI a b x) (ha : 0 ≤ a) (hb : b < (n : Int)) : vp_in x n := vp_in_iff.mpr ⟨Int.le_trans ha h.1, Int.lt_of_le_of_lt h.2 hb⟩
theorem rg_no {a b c d : Int} {x y : Int32} {P : Prop} (hx : rgI a b x) (hy : rgI c d y) (h : x < y) (q : d ≤ a) : P := by
  have := fz_lt.mp h; have h1 := hx.1; have h2 := hy.2; omega
theorem rg_no2 {a b c d : Int} {x y : Int32} {P : Prop} (hx : rgI a b x) (hy : rgI c d y) (h : x ≤ y) (q : d < a) : P := by
  have := fz_le.mp h; have h1 := hx.1; have h2 := hy.2; omega
theorem rg_noE {a b c d : Int} {x y : Int32} {P : Prop} (hx : rgI a b x) (hy : rgI c d y) (h : x = y) (q : d < a ∨ b < c) : P := by
  have h1 := hx.1; have h2 := hy.2; have h3 := hx.2; have h4 := hy.1; rw [h] at h1 h3; omega
theorem rg_ne0 {a b : Int} {x : Int32} (hx : rgI a b x) (q : 0 < a ∨ b < 0) : ¬ x = 0 := by
  intro h; have h1 := hx.1; have h2 := hx.2; rw [h] at h1 h2; have : (0 : Int32).toInt = 0 := rfl; omega
