/-! ===== years (7: forty acts) ===== -/
theorem draw_eq {x : Int32} {k : Int32} (hk : ¬ k ≤ 0) : F_X11_draw x k = F_X12_draw_x x k := by
  unfold F_X11_draw F_X12_draw_x
  rw [if_neg hk]
theorem draw_6 (x : Int32) : rgI 0 5 (F_X12_draw_x x 6).1 := by
  have e : tn ((Int32.toUInt32 ((x * (1103515245 : Int32)) + (12345 : Int32)) >>> (Int32.toUInt32 (16 : Int32) &&& Int32.toUInt32 31)).toInt32) < 16777216 := by
    rw [tn_us _ 16 16 (by decide)]
    have := tn_lt ((x * (1103515245 : Int32)) + (12345 : Int32))
    omega
  have nn := fz_le.mp (tn_nn e)
  have z : (0 : Int32).toInt = 0 := rfl
  have z6 : (6 : Int32).toInt = 6 := rfl
  exact rg_rem (c := 6) ⟨nn, (rg_top _).2⟩ ⟨by omega, by omega⟩ (by omega) (by decide)
/-- both lists of what is left behind agree in who is where -/
def YR (A : Int32 × (Nat → Int32) × (Nat → Int32) × (Nat → Int32) × (Nat → Int32) × Int32 × Int32 × Int32 × Int32 × Int32) (B : (Nat → Int32) × (Nat → Int32) × (Nat → Int32) × Int32 × Int32) : Prop :=
  ∃ (y' : Int32) (p' q' m' h3' : Nat → Int32) (t' u' m22' n' x' : Int32) (f' r3' r4' : Nat → Int32) (c27' x2' : Int32), A = (y', p', q', m', h3', t', u', m22', n', x') ∧ B = (f', r3', r4', c27', x2') ∧ RV p' q' m' t' u' n' f'
theorem years_loop (rl r0 : Nat → Int32) (a : Int32) (hle : a.toInt ≤ 40) : ∀ (j c nn n2 : Nat) (p q m h3 f r3 r4 : Nat → Int32) (y3 t u m22 n x c27 : Int32), c ≤ 40 → 40 - c = j → j < nn → j < n2 → RV p q m t u n f → 1 ≤ n.toInt → n.toInt ≤ 1 + (c : Int) →
    YR (F_X11_years_23 nn a y3 (nI c) p q m h3 t u m22 n x) (F_X12_years_x_36 n2 a (nI c) r0 rl f r3 r4 0 c27 x) := by
  intro j
  induction j with
  | zero =>
    intro c nn n2 p q m h3 f r3 r4 y3 t u m22 n x c27 hc hj h1 h2 hR hn1 hn2
    obtain ⟨nn, rfl⟩ : ∃ z, nn = z + 1 := ⟨nn - 1, by omega⟩
    obtain ⟨n2, rfl⟩ : ∃ z, n2 = z + 1 := ⟨n2 - 1, by omega⟩
    have e : a ≤ nI c := fz_le.mpr (by rw [nI_toInt (by omega)]; omega)
    rw [F_X11_years_23, F_X12_years_x_36, if_pos e, if_pos e]
    exact ⟨y3, p, q, m, h3, t, u, m22, n, x, f, r3, r4, c27, x, rfl, rfl, hR⟩
  | succ j ih =>
    intro c nn n2 p q m h3 f r3 r4 y3 t u m22 n x c27 hc hj h1 h2 hR hn1 hn2
    obtain ⟨nn, rfl⟩ : ∃ z, nn = z + 1 := ⟨nn - 1, by omega⟩
    obtain ⟨n2, rfl⟩ : ∃ z, n2 = z + 1 := ⟨n2 - 1, by omega⟩
    by_cases e : a ≤ nI c
    · rw [F_X11_years_23, F_X12_years_x_36, if_pos e, if_pos e]
      exact ⟨y3, p, q, m, h3, t, u, m22, n, x, f, r3, r4, c27, x, rfl, rfl, hR⟩
    · have hn0 : ¬ n = 0 := fun w => by
        rw [w] at hn1
        exact absurd hn1 (by decide)
      have step : ∀ (p q m h3 f r3 r4 : Nat → Int32) (y3 t u m22 n' x c27 : Int32), RV p q m t u n' f → (n' = n ∨ n' = n + 1) →
          YR (F_X11_years_23 nn a y3 (nI (c + 1)) p q m h3 t u m22 n' x) (F_X12_years_x_36 n2 a (nI (c + 1)) r0 rl f r3 r4 0 c27 x) := fun p q m h3 f r3 r4 y3 t u m22 n' x c27 hR' hn' => by
        have z1 : (1 : Int32).toInt = 1 := rfl
        have bn : 1 ≤ n'.toInt ∧ n'.toInt ≤ 1 + ((c + 1 : Nat) : Int) := by
          rcases hn' with w | w
          · rw [w]; exact ⟨hn1, by omega⟩
          · rw [w, ti_add (by rw [z1]; omega) (by rw [z1]; omega), z1]; exact ⟨by omega, by omega⟩
        exact ih (c + 1) nn n2 p q m h3 f r3 r4 y3 t u m22 n' x c27 (by omega) (by omega) (by omega) (by omega) hR' bn.1 bn.2
      obtain ⟨d1, x1, e1⟩ : ∃ d1 x1, F_X12_draw_x x 6 = (d1, x1) := ⟨(F_X12_draw_x x 6).1, (F_X12_draw_x x 6).2, rfl⟩
      obtain ⟨d2, x2, e2⟩ : ∃ d2 x2, F_X12_draw_x x1 24 = (d2, x2) := ⟨(F_X12_draw_x x1 24).1, (F_X12_draw_x x1 24).2, rfl⟩
      obtain ⟨d3, x3, e3⟩ : ∃ d3 x3, F_X12_draw_x x2 4 = (d3, x3) := ⟨(F_X12_draw_x x2 4).1, (F_X12_draw_x x2 4).2, rfl⟩
      have r1 : rgI 0 5 d1 := by
        have := draw_6 x
        rw [e1] at this
        exact this
      have k1 : F_X11_draw x 6 = (d1, x1) := (draw_eq (by decide)).trans e1
      have k2 : F_X11_draw x1 24 = (d2, x2) := (draw_eq (by decide)).trans e2
      have k3 : F_X11_draw x2 4 = (d3, x3) := (draw_eq (by decide)).trans e3
      rw [F_X11_years_23, F_X12_years_x_36, if_neg e, if_neg e, nI_s, k1, e1, tu2_eq (a0 := d1) (a1 := x1), tu2_eq (a0 := d1) (a1 := x1), k2, e2, tu2_eq (a0 := d2) (a1 := x2), tu2_eq (a0 := d2) (a1 := x2), k3, e3, tu2_eq (a0 := d3) (a1 := x3), tu2_eq (a0 := d3) (a1 := x3)]
      by_cases c3 : (3 : Int32) ≤ d1
      · rw [if_pos c3, if_pos c3]
        by_cases c33 : d1 = 3
        · have n5 : ¬ d1 = 5 := by rw [c33]; decide
          have n4 : ¬ d1 = 4 := by rw [c33]; decide
          obtain ⟨r, q', m22', n', em, hn', hm⟩ := hR.makes m22 d2
          rw [if_pos c33, if_pos c33, em, tu6_eq]
          rcases hm with ⟨hm, hR'⟩ | ⟨hm, hR'⟩
          · rw [if_pos hm, tu1_eq, if_neg n5, if_neg n4]
            by_cases hr : r < 0
            · rw [if_pos hr]; exact step _ _ _ _ _ _ _ _ _ _ _ _ _ _ hR' hn'
            · rw [if_neg hr]; exact step _ _ _ _ _ _ _ _ _ _ _ _ _ _ hR' hn'
          · rw [if_neg hm, if_neg n5, if_neg n4]
            by_cases hr : r < 0
            · rw [if_pos hr]; exact step _ _ _ _ _ _ _ _ _ _ _ _ _ _ hR' hn'
            · rw [if_neg hr]; exact step _ _ _ _ _ _ _ _ _ _ _ _ _ _ hR' hn'
        · rw [if_neg c33, if_neg c33]
          by_cases c34 : d1 = 4
          · have n5 : ¬ d1 = 5 := by rw [c34]; decide
            obtain ⟨o, x4, e4⟩ : ∃ o x4, F_X12_draw_x x3 24 = (o, x4) := ⟨(F_X12_draw_x x3 24).1, (F_X12_draw_x x3 24).2, rfl⟩
            have k4 : F_X11_draw x3 24 = (o, x4) := (draw_eq (by decide)).trans e4
            obtain ⟨r, p', q', m', h3', t', m22', n', em, hn', hm⟩ := hR.binds hn0 rl r3 r4 h3 c27 m22 o d2 d3
            rw [if_pos c34, k4, tu2_eq (a0 := o) (a1 := x4), em, tu8_eq, if_neg n5, if_pos c34, e4, tu2_eq (a0 := o) (a1 := x4)]
            rcases hm with ⟨hm, r', f', r2', r3', c', eg, hR'⟩ | ⟨hm, hR'⟩
            · rw [if_pos hm, eg, tu5_eq]
              by_cases hr : r < 0
              · rw [if_pos hr]; exact step _ _ _ _ _ _ _ _ _ _ _ _ _ _ hR' hn'
              · rw [if_neg hr]; exact step _ _ _ _ _ _ _ _ _ _ _ _ _ _ hR' hn'
            · rw [if_neg hm]
              by_cases hr : r < 0
              · rw [if_pos hr]; exact step _ _ _ _ _ _ _ _ _ _ _ _ _ _ hR' hn'
              · rw [if_neg hr]; exact step _ _ _ _ _ _ _ _ _ _ _ _ _ _ hR' hn'
          · have c35 : d1 = 5 := by
              have z3 : (3 : Int32).toInt = 3 := rfl
              have z4 : (4 : Int32).toInt = 4 := rfl
              have z5 : (5 : Int32).toInt = 5 := rfl
              have l3 := fz_le.mp c3
              have u5 := r1.2
              have a3 : ¬ d1.toInt = 3 := fun w => c33 (Int32.toInt_inj.mp (by omega))
              have a4 : ¬ d1.toInt = 4 := fun w => c34 (Int32.toInt_inj.mp (by omega))
              exact Int32.toInt_inj.mp (by omega)
            obtain ⟨r, p', q', m', t', m22', em, hm⟩ := hR.unmounts rl m22 d2 d3
            rw [if_neg c34, em, tu7_eq, if_pos c35]
            rcases hm with ⟨hm, r', f', eg, hR'⟩ | ⟨hm, hR'⟩
            · rw [if_pos hm, eg, tu2_eq (a0 := r') (a1 := f'), if_neg c34]
              by_cases hr : r < 0
              · rw [if_pos hr]; exact step _ _ _ _ _ _ _ _ _ _ _ _ _ _ hR' (Or.inl rfl)
              · rw [if_neg hr]; exact step _ _ _ _ _ _ _ _ _ _ _ _ _ _ hR' (Or.inl rfl)
            · rw [if_neg hm, if_neg c34]
              by_cases hr : r < 0
              · rw [if_pos hr]; exact step _ _ _ _ _ _ _ _ _ _ _ _ _ _ hR' (Or.inl rfl)
              · rw [if_neg hr]; exact step _ _ _ _ _ _ _ _ _ _ _ _ _ _ hR' (Or.inl rfl)
      · have n3 : ¬ d1 = 3 := fun w => c3 (by rw [w]; decide)
        have n4 : ¬ d1 = 4 := fun w => c3 (by rw [w]; decide)
        have n5 : ¬ d1 = 5 := fun w => c3 (by rw [w]; decide)
        obtain ⟨r, p', q', m', h3', t', m22', n', em, hn', hm⟩ := hR.mounts hn0 rl r3 r4 h3 c27 m22 d2 d3
        rw [if_neg c3, if_neg c3, em, tu8_eq]
        rcases hm with ⟨hm, r', f', r2', r3', c', eg, hR'⟩ | ⟨hm, hR'⟩
        · rw [if_pos hm, eg, tu5_eq, if_neg n3, if_neg n5, if_neg n4]
          by_cases hr : r < 0
          · rw [if_pos hr]; exact step _ _ _ _ _ _ _ _ _ _ _ _ _ _ hR' hn'
          · rw [if_neg hr]; exact step _ _ _ _ _ _ _ _ _ _ _ _ _ _ hR' hn'
        · rw [if_neg hm, if_neg n3, if_neg n5, if_neg n4]
          by_cases hr : r < 0
          · rw [if_pos hr]; exact step _ _ _ _ _ _ _ _ _ _ _ _ _ _ hR' hn'
          · rw [if_neg hr]; exact step _ _ _ _ _ _ _ _ _ _ _ _ _ _ hR' hn'
/-- a new object: both hold the root alone -/
theorem RV_0 : RV P0 Z0 Z0 1 0 1 nowF := by
  have n0 : ∀ i, 1 ≤ i → i < 24 → nowF i = -1 := fun i h1 h2 => by
    unfold nowF
    rw [if_neg (by omega), if_neg (by omega), if_neg (by omega), if_pos h2]
  have nz : ∀ i, 25 ≤ i → i < 121 → nowF i = 0 := fun i h1 h2 => by
    unfold nowF
    rw [if_neg (by omega), if_neg (by omega), if_neg (by omega), if_neg (by omega)]
  refine ⟨fun i => ?_, rfl, P0_m (by decide), fun i hi w => P0_m hi, fun i h1 h2 w => absurd (n0 i h1 h2) w, fun i hi => (nz (48 + i) (by omega) (by omega)).symm, fun i hi _ => nz (48 + i) (by omega) (by omega), fun i hi => ⟨rfl, nz (72 + i) (by omega) (by omega), nz (96 + i) (by omega) (by omega)⟩, rfl, rfl⟩
  have b1 : ∀ i, i < 32 → bt 1 i = decide (i = 0) := by decide +kernel
  by_cases c : i < 32
  · rw [b1 i c]
    by_cases z : i = 0
    · subst z; rfl
    · rw [decide_eq_false z]
      by_cases c2 : i < 24
      · show false = (decide (i < 24) && decide (¬ nowF i = -1))
        rw [dn (n0 i (by omega) c2), Bool.and_false]
      · rw [decide_eq_false c2, Bool.false_and]
  · rw [b_big (by omega), decide_eq_false (by omega), Bool.false_and]
/-- years: both count as many -/
theorem years_same (rl r2 r3 r4 h3 : Nat → Int32) (m22 x m127 m139 s a : Int32) : (F_X11_years P0 Z0 Z0 h3 1 0 m22 1 x s a).1 = (F_X12_years_x nowF rl r2 r3 r4 0 m127 m139 s a).1 := by
  have z1 : (1 : Int32).toInt = 1 := rfl
  have z40 : (40 : Int32).toInt = 40 := rfl
  unfold F_X11_years F_X12_years_x F_X12_in
  by_cases c1 : a < 1
  · rw [if_pos c1, if_pos c1, if_pos rfl]
  · rw [if_neg c1, if_neg c1]
    by_cases c2 : a ≤ 40
    · have c3 : ¬ (40 : Int32) < a := fun w => by have := fz_lt.mp w; have := fz_le.mp c2; omega
      rw [if_pos c2, if_neg c3, if_neg (by decide)]
      have hR : RV P0 Z0 Z0 1 0 1 (LYF nowF r2 (Int32.toNatClampNeg (0 : Int32))) := RV_0.cong (fun i hi => by
          show (if (0 : Int32).toNatClampNeg ≤ i ∧ i < (0 : Int32).toNatClampNeg + 122 then nowF (i - (0 : Int32).toNatClampNeg) else r2 i) = nowF i
          have z : (0 : Int32).toNatClampNeg = 0 := by decide
          rw [z, if_pos ⟨by omega, by omega⟩]
          rfl) (by
          show (if (0 : Int32).toNatClampNeg ≤ 121 ∧ 121 < (0 : Int32).toNatClampNeg + 122 then nowF (121 - (0 : Int32).toNatClampNeg) else r2 121) = nowF 121
          have z : (0 : Int32).toNatClampNeg = 0 := by decide
          rw [z, if_pos ⟨by omega, by omega⟩])
      obtain ⟨y', p', q', m', h3', t', u', m22', n', x', f', r3', r4', c27', x2', e1, e2, hR'⟩ := years_loop rl nowF a (by have := fz_le.mp c2; omega) 40 0 42 42 P0 Z0 Z0 h3 (LYF nowF r2 (Int32.toNatClampNeg (0 : Int32))) r3 r4 0 1 0 m22 1 s m127 (by decide) rfl (by decide) (by decide) hR (by decide) (by decide)
      have e1 : F_X11_years_23 42 a 0 0 P0 Z0 Z0 h3 1 0 m22 1 s = (y', p', q', m', h3', t', u', m22', n', x') := e1
      have e2 : F_X12_years_x_36 42 a 0 nowF rl (LYF nowF r2 (Int32.toNatClampNeg (0 : Int32))) r3 r4 0 m127 s = (f', r3', r4', c27', x2') := e2
      rw [e1, e2]
      show F_X10_size t' = F_J6_bitCount_0f7a4 (F_X12_thereOf f')
      unfold F_X10_size
      rw [hR'.tt]
    · have c3 : (40 : Int32) < a := nle_lt c2
      rw [if_neg c2, if_pos c3, if_pos rfl]
