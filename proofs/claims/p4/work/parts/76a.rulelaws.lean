/-! ===== rules: the reference's parser runs as the automaton ===== -/
section RUL
variable {rdf askf : Nat → Int32} {len isA : Int32}
abbrev hQ (rdf : Nat → Int32) (len : Int32) : Int32 → Int32 := ruH (fun i => rdf i &&& 255) len
theorem n10 : ¬ (1 : Int32) = 0 := by decide
theorem in_D {c : Int32} : F_X12_in c 48 57 = 0 ↔ ¬ ruD c = true := by
  have z1 : (48 : Int32).toInt = 48 := rfl
  have z2 : (57 : Int32).toInt = 57 := rfl
  unfold F_X12_in ruD
  by_cases a : c < 48
  · rw [if_pos a]
    have a2 := fz_lt.mp a
    constructor
    · intro _ q
      simp only [Bool.and_eq_true, decide_eq_true_eq] at q
      have := fz_le.mp q.1
      omega
    · intro _
      rfl
  · rw [if_neg a]
    have a2 := mt fz_lt.mpr a
    by_cases b : (57 : Int32) < c
    · rw [if_pos b]
      have b2 := fz_lt.mp b
      constructor
      · intro _ q
        simp only [Bool.and_eq_true, decide_eq_true_eq] at q
        have := fz_le.mp q.2
        omega
      · intro _
        rfl
    · rw [if_neg b]
      have b2 := mt fz_lt.mpr b
      constructor
      · intro q
        exact absurd q n10
      · intro q
        refine absurd ?_ q
        simp only [Bool.and_eq_true, decide_eq_true_eq]
        exact ⟨fz_le.mpr (by omega), fz_le.mpr (by omega)⟩
theorem le_L {c : Int32} : F_X12_letterOf c = -1 ↔ ¬ ruL c = true := by
  unfold F_X12_letterOf ruL
  by_cases a1 : c = 110
  · subst a1; decide
  by_cases a2 : c = 107
  · subst a2; decide
  by_cases a3 : c = 103
  · subst a3; decide
  by_cases a4 : c = 105
  · subst a4; decide
  by_cases a5 : c = 100
  · subst a5; decide
  by_cases a6 : c = 119
  · subst a6; decide
  by_cases a7 : c = 113
  · subst a7; decide
  rw [if_neg a1, if_neg a2, if_neg a3, if_neg a4, if_neg a5, if_neg a6, if_neg a7]
  simp [a1, a2, a3, a4, a5, a6, a7]
theorem hQ_e (hl : rgI 0 80 len) {y : Int32} (hy : y.toInt ≤ (eR len).toInt) : hQ rdf len y = -1 ↔ y = eR len := by
  have z : (40 : Int32).toInt = 40 := rfl
  obtain ⟨⟨h1, h1b⟩, h2⟩ := eR_t hl
  have nb : ∀ x : Int32, ¬ x &&& 255 = -1 := fun x q => by
    have w := pk_and x (m := 255) 8 (by decide)
    rw [w] at q
    have t := congrArg Int32.toInt q
    rw [nI_toInt (by have := Nat.mod_lt x.toBitVec.toNat (show 0 < 2 ^ 8 by decide); omega)] at t
    have z1 : (-1 : Int32).toInt = -1 := by decide
    omega
  show (if len ≤ y then (-1 : Int32) else (if (40 : Int32) ≤ y then (-1 : Int32) else ((rdf (Int32.toNatClampNeg y)) &&& (255 : Int32)))) = -1 ↔ _
  constructor
  · intro q
    apply Int32.toInt_inj.mp
    by_cases c : len ≤ y
    · have c2 := fz_le.mp c; omega
    · rw [if_neg c] at q
      have c2 := mt fz_le.mpr c
      by_cases d : (40 : Int32) ≤ y
      · have d2 := fz_le.mp d; omega
      · rw [if_neg d] at q
        exact absurd q (nb _)
  · intro q
    subst q
    by_cases c : len ≤ eR len
    · rw [if_pos c]
    · rw [if_neg c]
      have c2 := mt fz_le.mpr c
      rw [if_pos (fz_le.mpr (by omega))]
/-- a sign that is there: the next place is no farther than the end -/
theorem hQ_up (hl : rgI 0 80 len) {y : Int32} (h0 : 0 ≤ y.toInt) (hy : y.toInt ≤ (eR len).toInt) (hn : ¬ hQ rdf len y = -1) : rgI 0 80 y ∧ (y + 1).toInt = y.toInt + 1 ∧ (y + 1).toInt ≤ (eR len).toInt := by
  obtain ⟨⟨h1, h1b⟩, h2⟩ := eR_t hl
  have r : rgI 0 80 y := ⟨h0, by omega⟩
  have e := ru_y1 r
  have n : ¬ y.toInt = (eR len).toInt := fun q => hn ((hQ_e hl hy).mpr (Int32.toInt_inj.mp q))
  exact ⟨r, e, by omega⟩
theorem fi1 {y : Int32} : F_X12_fine rdf askf len 40 isA y (-1) = 1 := if_pos rfl
theorem fi0 {y w : Int32} (h : ¬ w = -1) : F_X12_fine rdf askf len 40 isA y w = 0 := if_neg h
theorem ps_y {k y : Int32} (c : hQ rdf len y = k) : F_X12_passes rdf askf len 40 isA k y (-1) = (1, y + 1, -1) := by
  unfold F_X12_passes
  rw [fi1, if_neg n10]
  exact if_pos c
theorem ps_n {k y : Int32} (c : ¬ hQ rdf len y = k) : F_X12_passes rdf askf len 40 isA k y (-1) = (0, y, -1) := by
  unfold F_X12_passes
  rw [fi1, if_neg n10]
  exact if_neg c
theorem ps_w {k y w : Int32} (c : ¬ w = -1) : F_X12_passes rdf askf len 40 isA k y w = (0, y, w) := by
  unfold F_X12_passes
  rw [fi0 c, if_pos rfl]
theorem ft_1 {k y : Int32} : F_X12_fault rdf askf len 40 isA k y (-1) = (0, y, k) := by
  unfold F_X12_fault
  rw [fi1, if_neg n10]
theorem ft_w {k y w : Int32} (c : ¬ w = -1) : F_X12_fault rdf askf len 40 isA k y w = (0, y, w) := by
  unfold F_X12_fault
  rw [fi0 c, if_pos rfl]
theorem nd_y {k y : Int32} (c : hQ rdf len y = k) : F_X12_need rdf askf len 40 isA k y (-1) = (0, y + 1, -1) := by
  unfold F_X12_need
  rw [ps_y c]
  rfl
theorem nd_n {k y : Int32} (c : ¬ hQ rdf len y = k) : F_X12_need rdf askf len 40 isA k y (-1) = (0, y, y) := by
  unfold F_X12_need
  rw [ps_n c]
  show (if (0 : Int32) = 0 then bn3 (F_X12_fault rdf askf len 40 isA y y (-1)) (fun _ ba6 bw6 => ((0 : Int32), ba6, bw6)) else ((0 : Int32), y, (-1 : Int32))) = _
  rw [if_pos rfl, ft_1]
  rfl
theorem nd_w {k y w : Int32} (c : ¬ w = -1) : F_X12_need rdf askf len 40 isA k y w = (0, y, w) := by
  unfold F_X12_need
  rw [ps_w c]
  show (if (0 : Int32) = 0 then bn3 (F_X12_fault rdf askf len 40 isA y y w) (fun _ ba6 bw6 => ((0 : Int32), ba6, bw6)) else ((0 : Int32), y, w)) = _
  rw [if_pos rfl, ft_w c]
  rfl
abbrev oQ (rdf : Nat → Int32) (len y : Int32) (s : Sta) : Int32 := ruO (hQ rdf len) len y s
/-- what a piece of the reading does, seen from the automaton: where it ends and what can follow -/
def RT (rdf : Nat → Int32) (len y o : Int32) (E : Int32 → List Bool → Prop) (t : Int32 × Int32) : Prop := y.toInt ≤ t.1.toInt ∧ t.1.toInt ≤ (eR len).toInt ∧ ((t.2 = -1 ∧ ∃ d bs, oQ rdf len t.1 (false, d, bs) = o ∧ (ruD (hQ rdf len t.1) = true → d = 0 ∨ 3 ≤ d) ∧ E (hQ rdf len t.1) bs) ∨ (¬ t.2 = -1 ∧ t.2 = o))
theorem RT.up {y y2 o : Int32} {E : Int32 → List Bool → Prop} {t : Int32 × Int32} (h : RT rdf len y2 o E t) (hy : y.toInt ≤ y2.toInt) : RT rdf len y o E t := ⟨Int.le_trans hy h.1, h.2⟩
theorem on_1 {y : Int32} (c : ruD (hQ rdf len y) = true) : (F_X12_oneOf rdf askf len 40 isA 48 10 y (-1)).2 = (y + 1, -1) := by
  unfold F_X12_oneOf
  rw [fi1, if_neg n10, if_neg (show ¬ F_X12_in (F_X12_here rdf askf len 40 isA y (-1)) 48 (48 + 10 - 1) = 0 from fun q => absurd c (in_D.mp q))]
theorem nh_D {y : Int32} (c : ruD (hQ rdf len y) = true) : ¬ hQ rdf len y = -1 := ruD_ne c (by decide)
theorem nb3 (n : Nat) {y2 ya : Int32} {bs : List Bool} (he : ya.toInt ≤ (eR len).toInt) : RT rdf len ya (oQ rdf len ya (false, 3, bs)) (fun _ b => b = bs) (F_X12_number_11 rdf askf len 40 isA (n + 1) 3 y2 3 ya (-1)).2 := by
  unfold F_X12_number_11
  rw [if_pos (show (3 : Int32) ≤ 3 by decide)]
  exact ⟨Int.le_refl _, he, Or.inl ⟨rfl, 3, bs, rfl, fun _ => Or.inr (Nat.le_refl _), rfl⟩⟩
theorem nb2 (hl : rgI 0 80 len) (n : Nat) {y2 ya : Int32} {bs : List Bool} (h0 : 0 ≤ ya.toInt) (he : ya.toInt ≤ (eR len).toInt) : RT rdf len ya (oQ rdf len ya (false, 2, bs)) (fun _ b => b = bs) (F_X12_number_11 rdf askf len 40 isA (n + 2) 3 y2 2 ya (-1)).2 := by
  unfold F_X12_number_11
  rw [if_neg (show ¬ (3 : Int32) ≤ 2 by decide), fi1, if_neg n10]
  by_cases c : ruD (hQ rdf len ya) = true
  · rw [if_neg (show ¬ F_X12_in (F_X12_here rdf askf len 40 isA ya (-1)) 48 57 = 0 from fun q => absurd c (in_D.mp q))]
    obtain ⟨u1, u2, u3⟩ := hQ_up hl h0 he (nh_D c)
    have o1 := on_1 (askf := askf) (isA := isA) c
    generalize F_X12_oneOf rdf askf len 40 isA 48 10 ya (-1) = t at o1 ⊢
    obtain ⟨t1, t2⟩ := t
    subst o1
    rw [show oQ rdf len ya (false, 2, bs) = oQ rdf len (ya + 1) (false, 3, bs) from ru_go u1 (nh_D c) (ruS_f.trans (rf_dig c (by decide)))]
    exact (nb3  n (ya := ya + 1) (show (ya + 1).toInt ≤ _ from u3)).up (by omega)
  · rw [if_pos (show F_X12_in (F_X12_here rdf askf len 40 isA ya (-1)) 48 57 = 0 from in_D.mpr c)]
    exact ⟨Int.le_refl _, he, Or.inl ⟨rfl, 2, bs, rfl, fun q => absurd q c, rfl⟩⟩
theorem nb1 (hl : rgI 0 80 len) (n : Nat) {y2 ya : Int32} {bs : List Bool} (h0 : 0 ≤ ya.toInt) (he : ya.toInt ≤ (eR len).toInt) : RT rdf len ya (oQ rdf len ya (false, 1, bs)) (fun _ b => b = bs) (F_X12_number_11 rdf askf len 40 isA (n + 3) 3 y2 1 ya (-1)).2 := by
  unfold F_X12_number_11
  rw [if_neg (show ¬ (3 : Int32) ≤ 1 by decide), fi1, if_neg n10]
  by_cases c : ruD (hQ rdf len ya) = true
  · rw [if_neg (show ¬ F_X12_in (F_X12_here rdf askf len 40 isA ya (-1)) 48 57 = 0 from fun q => absurd c (in_D.mp q))]
    obtain ⟨u1, u2, u3⟩ := hQ_up hl h0 he (nh_D c)
    have o1 := on_1 (askf := askf) (isA := isA) c
    generalize F_X12_oneOf rdf askf len 40 isA 48 10 ya (-1) = t at o1 ⊢
    obtain ⟨t1, t2⟩ := t
    subst o1
    rw [show oQ rdf len ya (false, 1, bs) = oQ rdf len (ya + 1) (false, 2, bs) from ru_go u1 (nh_D c) (ruS_f.trans (rf_dig c (by decide)))]
    exact (nb2 hl n (ya := ya + 1) (by omega) (show (ya + 1).toInt ≤ _ from u3)).up (by omega)
  · rw [if_pos (show F_X12_in (F_X12_here rdf askf len 40 isA ya (-1)) 48 57 = 0 from in_D.mpr c)]
    exact ⟨Int.le_refl _, he, Or.inl ⟨rfl, 1, bs, rfl, fun q => absurd q c, rfl⟩⟩
theorem nr_ok (hl : rgI 0 80 len) {y : Int32} {bs : List Bool} (h0 : 0 ≤ y.toInt) (he : y.toInt ≤ (eR len).toInt) (c : ruD (hQ rdf len y) = true) : RT rdf len y (oQ rdf len y (true, 0, bs)) (fun _ b => b = bs) (F_X12_number rdf askf len 40 isA 3 y (-1)).2 := by
  obtain ⟨u1, u2, u3⟩ := hQ_up hl h0 he (nh_D c)
  unfold F_X12_number
  have o1 := on_1 (askf := askf) (isA := isA) c
  generalize F_X12_oneOf rdf askf len 40 isA 48 10 y (-1) = t at o1 ⊢
  obtain ⟨t1, t2⟩ := t
  subst o1
  rw [show oQ rdf len y (true, 0, bs) = oQ rdf len (y + 1) (false, 1, bs) from ru_go u1 (nh_D c) (ruS_t.trans (ru_dig c))]
  exact (nb1 hl 2 (ya := y + 1) (by omega) u3).up (by omega)
/-- what a thing does -/
def THp (rdf : Nat → Int32) (len : Int32) (th : Int32 → Int32 → Int32 → Int32 × Int32 × Int32) (yl : Int) : Prop := ∀ (a0 y : Int32) (bs : List Bool), rgI 0 4 a0 → (bs.length : Int) = a0.toInt + 1 → yl ≤ y.toInt → 0 ≤ y.toInt → y.toInt ≤ (eR len).toInt → RT rdf len y (oQ rdf len y (true, 0, bs)) (fun _ b => b = bs) (th a0 y (-1)).2
theorem p6_idle {th : Int32 → Int32 → Int32 → Int32 × Int32 × Int32} {w : Int32} (hw : ¬ w = -1) : ∀ (n : Nat) (y1 y2 ya : Int32), (F_X12_product_6 rdf askf len 40 isA th n y1 y2 ya w).2 = (ya, w)
  | 0, _, _, _ => rfl
  | n + 1, y1, y2, ya => by
    unfold F_X12_product_6
    rw [fi0 hw, if_pos rfl]
theorem p6_ok {th : Int32 → Int32 → Int32 → Int32 × Int32 × Int32} {yl : Int} (hl : rgI 0 80 len) (hT : THp rdf len th yl) {a0 : Int32} {bs : List Bool} (ha : rgI 0 4 a0) (hb : (bs.length : Int) = a0.toInt + 1) : ∀ (n : Nat) (y2 ya : Int32) (d : Nat), (eR len).toInt - ya.toInt < (n : Int) → 0 ≤ ya.toInt → ya.toInt ≤ (eR len).toInt → yl ≤ ya.toInt → (ruD (hQ rdf len ya) = true → d = 0 ∨ 3 ≤ d) → RT rdf len ya (oQ rdf len ya (false, d, bs)) (fun c b => b = bs ∧ ¬ c = 42 ∧ ¬ c = 47) (F_X12_product_6 rdf askf len 40 isA th n a0 y2 ya (-1)).2 := by
  intro n
  induction n with
  | zero => intro y2 ya d hn h0 he; exact absurd hn (by omega)
  | succ n ih =>
    intro y2 ya d hn h0 he hy hd
    have step : ¬ hQ rdf len ya = -1 → ruOp (hQ rdf len ya) → ∀ t : Int32 × Int32 × Int32, t = th a0 (ya + 1) (-1) → ∀ v, RT rdf len ya (oQ rdf len ya (false, d, bs)) (fun c b => b = bs ∧ ¬ c = 42 ∧ ¬ c = 47) (F_X12_product_6 rdf askf len 40 isA th n a0 v t.2.1 t.2.2).2 := by
      intro hn1 hop t ht v
      obtain ⟨u1, u2, u3⟩ := hQ_up hl h0 he hn1
      have q := hT a0 (ya + 1) bs ha hb (by omega) (by omega) u3
      rw [show oQ rdf len ya (false, d, bs) = oQ rdf len (ya + 1) (true, 0, bs) from ru_go u1 hn1 (ruS_f.trans (rf_op hop))]
      rw [← ht] at q
      obtain ⟨q1, q2, q3⟩ := q
      rcases q3 with ⟨w1, d2, bs2, o1, nd, eb⟩ | ⟨w1, w2⟩
      · rw [w1, ← o1]
        skip
        subst eb
        exact (ih v t.2.1 d2 (by omega) (by omega) q2 (by omega) nd).up (by omega)
      · rw [p6_idle w1]
        exact ⟨by show ya.toInt ≤ t.2.1.toInt; omega, q2, Or.inr ⟨w1, w2⟩⟩
    unfold F_X12_product_6
    rw [fi1, if_neg n10]
    by_cases cA : hQ rdf len ya = 42
    · rw [if_pos (show F_X12_here rdf askf len 40 isA ya (-1) = 42 from cA), if_pos (show F_X12_here rdf askf len 40 isA ya (-1) = 42 from cA)]
      have st := step (by rw [cA]; decide) (by rw [cA]; decide) _ rfl
      generalize th a0 (ya + 1) (-1) = t at st ⊢
      show RT _ _ _ _ _ (if (1 : Int32) = 0 then (if t.1 = 0 then F_X12_product_6 rdf askf len 40 isA th n a0 0 t.2.1 t.2.2 else F_X12_product_6 rdf askf len 40 isA th n a0 (y2 / t.1) t.2.1 t.2.2) else F_X12_product_6 rdf askf len 40 isA th n a0 (y2 * t.1) t.2.1 t.2.2).2
      rw [if_neg n10]
      exact st _
    · rw [if_neg (show ¬ F_X12_here rdf askf len 40 isA ya (-1) = 42 from cA)]
      by_cases cB : hQ rdf len ya = 47
      · rw [if_pos (show F_X12_here rdf askf len 40 isA ya (-1) = 47 from cB), if_neg (show ¬ F_X12_here rdf askf len 40 isA ya (-1) = 42 from cA)]
        have st := step (by rw [cB]; decide) (by rw [cB]; decide) _ rfl
        generalize th a0 (ya + 1) (-1) = t at st ⊢
        show RT _ _ _ _ _ (if (0 : Int32) = 0 then (if t.1 = 0 then F_X12_product_6 rdf askf len 40 isA th n a0 0 t.2.1 t.2.2 else F_X12_product_6 rdf askf len 40 isA th n a0 (y2 / t.1) t.2.1 t.2.2) else F_X12_product_6 rdf askf len 40 isA th n a0 (y2 * t.1) t.2.1 t.2.2).2
        rw [if_pos rfl]
        by_cases cv : t.1 = 0
        · rw [if_pos cv]; exact st _
        · rw [if_neg cv]; exact st _
      · rw [if_neg (show ¬ F_X12_here rdf askf len 40 isA ya (-1) = 47 from cB)]
        exact ⟨Int.le_refl _, he, Or.inl ⟨rfl, d, bs, rfl, hd, rfl, cA, cB⟩⟩
theorem pr_ok {th : Int32 → Int32 → Int32 → Int32 × Int32 × Int32} {yl : Int} (hl : rgI 0 80 len) (hT : THp rdf len th yl) {a0 y : Int32} {bs : List Bool} (ha : rgI 0 4 a0) (hb : (bs.length : Int) = a0.toInt + 1) (hy : yl ≤ y.toInt) (h0 : 0 ≤ y.toInt) (he : y.toInt ≤ (eR len).toInt) : RT rdf len y (oQ rdf len y (true, 0, bs)) (fun c b => b = bs ∧ ¬ c = 42 ∧ ¬ c = 47) (F_X12_product rdf askf len 40 isA th a0 y (-1)).2 := by
  have q := hT a0 y bs ha hb hy h0 he
  obtain ⟨⟨_, e1⟩, _⟩ := eR_t hl
  unfold F_X12_product
  generalize th a0 y (-1) = t at q ⊢
  show RT _ _ _ _ _ (F_X12_product_6 rdf askf len 40 isA th 82 a0 t.1 t.2.1 t.2.2).2
  obtain ⟨q1, q2, q3⟩ := q
  rcases q3 with ⟨w1, d2, bs2, o1, nd, eb⟩ | ⟨w1, w2⟩
  · rw [w1, ← o1]
    subst eb
    exact (p6_ok hl hT ha hb 82 t.1 t.2.1 d2 (by omega) (by omega) q2 (by omega) nd).up (by omega)
  · rw [p6_idle w1]
    exact ⟨q1, q2, Or.inr ⟨w1, w2⟩⟩
theorem s6_idle {th : Int32 → Int32 → Int32 → Int32 × Int32 × Int32} {w : Int32} (hw : ¬ w = -1) : ∀ (n : Nat) (y1 y2 ya : Int32), (F_X12_sum_6 rdf askf len 40 isA th n y1 y2 ya w).2 = (ya, w)
  | 0, _, _, _ => rfl
  | n + 1, y1, y2, ya => by
    unfold F_X12_sum_6
    rw [fi0 hw, if_pos rfl]
theorem s6_ok {th : Int32 → Int32 → Int32 → Int32 × Int32 × Int32} {yl : Int} (hl : rgI 0 80 len) (hT : THp rdf len th yl) {a0 : Int32} {bs : List Bool} (ha : rgI 0 4 a0) (hb : (bs.length : Int) = a0.toInt + 1) : ∀ (n : Nat) (y2 ya : Int32) (d : Nat), (eR len).toInt - ya.toInt < (n : Int) → 0 ≤ ya.toInt → ya.toInt ≤ (eR len).toInt → yl ≤ ya.toInt → (ruD (hQ rdf len ya) = true → d = 0 ∨ 3 ≤ d) → (¬ hQ rdf len ya = 42 ∧ ¬ hQ rdf len ya = 47) → RT rdf len ya (oQ rdf len ya (false, d, bs)) (fun c b => b = bs ∧ (¬ c = 42 ∧ ¬ c = 47) ∧ ¬ c = 43 ∧ ¬ c = 45) (F_X12_sum_6 rdf askf len 40 isA th n a0 y2 ya (-1)).2 := by
  intro n
  induction n with
  | zero => intro y2 ya d hn h0 he; exact absurd hn (by omega)
  | succ n ih =>
    intro y2 ya d hn h0 he hy hd hc
    have step : ¬ hQ rdf len ya = -1 → ruOp (hQ rdf len ya) → ∀ t : Int32 × Int32 × Int32, t = F_X12_product rdf askf len 40 isA th a0 (ya + 1) (-1) → ∀ v, RT rdf len ya (oQ rdf len ya (false, d, bs)) (fun c b => b = bs ∧ (¬ c = 42 ∧ ¬ c = 47) ∧ ¬ c = 43 ∧ ¬ c = 45) (F_X12_sum_6 rdf askf len 40 isA th n a0 v t.2.1 t.2.2).2 := by
      intro hn1 hop t ht v
      obtain ⟨u1, u2, u3⟩ := hQ_up hl h0 he hn1
      have q := pr_ok (askf := askf) (isA := isA) hl hT (y := ya + 1) ha hb (by omega) (by omega) u3
      rw [show oQ rdf len ya (false, d, bs) = oQ rdf len (ya + 1) (true, 0, bs) from ru_go u1 hn1 (ruS_f.trans (rf_op hop))]
      rw [← ht] at q
      obtain ⟨q1, q2, q3⟩ := q
      rcases q3 with ⟨w1, d2, bs2, o1, nd, eb⟩ | ⟨w1, w2⟩
      · rw [w1, ← o1]
        obtain ⟨eb, ec⟩ := eb
        subst eb
        exact (ih v t.2.1 d2 (by omega) (by omega) q2 (by omega) nd ec).up (by omega)
      · rw [s6_idle w1]
        exact ⟨by show ya.toInt ≤ t.2.1.toInt; omega, q2, Or.inr ⟨w1, w2⟩⟩
    unfold F_X12_sum_6
    rw [fi1, if_neg n10]
    by_cases cA : hQ rdf len ya = 43
    · rw [if_pos (show F_X12_here rdf askf len 40 isA ya (-1) = 43 from cA), if_pos (show F_X12_here rdf askf len 40 isA ya (-1) = 43 from cA)]
      have st := step (by rw [cA]; decide) (by rw [cA]; decide) _ rfl
      generalize F_X12_product rdf askf len 40 isA th a0 (ya + 1) (-1) = t at st ⊢
      show RT _ _ _ _ _ (if (1 : Int32) = 0 then F_X12_sum_6 rdf askf len 40 isA th n a0 (y2 - t.1) t.2.1 t.2.2 else F_X12_sum_6 rdf askf len 40 isA th n a0 (y2 + t.1) t.2.1 t.2.2).2
      rw [if_neg n10]
      exact st _
    · rw [if_neg (show ¬ F_X12_here rdf askf len 40 isA ya (-1) = 43 from cA)]
      by_cases cB : hQ rdf len ya = 45
      · rw [if_pos (show F_X12_here rdf askf len 40 isA ya (-1) = 45 from cB), if_neg (show ¬ F_X12_here rdf askf len 40 isA ya (-1) = 43 from cA)]
        have st := step (by rw [cB]; decide) (by rw [cB]; decide) _ rfl
        generalize F_X12_product rdf askf len 40 isA th a0 (ya + 1) (-1) = t at st ⊢
        show RT _ _ _ _ _ (if (0 : Int32) = 0 then F_X12_sum_6 rdf askf len 40 isA th n a0 (y2 - t.1) t.2.1 t.2.2 else F_X12_sum_6 rdf askf len 40 isA th n a0 (y2 + t.1) t.2.1 t.2.2).2
        rw [if_pos rfl]
        exact st _
      · rw [if_neg (show ¬ F_X12_here rdf askf len 40 isA ya (-1) = 45 from cB)]
        exact ⟨Int.le_refl _, he, Or.inl ⟨rfl, d, bs, rfl, hd, rfl, hc, cA, cB⟩⟩
theorem su_ok {th : Int32 → Int32 → Int32 → Int32 × Int32 × Int32} {yl : Int} (hl : rgI 0 80 len) (hT : THp rdf len th yl) {a0 y : Int32} {bs : List Bool} (ha : rgI 0 4 a0) (hb : (bs.length : Int) = a0.toInt + 1) (hy : yl ≤ y.toInt) (h0 : 0 ≤ y.toInt) (he : y.toInt ≤ (eR len).toInt) : RT rdf len y (oQ rdf len y (true, 0, bs)) (fun c b => b = bs ∧ (¬ c = 42 ∧ ¬ c = 47) ∧ ¬ c = 43 ∧ ¬ c = 45) (F_X12_sum rdf askf len 40 isA th a0 y (-1)).2 := by
  have q := pr_ok (askf := askf) (isA := isA) hl hT ha hb hy h0 he
  obtain ⟨⟨_, e1⟩, _⟩ := eR_t hl
  unfold F_X12_sum
  generalize F_X12_product rdf askf len 40 isA th a0 y (-1) = t at q ⊢
  show RT _ _ _ _ _ (F_X12_sum_6 rdf askf len 40 isA th 82 a0 t.1 t.2.1 t.2.2).2
  obtain ⟨q1, q2, q3⟩ := q
  rcases q3 with ⟨w1, d2, bs2, o1, nd, eb, ec⟩ | ⟨w1, w2⟩
  · rw [w1, ← o1]
    subst eb
    exact (s6_ok hl hT ha hb 82 t.1 t.2.1 d2 (by omega) (by omega) q2 (by omega) nd ec).up (by omega)
  · rw [s6_idle w1]
    exact ⟨q1, q2, Or.inr ⟨w1, w2⟩⟩
/-- what can't follow what a bracket holds -/
abbrev EH (r : List Bool) (c : Int32) (b : List Bool) : Prop := ∃ f : Bool, b = f :: r ∧ ¬ ruOp c ∧ (f = false → ¬ ruCm c)
theorem nop {c : Int32} (h : (¬ c = 42 ∧ ¬ c = 47) ∧ ¬ c = 43 ∧ ¬ c = 45) : ¬ ruOp c := by
  rintro (q | q | q | q)
  · exact h.2.1 q
  · exact h.2.2 q
  · exact h.1.1 q
  · exact h.1.2 q
def hl3 (rdf askf : Nat → Int32) (len isA : Int32) (th : Int32 → Int32 → Int32 → Int32 × Int32 × Int32) (a0 v ya yw : Int32) : Int32 × Int32 × Int32 := bn3 (F_X12_passes rdf askf len 40 isA (61 : Int32) ya yw) (fun bv4 ba4 bw4 => (if bv4 = (0 : Int32) then (v, ba4, bw4) else (bn3 (F_X12_sum rdf askf len 40 isA th a0 ba4 bw4) (fun bv5 ba5 bw5 => (if v = bv5 then ((1 : Int32), ba5, bw5) else ((0 : Int32), ba5, bw5))))))
def hl2 (rdf askf : Nat → Int32) (len isA : Int32) (th : Int32 → Int32 → Int32 → Int32 × Int32 × Int32) (a0 v ya yw : Int32) : Int32 × Int32 × Int32 := bn3 (F_X12_passes rdf askf len 40 isA (62 : Int32) ya yw) (fun bv3 ba3 bw3 => (if bv3 = (0 : Int32) then hl3 rdf askf len isA th a0 v ba3 bw3 else (bn3 (F_X12_sum rdf askf len 40 isA th a0 ba3 bw3) (fun bv6 ba6 bw6 => (if v ≤ bv6 then ((0 : Int32), ba6, bw6) else ((1 : Int32), ba6, bw6))))))
def hl1 (rdf askf : Nat → Int32) (len isA : Int32) (th : Int32 → Int32 → Int32 → Int32 × Int32 × Int32) (a0 v ya yw : Int32) : Int32 × Int32 × Int32 := bn3 (F_X12_passes rdf askf len 40 isA (60 : Int32) ya yw) (fun bv2 ba2 bw2 => (if bv2 = (0 : Int32) then hl2 rdf askf len isA th a0 v ba2 bw2 else (bn3 (F_X12_sum rdf askf len 40 isA th a0 ba2 bw2) (fun bv7 ba7 bw7 => (if bv7 ≤ v then ((0 : Int32), ba7, bw7) else ((1 : Int32), ba7, bw7))))))
theorem bn3_mk {α : Type} {a b c : Int32} {k : Int32 → Int32 → Int32 → α} : bn3 (a, b, c) k = k a b c := rfl
theorem bn3_id {s : Int32 × Int32 × Int32} : bn3 s (fun a b c => (a, b, c)) = s := rfl
theorem bn3_s2 {s : Int32 × Int32 × Int32} {v : Int32} : (bn3 s (fun _ a w => (v, a, w))).2 = s.2 := rfl
section HLD
variable {th : Int32 → Int32 → Int32 → Int32 × Int32 × Int32} {a0 v ya yw : Int32}
theorem held_eq : F_X12_held rdf askf len 40 isA th a0 ya yw = bn3 (F_X12_sum rdf askf len 40 isA th a0 ya yw) (fun bv1 ba1 bw1 => hl1 rdf askf len isA th a0 bv1 ba1 bw1) := rfl
theorem hl3_n (c : ¬ hQ rdf len ya = 61) : hl3 rdf askf len isA th a0 v ya (-1) = (v, ya, -1) := by
  unfold hl3
  rw [ps_n c, bn3_mk, if_pos rfl]
theorem hl3_w (c : ¬ yw = -1) : hl3 rdf askf len isA th a0 v ya yw = (v, ya, yw) := by
  unfold hl3
  rw [ps_w c, bn3_mk, if_pos rfl]
theorem hl3_y (c : hQ rdf len ya = 61) : (hl3 rdf askf len isA th a0 v ya (-1)).2 = (F_X12_sum rdf askf len 40 isA th a0 (ya + 1) (-1)).2 := by
  unfold hl3
  rw [ps_y c, bn3_mk, if_neg n10]
  generalize F_X12_sum rdf askf len 40 isA th a0 (ya + 1) (-1) = u
  obtain ⟨u1, u2, u3⟩ := u
  rw [bn3_mk]
  by_cases cv : v = u1
  · rw [if_pos cv]
  · rw [if_neg cv]
theorem hl2_n (c : ¬ hQ rdf len ya = 62) : hl2 rdf askf len isA th a0 v ya (-1) = hl3 rdf askf len isA th a0 v ya (-1) := by
  unfold hl2
  rw [ps_n c, bn3_mk, if_pos rfl]
theorem hl2_w (c : ¬ yw = -1) : hl2 rdf askf len isA th a0 v ya yw = hl3 rdf askf len isA th a0 v ya yw := by
  unfold hl2
  rw [ps_w c, bn3_mk, if_pos rfl]
theorem hl2_y (c : hQ rdf len ya = 62) : (hl2 rdf askf len isA th a0 v ya (-1)).2 = (F_X12_sum rdf askf len 40 isA th a0 (ya + 1) (-1)).2 := by
  unfold hl2
  rw [ps_y c, bn3_mk, if_neg n10]
  generalize F_X12_sum rdf askf len 40 isA th a0 (ya + 1) (-1) = u
  obtain ⟨u1, u2, u3⟩ := u
  rw [bn3_mk]
  by_cases cv : v ≤ u1
  · rw [if_pos cv]
  · rw [if_neg cv]
theorem hl1_n (c : ¬ hQ rdf len ya = 60) : hl1 rdf askf len isA th a0 v ya (-1) = hl2 rdf askf len isA th a0 v ya (-1) := by
  unfold hl1
  rw [ps_n c, bn3_mk, if_pos rfl]
theorem hl1_w (c : ¬ yw = -1) : hl1 rdf askf len isA th a0 v ya yw = hl2 rdf askf len isA th a0 v ya yw := by
  unfold hl1
  rw [ps_w c, bn3_mk, if_pos rfl]
theorem hl1_y (c : hQ rdf len ya = 60) : (hl1 rdf askf len isA th a0 v ya (-1)).2 = (F_X12_sum rdf askf len 40 isA th a0 (ya + 1) (-1)).2 := by
  unfold hl1
  rw [ps_y c, bn3_mk, if_neg n10]
  generalize F_X12_sum rdf askf len 40 isA th a0 (ya + 1) (-1) = u
  obtain ⟨u1, u2, u3⟩ := u
  rw [bn3_mk]
  by_cases cv : u1 ≤ v
  · rw [if_pos cv]
  · rw [if_neg cv]
end HLD
theorem he_ok {th : Int32 → Int32 → Int32 → Int32 × Int32 × Int32} {yl : Int} (hl : rgI 0 80 len) (hT : THp rdf len th yl) {a0 y : Int32} {r : List Bool} (ha : rgI 0 4 a0) (hb : (r.length : Int) = a0.toInt) (hy : yl ≤ y.toInt) (h0 : 0 ≤ y.toInt) (he : y.toInt ≤ (eR len).toInt) : RT rdf len y (oQ rdf len y (true, 0, false :: r)) (EH r) (F_X12_held rdf askf len 40 isA th a0 y (-1)).2 := by
  have q := su_ok (askf := askf) (isA := isA) hl hT (bs := false :: r) ha (by show ((r.length + 1 : Nat) : Int) = _; omega) hy h0 he
  rw [held_eq]
  generalize F_X12_sum rdf askf len 40 isA th a0 y (-1) = t at q ⊢
  obtain ⟨t1, t2, t3⟩ := t
  have e0 : bn3 (t1, t2, t3) (fun bv1 ba1 bw1 => hl1 rdf askf len isA th a0 bv1 ba1 bw1) = hl1 rdf askf len isA th a0 t1 t2 t3 := rfl
  rw [e0]
  obtain ⟨q1, q2, q3⟩ := q
  have q1 : y.toInt ≤ t2.toInt := q1
  have q2 : t2.toInt ≤ (eR len).toInt := q2
  rcases q3 with ⟨w1, d2, bs2, o1, nd, eb, ec⟩ | ⟨w1, w2⟩
  · have w1 : t3 = -1 := w1
    have o1 : oQ rdf len t2 (false, d2, bs2) = oQ rdf len y (true, 0, false :: r) := o1
    have nd : ruD (hQ rdf len t2) = true → d2 = 0 ∨ 3 ≤ d2 := nd
    have ec : (¬ hQ rdf len t2 = 42 ∧ ¬ hQ rdf len t2 = 47) ∧ ¬ hQ rdf len t2 = 43 ∧ ¬ hQ rdf len t2 = 45 := ec
    rw [w1]
    rw [eb] at o1
    rw [← o1]
    have more : ruCm (hQ rdf len t2) → ¬ hQ rdf len t2 = -1 → RT rdf len y (oQ rdf len t2 (false, d2, false :: r)) (EH r) (F_X12_sum rdf askf len 40 isA th a0 (t2 + 1) (-1)).2 := by
      intro hc hn
      obtain ⟨u1, u2, u3⟩ := hQ_up hl (by omega) q2 hn
      have z := su_ok (askf := askf) (isA := isA) hl hT (y := t2 + 1) (bs := true :: r) ha (by show ((r.length + 1 : Nat) : Int) = _; omega) (by omega) (by omega) u3
      rw [show oQ rdf len t2 (false, d2, false :: r) = oQ rdf len (t2 + 1) (true, 0, true :: r) from ru_go u1 hn (ruS_f.trans (rf_cmp hc))]
      obtain ⟨z1, z2, z3⟩ := z
      refine ⟨by omega, z2, ?_⟩
      rcases z3 with ⟨w1, d3, bs3, o3, nd3, eb3, ec3⟩ | ⟨w1, w2⟩
      · exact Or.inl ⟨w1, d3, bs3, o3, nd3, true, eb3, nop ec3, fun x => absurd x (by decide)⟩
      · exact Or.inr ⟨w1, w2⟩
    by_cases c60 : hQ rdf len t2 = 60
    · rw [hl1_y c60]
      exact more (by rw [c60]; decide) (by rw [c60]; decide)
    rw [hl1_n c60]
    by_cases c62 : hQ rdf len t2 = 62
    · rw [hl2_y c62]
      exact more (by rw [c62]; decide) (by rw [c62]; decide)
    rw [hl2_n c62]
    by_cases c61 : hQ rdf len t2 = 61
    · rw [hl3_y c61]
      exact more (by rw [c61]; decide) (by rw [c61]; decide)
    rw [hl3_n c61]
    refine ⟨q1, q2, Or.inl ⟨rfl, d2, false :: r, rfl, nd, false, rfl, nop ec, fun _ => ?_⟩⟩
    rintro (x | x | x)
    · exact c60 x
    · exact c62 x
    · exact c61 x
  · have w1 : ¬ t3 = -1 := w1
    rw [hl1_w w1, hl2_w w1, hl3_w w1]
    exact ⟨q1, q2, Or.inr ⟨w1, w2⟩⟩
/-- nothing that may follow -/
theorem stuck {y : Int32} {d : Nat} {f : Bool} {r : List Bool} (hn : ¬ hQ rdf len y = -1) (hd : ruD (hQ rdf len y) = true → d = 0 ∨ 3 ≤ d) (h1 : ¬ ruOp (hQ rdf len y)) (h2 : f = false → ¬ ruCm (hQ rdf len y)) (h3 : hQ rdf len y = 41 → r = []) : oQ rdf len y (false, d, f :: r) = y := by
  refine ru_no hn (ruS_f.trans ?_)
  by_cases a : ruD (hQ rdf len y) = true
  · exact rf_dig_no a (hd a)
  by_cases b : hQ rdf len y = 41
  · rw [b, h3 b]; exact rf_close
  by_cases c : ruCm (hQ rdf len y)
  · rw [rf_cmp c]
    cases f with
    | false => exact absurd c (h2 rfl)
    | true => rfl
  · exact rf_no a b c h1
def thP (rdf askf : Nat → Int32) (len isA ya yw : Int32) : Int32 × Int32 × Int32 := (if (F_X12_in (F_X12_here rdf askf len 40 isA ya yw) (48 : Int32) (57 : Int32)) = (0 : Int32) then (if (F_X12_letterOf (F_X12_here rdf askf len 40 isA ya yw)) = (-1 : Int32) then (bn3 (F_X12_fault rdf askf len 40 isA ya ya yw) (fun _ ba4 bw4 => ((0 : Int32), ba4, bw4))) else (if isA = (0 : Int32) then ((0 : Int32), (ya + (1 : Int32)), yw) else ((askf (Int32.toNatClampNeg (F_X12_letterOf (F_X12_here rdf askf len 40 isA ya yw)))), (ya + (1 : Int32)), yw))) else (bn3 (F_X12_number rdf askf len 40 isA (3 : Int32) ya yw) (fun bv5 ba5 bw5 => (bv5, ba5, bw5))))
def thQ (rdf askf : Nat → Int32) (len isA : Int32) (n : Nat) (a0 ya yw : Int32) : Int32 × Int32 × Int32 := (bn3 (F_X12_held rdf askf len 40 isA (F_X12_thing rdf askf len 40 isA n) (a0 + (1 : Int32)) (ya + (1 : Int32)) yw) (fun bv6 ba6 bw6 => (bn3 (F_X12_need rdf askf len 40 isA (41 : Int32) ba6 bw6) (fun _ ba7 bw7 => (bv6, ba7, bw7)))))
def thB (rdf askf : Nat → Int32) (len isA : Int32) (n : Nat) (a0 ya yw : Int32) : Int32 × Int32 × Int32 := (if (F_X12_fine rdf askf len 40 isA ya yw) = (0 : Int32) then ((0 : Int32), ya, yw) else (if (F_X12_here rdf askf len 40 isA ya yw) = (40 : Int32) then (if (4 : Int32) ≤ a0 then thP rdf askf len isA ya yw else thQ rdf askf len isA n a0 ya yw) else thP rdf askf len isA ya yw))
theorem th_eq {n : Nat} {a0 ya yw : Int32} : F_X12_thing rdf askf len 40 isA (n + 1) a0 ya yw = bn3 (F_X12_passes rdf askf len 40 isA (45 : Int32) ya yw) (fun bv1 ba1 bw1 => (if bv1 = (0 : Int32) then thB rdf askf len isA n a0 ba1 bw1 else (bn3 (F_X12_thing rdf askf len 40 isA n a0 ba1 bw1) (fun bv8 ba8 bw8 => ((-bv8), ba8, bw8))))) := by
  rw [F_X12_thing]
  rfl
theorem th_y {n : Nat} {a0 ya : Int32} (c : hQ rdf len ya = 45) : (F_X12_thing rdf askf len 40 isA (n + 1) a0 ya (-1)).2 = (F_X12_thing rdf askf len 40 isA n a0 (ya + 1) (-1)).2 := by
  rw [th_eq, ps_y c, bn3_mk, if_neg n10]
  generalize F_X12_thing rdf askf len 40 isA n a0 (ya + 1) (-1) = u
  obtain ⟨u1, u2, u3⟩ := u
  simp only [bn3_mk]
theorem th_n {n : Nat} {a0 ya : Int32} (c : ¬ hQ rdf len ya = 45) : F_X12_thing rdf askf len 40 isA (n + 1) a0 ya (-1) = thB rdf askf len isA n a0 ya (-1) := by
  rw [th_eq, ps_n c, bn3_mk, if_pos rfl]
set_option maxHeartbeats 4000000 in
theorem th_pl (hl : rgI 0 80 len) {y : Int32} {bs : List Bool} (h0 : 0 ≤ y.toInt) (he : y.toInt ≤ (eR len).toInt) (c45 : ¬ hQ rdf len y = 45) (h40 : ¬ hQ rdf len y = 40 ∨ 5 ≤ bs.length) : RT rdf len y (oQ rdf len y (true, 0, bs)) (fun _ b => b = bs) (thP rdf askf len isA y (-1)).2 := by
  unfold thP
  by_cases hD : ruD (hQ rdf len y) = true
  · rw [if_neg (show ¬ F_X12_in (F_X12_here rdf askf len 40 isA y (-1)) 48 57 = 0 from fun q => absurd hD (in_D.mp q))]
    rw [bn3_id]
    exact nr_ok hl h0 he hD
  · rw [if_pos (show F_X12_in (F_X12_here rdf askf len 40 isA y (-1)) 48 57 = 0 from in_D.mpr hD)]
    by_cases hL : ruL (hQ rdf len y) = true
    · rw [if_neg (show ¬ F_X12_letterOf (F_X12_here rdf askf len 40 isA y (-1)) = -1 from fun q => absurd hL (le_L.mp q))]
      have hn : ¬ hQ rdf len y = -1 := ruL_ne hL (by decide)
      obtain ⟨u1, u2, u3⟩ := hQ_up hl h0 he hn
      have letter : RT rdf len y (oQ rdf len y (true, 0, bs)) (fun _ b => b = bs) (y + 1, -1) := by
        refine ⟨by show y.toInt ≤ (y + 1).toInt; omega, u3, Or.inl ⟨rfl, 0, bs, ?_, fun _ => Or.inl rfl, rfl⟩⟩
        exact (ru_go u1 hn (ruS_t.trans (ru_let hL hD))).symm
      by_cases ca : isA = 0
      · rw [if_pos ca]; exact letter
      · rw [if_neg ca]; exact letter
    · rw [if_pos (show F_X12_letterOf (F_X12_here rdf askf len 40 isA y (-1)) = -1 from le_L.mpr hL), ft_1, bn3_mk]
      have o : oQ rdf len y (true, 0, bs) = y := by
        by_cases hn : hQ rdf len y = -1
        · rw [show oQ rdf len y (true, 0, bs) = ruN len (true, 0, bs) from ru_end hn, ruN_due]
          exact ((hQ_e hl he).mp hn).symm
        · refine ru_no hn (ruS_t.trans ?_)
          by_cases c40 : hQ rdf len y = 40
          · rw [c40]
            rcases h40 with h | h
            · exact absurd c40 h
            · exact ru_open_no h
          · exact ru_due_no c45 c40 hD hL
      rw [o]
      exact ⟨Int.le_refl _, he, Or.inr ⟨fun q => by have q : y = -1 := q; rw [q] at h0; exact absurd h0 (by decide), rfl⟩⟩
set_option maxHeartbeats 4000000 in
theorem th_ok (hl : rgI 0 80 len) : ∀ n : Nat, THp rdf len (F_X12_thing rdf askf len 40 isA n) (82 - (n : Int)) := by
  intro n
  induction n with
  | zero =>
    intro a0 y bs ha hb hy h0 he
    obtain ⟨⟨_, e1⟩, _⟩ := eR_t hl
    exact absurd hy (by omega)
  | succ n ih =>
    intro a0 y bs ha hb hy h0 he
    by_cases c45 : hQ rdf len y = 45
    · have hn : ¬ hQ rdf len y = -1 := by rw [c45]; decide
      obtain ⟨u1, u2, u3⟩ := hQ_up hl h0 he hn
      rw [th_y c45]
      have q := ih a0 (y + 1) bs ha hb (by omega) (by omega) u3
      rw [show oQ rdf len y (true, 0, bs) = oQ rdf len (y + 1) (true, 0, bs) from ru_go u1 hn (by rw [c45]; exact ruS_t.trans ru_neg)]
      exact q.up (by omega)
    rw [th_n c45]
    unfold thB
    rw [fi1, if_neg n10]
    by_cases c40 : hQ rdf len y = 40
    · rw [if_pos (show F_X12_here rdf askf len 40 isA y (-1) = 40 from c40)]
      by_cases c4 : (4 : Int32) ≤ a0
      · rw [if_pos c4]
        have := fz_le.mp c4
        have z4 : (4 : Int32).toInt = 4 := rfl
        exact th_pl hl h0 he c45 (Or.inr (by omega))
      · rw [if_neg c4]
        have c4b := mt fz_le.mpr c4
        have z4 : (4 : Int32).toInt = 4 := rfl
        have ha0 := ha.1
        have a1 : (a0 + 1).toInt = a0.toInt + 1 := rg_addE ha (show rgI 1 1 (1 : Int32) from ⟨by decide, by decide⟩) (by decide) (by decide)
        have hn : ¬ hQ rdf len y = -1 := by rw [c40]; decide
        obtain ⟨u1, u2, u3⟩ := hQ_up hl h0 he hn
        have q := he_ok (askf := askf) (isA := isA) hl ih (a0 := a0 + 1) (y := y + 1) (r := bs) ⟨by omega, by omega⟩ (by omega) (by omega) (by omega) u3
        rw [show oQ rdf len y (true, 0, bs) = oQ rdf len (y + 1) (true, 0, false :: bs) from ru_go u1 hn (by rw [c40]; exact ruS_t.trans (ru_open (by omega)))]
        unfold thQ
        generalize F_X12_held rdf askf len 40 isA (F_X12_thing rdf askf len 40 isA n) (a0 + 1) (y + 1) (-1) = t at q ⊢
        obtain ⟨t1, t2, t3⟩ := t
        obtain ⟨q1, q2, q3⟩ := q
        have q1 : (y + 1).toInt ≤ t2.toInt := q1
        have q2 : t2.toInt ≤ (eR len).toInt := q2
        rw [bn3_mk, bn3_s2]
        rcases q3 with ⟨w1, d2, bs2, o1, nd, f, eb, eo, ec⟩ | ⟨w1, w2⟩
        · have w1 : t3 = -1 := w1
          have o1 : oQ rdf len t2 (false, d2, bs2) = oQ rdf len (y + 1) (true, 0, false :: bs) := o1
          have nd : ruD (hQ rdf len t2) = true → d2 = 0 ∨ 3 ≤ d2 := nd
          have eo : ¬ ruOp (hQ rdf len t2) := eo
          have ec : f = false → ¬ ruCm (hQ rdf len t2) := ec
          rw [w1]
          rw [eb] at o1
          rw [← o1]
          obtain ⟨b2, r2, hbs⟩ : ∃ b2 r2, bs = b2 :: r2 := by
            cases bs with
            | nil => exact absurd hb (by show ¬ ((0 : Nat) : Int) = _; omega)
            | cons b2 r2 => exact ⟨b2, r2, rfl⟩
          subst hbs
          by_cases c41 : hQ rdf len t2 = 41
          · have hn2 : ¬ hQ rdf len t2 = -1 := by rw [c41]; decide
            obtain ⟨v1, v2, v3⟩ := hQ_up hl (by omega) q2 hn2
            rw [nd_y c41]
            refine ⟨by show y.toInt ≤ (t2 + 1).toInt; omega, v3, Or.inl ⟨rfl, 0, b2 :: r2, ?_, fun _ => Or.inl rfl, rfl⟩⟩
            exact (ru_go v1 hn2 (by rw [c41]; exact ruS_f.trans rf_close)).symm
          · rw [nd_n c41]
            have o : oQ rdf len t2 (false, d2, f :: b2 :: r2) = t2 := by
              by_cases hn2 : hQ rdf len t2 = -1
              · rw [show oQ rdf len t2 (false, d2, f :: b2 :: r2) = ruN len (false, d2, f :: b2 :: r2) from ru_end hn2, ruN_in]
                exact ((hQ_e hl q2).mp hn2).symm
              · exact stuck hn2 nd eo ec (fun x => absurd x c41)
            rw [o]
            exact ⟨by show y.toInt ≤ t2.toInt; omega, q2, Or.inr ⟨fun q => by have q : t2 = -1 := q; rw [q] at q1; have z : (-1 : Int32).toInt = -1 := (by decide); omega, rfl⟩⟩
        · have w1 : ¬ t3 = -1 := w1
          rw [nd_w w1]
          exact ⟨by show y.toInt ≤ t2.toInt; omega, q2, Or.inr ⟨w1, w2⟩⟩
    · rw [if_neg (show ¬ F_X12_here rdf askf len 40 isA y (-1) = 40 from c40)]
      exact th_pl hl h0 he c45 (Or.inl c40)
/-- a whole rule -/
theorem ru_all (hl : rgI 1 80 len) {t : Int32 × Int32 × Int32} (ht : t = F_X12_held rdf askf len 40 isA (F_X12_thing rdf askf len 40 isA 82) 0 0 (-1)) : F_X12_wasRight rdf askf len 40 isA t.2.1 t.2.2 = (if RuA (fun i => rdf i &&& 255) len = -1 then 1 else 0, t.2.1, RuA (fun i => rdf i &&& 255) len) := by
  have hl0 : rgI 0 80 len := rg_w hl (by decide) (by decide)
  have q := he_ok (rdf := rdf) (askf := askf) (isA := isA) hl0 (th_ok (rdf := rdf) (askf := askf) (isA := isA) hl0 82) (a0 := 0) (y := 0) (r := []) ⟨by decide, by decide⟩ rfl (by decide) (by decide) (eR_t hl0).1.1
  rw [← ht] at q
  have e0 : RuA (fun i => rdf i &&& 255) len = oQ rdf len 0 (true, 0, [false]) := if_neg (fun q => by have h := hl.1; rw [q] at h; exact absurd h (by decide))
  rw [e0]
  generalize oQ rdf len 0 (true, 0, [false]) = o at q ⊢
  obtain ⟨t1, t2, t3⟩ := t
  obtain ⟨q1, q2, q3⟩ := q
  have k2 : t2.toInt ≤ (eR len).toInt := q2
  have k1 : 0 ≤ t2.toInt := q1
  clear q1 q2
  obtain ⟨⟨_, e1⟩, e2⟩ := eR_t hl0
  have z40 : (40 : Int32).toInt = 40 := rfl
  show F_X12_wasRight rdf askf len 40 isA t2 t3 = (if o = -1 then 1 else 0, t2, o)
  unfold F_X12_wasRight
  rcases q3 with ⟨w1, d2, bs2, o1, nd, f, eb, eo, ec⟩ | ⟨w1, w2⟩
  · have w1 : t3 = -1 := w1
    have o1 : oQ rdf len t2 (false, d2, bs2) = o := o1
    have nd : ruD (hQ rdf len t2) = true → d2 = 0 ∨ 3 ≤ d2 := nd
    have eo : ¬ ruOp (hQ rdf len t2) := eo
    have ec : f = false → ¬ ruCm (hQ rdf len t2) := ec
    subst w1
    subst eb
    by_cases c : len ≤ t2
    · have c2 := fz_le.mp c
      have e : t2 = eR len := Int32.toInt_inj.mp (by omega)
      have o2 : oQ rdf len t2 (false, d2, [f]) = -1 := (ru_end ((hQ_e hl0 k2).mpr e)).trans (ruN_fine (fun x => by have := fz_lt.mp x; omega))
      rw [if_pos c, fi1, ← o1, o2, if_pos rfl]
    · have c2 := mt fz_le.mpr c
      have o2 : oQ rdf len t2 (false, d2, [f]) = t2 := by
        by_cases hn2 : hQ rdf len t2 = -1
        · have e := (hQ_e hl0 k2).mp hn2
          have e3 := congrArg Int32.toInt e
          have far : (40 : Int32) < len ∧ t2.toInt = 40 := by
            rcases e2 with e2 | ⟨e2, e4⟩
            · exact absurd (Int.le_of_eq (e3.trans e2).symm) c2
            · exact ⟨fz_lt.mpr (by rw [z40]; exact e4), e3.trans e2⟩
          rw [show oQ rdf len t2 (false, d2, [f]) = ruN len (false, d2, [f]) from ru_end hn2, ruN_far far.1]
          exact Int32.toInt_inj.mp (z40.trans far.2.symm)
        · exact stuck hn2 nd eo ec (fun _ => rfl)
      have nt : ¬ t2 = -1 := fun q => by rw [q] at k1; exact absurd k1 (by decide)
      rw [if_neg c, ft_1, ← o1, o2, if_neg nt]
      show (F_X12_fine rdf askf len 40 isA t2 t2, t2, t2) = _
      rw [fi0 nt]
  · have w1 : ¬ t3 = -1 := w1
    have w2 : t3 = o := w2
    subst w2
    rw [if_neg w1, fi0 w1]
    by_cases c : len ≤ t2
    · rw [if_pos c]
    · rw [if_neg c, ft_w w1]
      show (F_X12_fine rdf askf len 40 isA t2 t3, t2, t3) = _
      rw [fi0 w1]
theorem ru_none {w : Int32 × Int32 × Int32} (hl : rgI 0 0 len) (e : w = F_X12_wasRight rdf askf len 40 isA 0 (-1)) : w.1 = (if RuA (fun i => rdf i &&& 255) len = -1 then 1 else 0) ∧ w.2.2 = RuA (fun i => rdf i &&& 255) len := by
  have e0 : len = 0 := Int32.toInt_inj.mp (by have := hl.1; have := hl.2; have z : (0 : Int32).toInt = 0 := rfl; omega)
  subst e0
  have e1 : RuA (fun i => rdf i &&& 255) 0 = -1 := if_pos rfl
  rw [e, e1, if_pos rfl]
  unfold F_X12_wasRight
  rw [if_pos (show (0 : Int32) ≤ 0 by decide), fi1]
  exact ⟨rfl, rfl⟩
end RUL
