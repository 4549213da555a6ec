/-! ===== years (4: mounts come) ===== -/
theorem e24n {k : Nat} (hk : k < 24) : ((24 : Int32) + nI k).toNatClampNeg = 24 + k := by
  have := add_cl (c := 24) (k := nI k) (n := 24) rfl (by decide) ⟨by rw [nI_toInt (by omega)]; omega, by rw [nI_toInt (by omega)]; omega⟩
  rw [this, nI_cl hk]
theorem e72n {k : Nat} (hk : k < 24) : ((72 : Int32) + nI k).toNatClampNeg = 72 + k := by
  have := add_cl (c := 72) (k := nI k) (n := 72) rfl (by decide) ⟨by rw [nI_toInt (by omega)]; omega, by rw [nI_toInt (by omega)]; omega⟩
  rw [this, nI_cl hk]
theorem e96n {k : Nat} (hk : k < 24) : ((96 : Int32) + nI k).toNatClampNeg = 96 + k := by
  have := add_cl (c := 96) (k := nI k) (n := 96) rfl (by decide) ⟨by rw [nI_toInt (by omega)]; omega, by rw [nI_toInt (by omega)]; omega⟩
  rw [this, nI_cl hk]
theorem e120n : (120 : Int32).toNatClampNeg = 120 := by decide
theorem e121n : (121 : Int32).toNatClampNeg = 121 := by decide
/-- five cells of a mount written -/
def U5 (f : Nat → Int32) (j : Nat) (a d g s v : Int32) : Nat → Int32 := upd (upd (upd (upd (upd f j a) (24 + j) d) (48 + j) g) (72 + j) s) (96 + j) v
section u5
variable {f : Nat → Int32} {j : Nat} {a d g s v : Int32}
theorem U5_0 (hj : j < 24) : U5 f j a d g s v j = a := by unfold U5; rw [upd_ne (by omega), upd_ne (by omega), upd_ne (by omega), upd_ne (by omega), upd_eq]
theorem U5_24 (hj : j < 24) : U5 f j a d g s v (24 + j) = d := by unfold U5; rw [upd_ne (by omega), upd_ne (by omega), upd_ne (by omega), upd_eq]
theorem U5_48 (hj : j < 24) : U5 f j a d g s v (48 + j) = g := by unfold U5; rw [upd_ne (by omega), upd_ne (by omega), upd_eq]
theorem U5_72 (hj : j < 24) : U5 f j a d g s v (72 + j) = s := by unfold U5; rw [upd_ne (by omega), upd_eq]
theorem U5_96 : U5 f j a d g s v (96 + j) = v := by unfold U5; rw [upd_eq]
theorem U5_n {i : Nat} (h0 : ¬ i = j) (h1 : ¬ i = 24 + j) (h2 : ¬ i = 48 + j) (h3 : ¬ i = 72 + j) (h4 : ¬ i = 96 + j) : U5 f j a d g s v i = f i := by unfold U5; rw [upd_ne h4, upd_ne h3, upd_ne h2, upd_ne h1, upd_ne h0]
end u5
section RLs
variable {p q m : Nat → Int32} {t u n : Int32} {f : Nat → Int32}
/-- only what lies below 120, and the next number, count -/
theorem RV.cong2 (h : RV p q m t u n f) {f' : Nat → Int32} {n' : Int32} (e : ∀ i, i < 120 → f' i = f i) (e2 : n' = f' 121) : RV p q m t u n' f' := by
  refine ⟨fun i => ?_, by rw [e 0 (by omega)]; exact h.f0, h.p0, fun i hi w => h.no i hi (by rw [← e i (by omega)]; exact w), fun i h1 h2 w => ?_, fun i hi => by rw [e (48 + i) (by omega)]; exact h.q i hi, fun i hi w => by rw [e (48 + i) (by omega)]; exact h.q0 i hi (by rw [← e i (by omega)]; exact w), fun i hi => ⟨h.m i hi, by rw [e (72 + i) (by omega)]; exact h.m2 i hi, by rw [e (96 + i) (by omega)]; exact h.u2 i hi⟩, h.u0, e2⟩
  · rw [h.t]
    by_cases c : i < 24
    · show (decide (i < 24) && decide (¬ f i = -1)) = (decide (i < 24) && decide (¬ f' i = -1))
      rw [e i (by omega)]
    · rw [decide_eq_false c, Bool.false_and, Bool.false_and]
  · rw [e i (by omega)] at w
    obtain ⟨a, b, ha, hb, hn, e1, e2, e3⟩ := h.pl i h1 h2 w
    exact ⟨a, b, ha, hb, by rw [e a (by omega)]; exact hn, by rw [e i (by omega)]; exact e1, by rw [e (24 + i) (by omega)]; exact e2, e3⟩
theorem RV.cong (h : RV p q m t u n f) {f' : Nat → Int32} (e : ∀ i, i < 120 → f' i = f i) (e2 : f' 121 = f 121) : RV p q m t u n f' := h.cong2 e (by rw [e2]; exact h.n)
theorem RV.put (h : RV p q m t u n f) {k b : Nat} (hk : k < 24) (hb : b < 4) (ht : ¬ f k = -1) (g : Int32) (hf : ct (isT f) 24 < 24) :
    ∃ j : Nat, 1 ≤ j ∧ j < 24 ∧ f j = -1 ∧ F_X10_put p q m t (nI k) (nI b) g 0 = (nI j, upd p j (nI (4 * k + b)), upd q j g, upd m j 0, t ||| (1 <<< (nI j &&& 31))) ∧ F_X12_comes f (nI k) (nI b) g 0 = (nI j, U5 f j (nI k) (nI b) g 0 0) ∧ RV (upd p j (nI (4 * k + b))) (upd q j g) (upd m j 0) (t ||| (1 <<< (nI j &&& 31))) u n (U5 f j (nI k) (nI b) g 0 0) ∧ ct (isT (U5 f j (nI k) (nI b) g 0 0)) 24 = ct (isT f) 24 + 1 := by
  have hl := free_lt hf
  obtain ⟨r1, -, r3⟩ := free_is f
  have r3 := r3 hl
  obtain ⟨j, hj0, ej⟩ := nI_of (x := F_X12_freeOf f) (fun w => by have := fz_lt.mp w; have := r1.1; have z : (0 : Int32).toInt = 0 := rfl; omega)
  have hj : j < 24 := by rw [ej, nI_toInt hj0] at hl; omega
  rw [ej, nI_cl hj] at r3
  have j1 : 1 ≤ j := by
    rcases Nat.eq_zero_or_pos j with w | w
    · rw [w, h.f0] at r3; exact absurd r3 (by decide)
    · exact w
  have jk : ¬ k = j := fun w => ht (by rw [w]; exact r3)
  have ec : F_X12_comes f (nI k) (nI b) g 0 = (nI j, U5 f j (nI k) (nI b) g 0 0) := by
    unfold F_X12_comes
    rw [ej, nI_cl hj, e24n hj, e48 hj, e72n hj, e96n hj]
    rfl
  have cc := cnt_comes (f := f) (m := nI k) (d := nI b) (g := g) (s := 0) (nI_m1 (by omega)) hl
  rw [ec] at cc
  refine ⟨j, j1, hj, r3, ?_, ec, ⟨fun i => ?_, ?_, ?_, fun i hi w => ?_, fun i h1 h2 w => ?_, fun i hi => ?_, fun i hi w => ?_, fun i hi => ⟨?_, ?_, ?_⟩, h.u0, ?_⟩, cc⟩
  · unfold F_X10_put
    rw [h.free, ej, if_neg (k24 hj), nI_cl hj, place_val hk hb]
  · rw [b_or, h.t, bt_one_is (by omega)]
    show _ = (decide (i < 24) && decide (¬ U5 f j (nI k) (nI b) g 0 0 i = -1))
    by_cases c : i = j
    · subst c
      rw [U5_0 hj, decide_eq_true rfl, decide_eq_true hj, Bool.or_true, decide_eq_true (nI_m1 (by omega))]; rfl
    · rw [decide_eq_false c, Bool.or_false]
      by_cases c2 : i < 24
      · rw [U5_n c (by omega) (by omega) (by omega) (by omega)]
      · rw [decide_eq_false c2]; rfl
  · rw [U5_n (by omega) (by omega) (by omega) (by omega) (by omega)]; exact h.f0
  · rw [upd_ne (by omega)]; exact h.p0
  · by_cases c : i = j
    · subst c
      rw [U5_0 hj] at w
      exact absurd w (nI_m1 (by omega))
    · rw [U5_n c (by omega) (by omega) (by omega) (by omega)] at w
      rw [upd_ne c]
      exact h.no i hi w
  · have keep : ∀ a : Nat, a < 24 → ¬ f a = -1 → ¬ U5 f j (nI k) (nI b) g 0 0 a = -1 := fun a ha hn => by
      by_cases c : a = j
      · subst c; exact absurd r3 hn
      · rw [U5_n c (by omega) (by omega) (by omega) (by omega)]; exact hn
    by_cases c : i = j
    · subst c
      exact ⟨k, b, hk, hb, keep k hk ht, U5_0 hj, U5_24 hj, upd_eq⟩
    · rw [U5_n c (by omega) (by omega) (by omega) (by omega)] at w
      obtain ⟨a, d, ha, hd, hn, e1, e2, e3⟩ := h.pl i h1 h2 w
      refine ⟨a, d, ha, hd, keep a ha hn, ?_, ?_, ?_⟩
      · rw [U5_n c (by omega) (by omega) (by omega) (by omega)]; exact e1
      · rw [U5_n (by omega) (by omega) (by omega) (by omega) (by omega)]; exact e2
      · rw [upd_ne c]; exact e3
  · by_cases c : i = j
    · subst c; rw [upd_eq, U5_48 hj]
    · rw [upd_ne c, U5_n (by omega) (by omega) (by omega) (by omega) (by omega)]; exact h.q i hi
  · by_cases c : i = j
    · subst c
      rw [U5_0 hj] at w
      exact absurd w (nI_m1 (by omega))
    · rw [U5_n c (by omega) (by omega) (by omega) (by omega)] at w
      rw [U5_n (by omega) (by omega) (by omega) (by omega) (by omega)]
      exact h.q0 i hi w
  · by_cases c : i = j
    · subst c; exact upd_eq
    · rw [upd_ne c]; exact h.m i hi
  · by_cases c : i = j
    · subst c; exact U5_72 hj
    · rw [U5_n (by omega) (by omega) (by omega) (by omega) (by omega)]; exact h.m2 i hi
  · by_cases c : i = j
    · subst c; exact U5_96
    · rw [U5_n (by omega) (by omega) (by omega) (by omega) (by omega)]; exact h.u2 i hi
  · rw [U5_n (by omega) (by omega) (by omega) (by omega) (by omega)]; exact h.n
/-- the least of those still to come, beside those that stand -/
theorem RV.bring_loop (rl r2 r3 : Nat → Int32) (c : Int32) {H X : Int32} {k b : Nat} (hk : k < 24) (hb : b < 4) (hX : ∀ i, bt X i = (bt H i || decide (i = k))) (hk0 : bt H k = false) (G sp sh fa fb m22 : Int32) (h3 : Nat → Int32) :
    ∀ (j l nn n2 : Nat) (p q m : Nat → Int32) (t : Int32) (f : Nat → Int32), l + j = 24 → j < nn → j < n2 → RV p q m t u n f → (¬ f k = -1) → q k = G → (∀ i, bt H i = true → i < 24 ∧ ¬ f i = -1 ∧ q i = G) → ct (isT f) 24 + ct (bt H) 24 ≤ 24 + ct (bt H) l →
    ∃ (p' q' m' : Nat → Int32) (t' : Int32) (f' : Nat → Int32), F_X0_bring_87 nn (nI k) (nI b) X sp G 0 sh fa (nI l) p q m h3 t m22 n = (p', q', m', h3, t', m22, n) ∧ F_X12_goClone_x_182 n2 (nI k) (nI b) H sh 0 fb (nI l) f rl r2 r3 0 c = (f', r2, r3, c) ∧ RV p' q' m' t' u n f' := by
  intro j
  induction j with
  | zero =>
    intro l nn n2 p q m t f hl h1 h2 hR hkt hG hH hc
    obtain ⟨nn, rfl⟩ : ∃ z, nn = z + 1 := ⟨nn - 1, by omega⟩
    obtain ⟨n2, rfl⟩ : ∃ z, n2 = z + 1 := ⟨n2 - 1, by omega⟩
    have e : l = 24 := by omega
    subst e
    refine ⟨p, q, m, t, f, ?_, ?_, hR⟩
    · rw [F_X0_bring_87, if_pos k24e]
    · rw [F_X12_goClone_x_182, if_pos k24e]
  | succ j ih =>
    intro l nn n2 p q m t f hl h1 h2 hR hkt hG hH hc
    obtain ⟨nn, rfl⟩ : ∃ z, nn = z + 1 := ⟨nn - 1, by omega⟩
    obtain ⟨n2, rfl⟩ : ∃ z, n2 = z + 1 := ⟨n2 - 1, by omega⟩
    have hl2 : l < 24 := by omega
    have cm : ct (bt H) l ≤ ct (bt H) (l + 1) := ct_mon (l + 1) (by omega)
    have skip : ∃ (p' q' m' : Nat → Int32) (t' : Int32) (f' : Nat → Int32), F_X0_bring_87 nn (nI k) (nI b) X sp G 0 sh fa (nI (l + 1)) p q m h3 t m22 n = (p', q', m', h3, t', m22, n) ∧ F_X12_goClone_x_182 n2 (nI k) (nI b) H sh 0 fb (nI (l + 1)) f rl r2 r3 0 c = (f', r2, r3, c) ∧ RV p' q' m' t' u n f' :=
      ih (l + 1) nn n2 p q m t f (by omega) (by omega) (by omega) hR hkt hG hH (by omega)
    rw [F_X0_bring_87, F_X12_goClone_x_182, if_neg (k24 hl2), if_neg (k24 hl2), nI_s]
    by_cases c1 : l = k
    · have c1' : nI l = nI k := by rw [c1]
      have hz : F_X12_has H (nI l) = 0 := by
        rcases has_k (b := H) hl2 with ⟨e, -⟩ | ⟨-, e⟩
        · exact e
        · rw [c1, hk0] at e; cases e
      rw [if_pos c1', if_pos hz]
      exact skip
    · have c1' : ¬ nI l = nI k := fun w => c1 (nI_inj (by omega) (by omega) w)
      rw [if_neg c1']
      rcases has_k (b := H) hl2 with ⟨e, e2⟩ | ⟨e, e2⟩
      · have hz : X &&& (1 <<< (nI l &&& 31)) = 0 := (bit_and0 (by omega)).mpr (by rw [hX, e2, decide_eq_false c1]; rfl)
        rw [if_pos hz, if_pos e]
        exact skip
      · have hz : ¬ X &&& (1 <<< (nI l &&& 31)) = 0 := fun w => by
          have := (bit_and0 (by omega)).mp w
          rw [hX, e2] at this
          cases this
        obtain ⟨-, lt, lG⟩ := hH l e2
        have gl : F_X10_groupOf q (nI l) = G := by
          unfold F_X10_groupOf
          rw [if_neg (nI_nn (by omega)), if_neg (k24 hl2), nI_cl hl2]
          exact lG
        have gr : f ((48 : Int32) + nI l).toNatClampNeg = f ((48 : Int32) + nI k).toNatClampNeg := by
          rw [e48 hl2, e48 hk, ← hR.q l hl2, ← hR.q k hk, lG, hG]
        have cs : ct (bt H) (l + 1) = ct (bt H) l + 1 := ct_s e2
        have c24 : ct (bt H) (l + 1) ≤ ct (bt H) 24 := ct_mon 24 (by omega)
        obtain ⟨jj, j1, j2, jf, ep, ec, hR', ct'⟩ := hR.put hl2 hb lt sh (by omega)
        rw [if_neg hz, if_pos gl, if_neg (show ¬ F_X12_has H (nI l) = 0 by rw [e]; decide), if_pos gr, ep, ec]
        have fr : ∀ i, i < 24 → ¬ f i = -1 → ¬ i = jj := fun i _ hi w => hi (by rw [w]; exact jf)
        refine ih (l + 1) nn n2 (upd p jj (nI (4 * l + b))) (upd q jj sh) (upd m jj 0) (t ||| ((1 : Int32) <<< (nI jj &&& 31))) (U5 f jj (nI l) (nI b) sh 0 0) (by omega) (by omega) (by omega) hR' ?_ ?_ (fun i hi => ?_) (by omega)
        · rw [U5_n (fr k hk hkt) (by omega) (by omega) (by omega) (by omega)]; exact hkt
        · rw [upd_ne (fr k hk hkt)]; exact hG
        · obtain ⟨a1, a2, a3⟩ := hH i hi
          refine ⟨a1, ?_, ?_⟩
          · rw [U5_n (fr i a1 a2) (by omega) (by omega) (by omega) (by omega)]; exact a2
          · rw [upd_ne (fr i a1 a2)]; exact a3
end RLs
/-- heirs: nobody asks for a new group -/
theorem heirs_n {q : Nat → Int32} {n S own sh : Int32} (hS : ∀ i, i < 24 → bt S i = true → q i = 0 ∨ (q i = own ∧ ¬ sh = 0)) : ∀ (j l nn : Nat) (r3 : Nat → Int32), l + j = 24 → j < nn → (F_X0_nameHeirs_3 nn S own sh (nI l) q r3 n).2 = n := by
  intro j
  induction j with
  | zero =>
    intro l nn r3 hl hn
    obtain ⟨nn, rfl⟩ : ∃ z, nn = z + 1 := ⟨nn - 1, by omega⟩
    have e : l = 24 := by omega
    subst e
    rw [F_X0_nameHeirs_3, if_pos k24e]
  | succ j ih =>
    intro l nn r3 hl hn
    obtain ⟨nn, rfl⟩ : ∃ z, nn = z + 1 := ⟨nn - 1, by omega⟩
    have hl2 : l < 24 := by omega
    have gl : F_X10_groupOf q (nI l) = q l := by
      unfold F_X10_groupOf
      rw [if_neg (nI_nn (by omega)), if_neg (k24 hl2), nI_cl hl2]
    rw [F_X0_nameHeirs_3, if_neg (k24 hl2), nI_s, gl]
    by_cases c : S &&& (1 <<< (nI l &&& 31)) = 0
    · rw [if_pos c]
      exact ih (l + 1) nn _ (by omega) (by omega)
    · rw [if_neg c]
      have bl : bt S l = true := by
        cases h : bt S l with
        | true => rfl
        | false => exact absurd ((bit_and0 (by omega)).mpr h) c
      by_cases c0 : q l = 0
      · rw [if_pos c0]
        exact ih (l + 1) nn _ (by omega) (by omega)
      · rcases hS l hl2 bl with w | ⟨w, w2⟩
        · exact absurd w c0
        · rw [if_neg c0, if_pos w, if_neg w2]
          exact ih (l + 1) nn _ (by omega) (by omega)
/-- the reference's names for groups: nothing new is laid -/
theorem clone_102 {f : Nat → Int32} (rl r2 r3 : Nat → Int32) {c S : Int32} (y3 y4 y6 y7 y8 : Int32) (hS : ∀ i, i < 24 → bt S i = true → f (48 + i) = 0 ∨ ¬ F_X12_newOf_x r2 r3 c (f (48 + i)) = 0) : ∀ (j l nn : Nat), l + j = 24 → j < nn → F_X12_goClone_x_102 nn y3 y4 S y6 y7 y8 (nI l) f rl r2 r3 0 c = (f, r2, r3, c) := by
  intro j
  induction j with
  | zero =>
    intro l nn hl hn
    obtain ⟨nn, rfl⟩ : ∃ z, nn = z + 1 := ⟨nn - 1, by omega⟩
    have e : l = 24 := by omega
    subst e
    rw [F_X12_goClone_x_102, if_pos k24e]
  | succ j ih =>
    intro l nn hl hn
    obtain ⟨nn, rfl⟩ : ∃ z, nn = z + 1 := ⟨nn - 1, by omega⟩
    have hl2 : l < 24 := by omega
    rw [F_X12_goClone_x_102, if_neg (k24 hl2), nI_s, e48 hl2]
    rcases has_k (b := S) hl2 with ⟨e, e2⟩ | ⟨e, e2⟩
    · rw [if_pos e]
      exact ih (l + 1) nn (by omega) (by omega)
    · rw [if_neg (show ¬ F_X12_has S (nI l) = 0 by rw [e]; decide)]
      by_cases c0 : f (48 + l) = 0
      · rw [if_pos c0]
        exact ih (l + 1) nn (by omega) (by omega)
      · rw [if_neg c0, if_neg ((hS l hl2 e2).resolve_left c0)]
        exact ih (l + 1) nn (by omega) (by omega)
theorem new_1 {r2 r3 : Nat → Int32} {G own : Int32} (hG : ¬ G = 0) : F_X12_newOf_x (upd r2 (Int32.toNatClampNeg 0) G) (upd r3 (Int32.toNatClampNeg 0) own) (0 + 1) G = own := by
  show F_X12_newOf_x_2 (25 + 1) G 0 (upd r2 (Int32.toNatClampNeg 0) G) (upd r3 (Int32.toNatClampNeg 0) own) (0 + 1) = own
  rw [F_X12_newOf_x_2, if_neg (by decide), if_neg hG, upd_eq, if_pos rfl, upd_eq]
/-- the class's way behind the shared group -/
def BRB (p q m r3 : Nat → Int32) (t m22 n1 fr a d X sh : Int32) : Int32 × (Nat → Int32) × (Nat → Int32) × (Nat → Int32) × (Nat → Int32) × Int32 × Int32 × Int32 :=
  tu2 (F_X0_nameHeirs q r3 n1 (F_X10_spreadOf q m a) (F_X10_groupOf q a) sh) (fun z97 z98 => tu5 (F_X10_put p q m t a d sh (F_X10_masterOf m fr)) (fun z99 z100 z101 z102 z103 => tu7 (F_X0_bring_87 26 a d X (F_X10_spreadOf q m a) (F_X10_groupOf q a) (F_X10_masterOf m fr) sh z99 0 z100 z101 z102 z97 z103 m22 z98) (fun z104 z105 z106 z107 z108 z109 z110 => (z99, z104, z105, z106, z107, z108, z109 + 1, z110))))
/-- the reference's -/
def GCB (f rl r2 r3 : Nat → Int32) (c a d S H own mas : Int32) : Int32 × (Nat → Int32) × (Nat → Int32) × (Nat → Int32) × Int32 :=
  tu4 (F_X12_goClone_x_102 26 a d S H own mas 0 f rl r2 r3 0 c) (fun z452 z453 z454 z455 => tu2 (F_X12_comes z452 a d own mas) (fun z456 z457 => tu4 (F_X12_goClone_x_182 26 a d H own mas z456 0 z457 rl z453 z454 0 z455) (fun z458 z459 z460 z461 => (z456, upd z458 (Int32.toNatClampNeg 120) (z458 (Int32.toNatClampNeg 120) + 1), z459, z460, z461))))
section RLs
variable {p q m : Nat → Int32} {t u n : Int32} {f : Nat → Int32}
theorem RV.h120 (h : RV p q m t u n f) (x : Int32) : RV p q m t u n (upd f (Int32.toNatClampNeg 120) x) := by
  rw [e120n]
  exact h.cong (fun i hi => upd_ne (by omega)) (upd_ne (by omega))
theorem RV.ng (h : RV p q m t u n f) : F_X10_newGroup n = (n, n + 1) ∧ F_X12_newGroup f = (n, upd f 121 (n + 1)) ∧ RV p q m t u (n + 1) (upd f 121 (n + 1)) := by
  refine ⟨?_, ?_, ?_⟩
  · unfold F_X10_newGroup
    rw [Int32.add_sub_cancel]
  · unfold F_X12_newGroup
    rw [e121n, upd_eq, Int32.add_sub_cancel, ← h.n]
  · exact h.cong2 (fun i hi => upd_ne (by omega)) upd_eq.symm
theorem gOf {k : Nat} (hk : k < 24) : F_X10_groupOf q (nI k) = q k := by
  unfold F_X10_groupOf
  rw [if_neg (nI_nn (by omega)), if_neg (k24 hk), nI_cl hk]
theorem RV.mas0 (h : RV p q m t u n f) (a : Int32) : F_X10_masterOf m a = 0 := by
  unfold F_X10_masterOf
  by_cases c1 : a < 0
  · rw [if_pos c1]
  · rw [if_neg c1]
    by_cases c2 : (24 : Int32) ≤ a
    · rw [if_pos c2]
    · rw [if_neg c2]
      obtain ⟨k, hk, e⟩ := nI_of c1
      have hk2 : k < 24 := by
        have w := fz_lt.mp (nle_lt c2)
        rw [e, nI_toInt hk] at w
        have z : (24 : Int32).toInt = 24 := rfl
        omega
      rw [e, nI_cl hk2]
      exact h.m k hk2
/-- both bring the same mounts -/
theorem RV.body (h : RV p q m t u n f) (rl r2 r3 h3 : Nat → Int32) (c fr m22 sh : Int32) {H X : Int32} {k b : Nat} (hk : k < 24) (hb : b < 4) (ht : ¬ f k = -1) (hHI : HI f q H X k) (hsh : ¬ q k = 0 → ¬ sh = 0) (hc : q k = 0 ∨ ¬ F_X12_newOf_x r2 r3 c (q k) = 0) :
    ∃ (r r' : Int32) (p' q' m' h3' : Nat → Int32) (t' : Int32) (f' : Nat → Int32), BRB p q m h3 t m22 n fr (nI k) (nI b) X sh = (r, p', q', m', h3', t', m22 + 1, n) ∧ GCB f rl r2 r3 c (nI k) (nI b) (F_X12_spreadOf f (nI k)) H sh 0 = (r', f', r2, r3, c) ∧ RV p' q' m' t' u n f' := by
  obtain ⟨hX, hk0, hH, hct⟩ := hHI
  have sp : ∀ i, i < 24 → bt (F_X10_spreadOf q m (nI k)) i = true → q i = 0 ∨ (q i = q k ∧ ¬ q k = 0) := fun i hi w => by
    rw [spread_c h.m hk] at w
    by_cases ik : i = k
    · rw [ik]
      by_cases z : q k = 0
      · exact Or.inl z
      · exact Or.inr ⟨rfl, z⟩
    · exact Or.inr (spb_g w ik)
  have hn : (F_X0_nameHeirs_3 26 (F_X10_spreadOf q m (nI k)) (q k) sh (nI 0) q h3 n).2 = n := heirs_n (fun i hi w => (sp i hi w).imp id (fun z => ⟨z.1, hsh z.2⟩)) 24 0 26 h3 rfl (by decide)
  obtain ⟨h3', eh⟩ : ∃ h3', F_X0_nameHeirs q h3 n (F_X10_spreadOf q m (nI k)) (q k) sh = (h3', n) := ⟨(F_X0_nameHeirs_3 26 (F_X10_spreadOf q m (nI k)) (q k) sh (nI 0) q h3 n).1, by
    show ((F_X0_nameHeirs_3 26 (F_X10_spreadOf q m (nI k)) (q k) sh (nI 0) q h3 n).1, (F_X0_nameHeirs_3 26 (F_X10_spreadOf q m (nI k)) (q k) sh (nI 0) q h3 n).2) = _
    rw [hn]⟩
  have e102 : F_X12_goClone_x_102 26 (nI k) (nI b) (F_X12_spreadOf f (nI k)) H sh 0 0 f rl r2 r3 0 c = (f, r2, r3, c) := clone_102 rl r2 r3 _ _ _ _ _ (fun i hi w => by
    rw [← h.spread hk] at w
    rw [← h.q i hi]
    rcases sp i hi w with z | ⟨z, z2⟩
    · exact Or.inl z
    · rw [z]; exact Or.inr (hc.resolve_left z2)) 24 0 26 rfl (by decide)
  obtain ⟨jj, j1, j2, jf, ep, ec, hR', ct'⟩ := h.put hk hb ht sh (by omega)
  have frn : ∀ i, ¬ f i = -1 → ¬ i = jj := fun i hi w => hi (by rw [w]; exact jf)
  obtain ⟨p', q', m', t', f', e1, e2, hR2⟩ := RV.bring_loop rl r2 r3 c hk hb hX hk0 (q k) (F_X10_spreadOf q m (nI k)) sh (nI jj) (nI jj) m22 h3' 24 0 26 26 _ _ _ _ _ rfl (by decide) (by decide) hR'
    (by rw [U5_n (frn k ht) (by omega) (by omega) (by omega) (by omega)]; exact ht)
    (by rw [upd_ne (frn k ht)])
    (fun i hi => by
      obtain ⟨a1, a2, a3, -⟩ := hH i hi
      refine ⟨a1, ?_, ?_⟩
      · rw [U5_n (frn i a2) (by omega) (by omega) (by omega) (by omega)]; exact a2
      · rw [upd_ne (frn i a2)]; exact a3)
    (by have : ct (bt H) 0 = 0 := rfl; omega)
  refine ⟨nI jj, nI jj, p', q', m', h3', t', upd f' (Int32.toNatClampNeg 120) (f' (Int32.toNatClampNeg 120) + 1), ?_, ?_, hR2.h120 _⟩
  · unfold BRB
    have e1 : F_X0_bring_87 26 (nI k) (nI b) X (F_X10_spreadOf q m (nI k)) (q k) 0 sh (nI jj) 0 (upd p jj (nI (4 * k + b))) (upd q jj sh) (upd m jj 0) h3' (t ||| (1 <<< (nI jj &&& 31))) m22 n = (p', q', m', h3', t', m22, n) := e1
    rw [gOf hk, h.mas0, eh, tu2_eq, ep, tu5_eq, e1, tu7_eq]
  · have e2 : F_X12_goClone_x_182 26 (nI k) (nI b) H sh 0 (nI jj) 0 (U5 f jj (nI k) (nI b) sh 0 0) rl r2 r3 0 c = (f', r2, r3, c) := e2
    unfold GCB
    rw [e102, tu4_eq, ec, tu2_eq, e2, tu4_eq]
theorem HI.cong {H X : Int32} {k : Nat} (h : HI f q H X k) {f' : Nat → Int32} (e : ∀ i, i < 24 → f' i = f i) : HI f' q H X k :=
  ⟨h.1, h.2.1, fun i hi => by
    obtain ⟨a1, a2, a3⟩ := h.2.2.1 i hi
    exact ⟨a1, by rw [e i a1]; exact a2, a3⟩, by
    have := h.2.2.2
    rw [ct_cong (q := isT f) 24 (fun i hi => by show decide (¬ f' i = -1) = decide (¬ f i = -1); rw [e i hi])]
    exact this⟩
theorem RV.bring (h : RV p q m t u n f) (hn : ¬ n = 0) (rl r2 r3 h3 : Nat → Int32) (c m22 fr : Int32) (hfr : fr = 24 ∨ ∃ kk, kk < 24 ∧ fr = nI kk) {X : Int32} {k b : Nat} (hk : k < 24) (hb : b < 4) (ht : ¬ f k = -1) (hHI : HI f q (F_X12_hitsOf_x f rl 0 (nI k) (nI b)) X k) :
    ∃ (r r' : Int32) (p' q' m' h3' : Nat → Int32) (t' : Int32) (f' r2' r3' : Nat → Int32) (c' n' : Int32), F_X0_bring p q m h3 t m22 n fr (nI k) (nI b) X = (r, p', q', m', h3', t', m22 + 1, n') ∧ F_X12_goClone_x f rl r2 r3 0 c fr (nI k) (nI b) = (r', f', r2', r3', c') ∧ RV p' q' m' t' u n' f' ∧ (n' = n ∨ n' = n + 1) := by
  obtain ⟨n1, n2, hR1⟩ := h.ng
  have hl : ∀ own G : Int32, F_X12_layNew_x r2 r3 0 G own = (upd r2 (Int32.toNatClampNeg 0) G, upd r3 (Int32.toNatClampNeg 0) own, 0 + 1) := fun _ _ => rfl
  have eq48 : f (Int32.toNatClampNeg ((48 : Int32) + nI k)) = q k := by rw [e48 hk, h.q k hk]
  have eu : (upd f 121 (n + 1)) (Int32.toNatClampNeg ((48 : Int32) + nI k)) = q k := by rw [e48 hk, upd_ne (by omega), h.q k hk]
  have sp1 : F_X12_spreadOf (upd f 121 (n + 1)) (nI k) = F_X12_spreadOf f (nI k) := (hR1.spread hk).symm.trans (h.spread hk)
  have hHI1 : HI (upd f 121 (n + 1)) q (F_X12_hitsOf_x f rl 0 (nI k) (nI b)) X k := hHI.cong (fun i hi => upd_ne (by omega))
  have ht1 : ¬ upd f 121 (n + 1) k = -1 := by rw [upd_ne (by omega)]; exact ht
  -- the class's three ways
  have cA : F_X10_groupOf q fr = 0 → q k = 0 → F_X0_bring p q m h3 t m22 n fr (nI k) (nI b) X = BRB p q m h3 t m22 n fr (nI k) (nI b) X 0 := fun w1 w2 => by
    have e : F_X0_bring p q m h3 t m22 n fr (nI k) (nI b) X = BRB p q m h3 t m22 n fr (nI k) (nI b) X (F_X10_groupOf q fr) := by
      unfold F_X0_bring
      rw [if_pos w1, gOf hk, if_pos w2]
      unfold BRB
      rw [gOf hk]
    rw [e, w1]
  have cB : F_X10_groupOf q fr = 0 → ¬ q k = 0 → F_X0_bring p q m h3 t m22 n fr (nI k) (nI b) X = BRB p q m h3 t m22 (n + 1) fr (nI k) (nI b) X n := fun w1 w2 => by
    unfold F_X0_bring
    rw [if_pos w1, gOf hk, if_neg w2, n1]
    unfold BRB
    rw [gOf hk]
  have cC : ¬ F_X10_groupOf q fr = 0 → F_X0_bring p q m h3 t m22 n fr (nI k) (nI b) X = BRB p q m h3 t m22 n fr (nI k) (nI b) X (F_X10_groupOf q fr) := fun w1 => by
    unfold F_X0_bring
    rw [if_neg w1]
    unfold BRB
    rfl
  have two : ∀ own : Int32, ¬ own = 0 → ¬ q k = 0 → ∃ (r r' : Int32) (p' q' m' h3' : Nat → Int32) (t' : Int32) (f' : Nat → Int32), BRB p q m h3 t m22 n fr (nI k) (nI b) X own = (r, p', q', m', h3', t', m22 + 1, n) ∧ GCB f rl (upd r2 (Int32.toNatClampNeg 0) (q k)) (upd r3 (Int32.toNatClampNeg 0) own) (0 + 1) (nI k) (nI b) (F_X12_spreadOf f (nI k)) (F_X12_hitsOf_x f rl 0 (nI k) (nI b)) own 0 = (r', f', upd r2 (Int32.toNatClampNeg 0) (q k), upd r3 (Int32.toNatClampNeg 0) own, 0 + 1) ∧ RV p' q' m' t' u n f' := fun own w0 w => h.body rl _ _ h3 (0 + 1) fr m22 own hk hb ht hHI (fun _ => w0) (Or.inr (by rw [new_1 w]; exact w0))
  have one : q k = 0 → ∀ own : Int32, ∃ (r r' : Int32) (p' q' m' h3' : Nat → Int32) (t' : Int32) (f' : Nat → Int32), BRB p q m h3 t m22 n fr (nI k) (nI b) X own = (r, p', q', m', h3', t', m22 + 1, n) ∧ GCB f rl r2 r3 0 (nI k) (nI b) (F_X12_spreadOf f (nI k)) (F_X12_hitsOf_x f rl 0 (nI k) (nI b)) own 0 = (r', f', r2, r3, 0) ∧ RV p' q' m' t' u n f' := fun w own => h.body rl r2 r3 h3 0 fr m22 own hk hb ht hHI (fun z => absurd w z) (Or.inl w)
  have new : ¬ q k = 0 → ∃ (r r' : Int32) (p' q' m' h3' : Nat → Int32) (t' : Int32) (f' : Nat → Int32), BRB p q m h3 t m22 (n + 1) fr (nI k) (nI b) X n = (r, p', q', m', h3', t', m22 + 1, n + 1) ∧ GCB (upd f 121 (n + 1)) rl (upd r2 (Int32.toNatClampNeg 0) (q k)) (upd r3 (Int32.toNatClampNeg 0) n) (0 + 1) (nI k) (nI b) (F_X12_spreadOf f (nI k)) (F_X12_hitsOf_x f rl 0 (nI k) (nI b)) n 0 = (r', f', upd r2 (Int32.toNatClampNeg 0) (q k), upd r3 (Int32.toNatClampNeg 0) n, 0 + 1) ∧ RV p' q' m' t' u (n + 1) f' := fun w => by
    have := hR1.body rl (upd r2 (Int32.toNatClampNeg 0) (q k)) (upd r3 (Int32.toNatClampNeg 0) n) h3 (0 + 1) fr m22 n hk hb ht1 hHI1 (fun _ => hn) (Or.inr (by rw [new_1 w]; exact hn))
    rw [sp1] at this
    exact this
  rcases hfr with e24 | ⟨kk, hkk, ekk⟩
  · have g24 : F_X10_groupOf q fr = 0 := by
      rw [e24]
      unfold F_X10_groupOf
      rw [if_neg (by decide), if_pos (by decide)]
    by_cases w : q k = 0
    · obtain ⟨r, r', p', q', m', h3', t', f', e1, e2, e3⟩ := one w 0
      refine ⟨r, r', p', q', m', h3', t', f', r2, r3, 0, n, (cA g24 w).trans e1, ?_, e3, Or.inl rfl⟩
      rw [← e2]
      unfold F_X12_goClone_x
      rw [if_pos e24, if_pos e24, eq48, if_pos w, if_pos w]
      rfl
    · obtain ⟨r, r', p', q', m', h3', t', f', e1, e2, e3⟩ := new w
      refine ⟨r, r', p', q', m', h3', t', f', upd r2 (Int32.toNatClampNeg 0) (q k), upd r3 (Int32.toNatClampNeg 0) n, 0 + 1, n + 1, (cB g24 w).trans e1, ?_, e3, Or.inr rfl⟩
      rw [← e2]
      unfold F_X12_goClone_x
      rw [if_pos e24, if_pos e24, eq48, if_neg w, n2, tu2_eq, eu, if_neg w]
      rfl
  · have n24 : ¬ fr = 24 := fun w => by
      rw [ekk] at w
      exact k24 hkk (by rw [w]; decide)
    have gkk : F_X10_groupOf q fr = q kk := by rw [ekk, gOf hkk]
    have fkk : f (Int32.toNatClampNeg ((48 : Int32) + fr)) = q kk := by rw [ekk, e48 hkk, h.q kk hkk]
    have mkk : f (Int32.toNatClampNeg ((72 : Int32) + fr)) = 0 := by rw [ekk, e72n hkk]; exact h.m2 kk hkk
    by_cases w : q k = 0
    · obtain ⟨r, r', p', q', m', h3', t', f', e1, e2, e3⟩ := one w (q kk)
      refine ⟨r, r', p', q', m', h3', t', f', r2, r3, 0, n, ?_, ?_, e3, Or.inl rfl⟩
      · rw [← e1]
        by_cases w2 : q kk = 0
        · rw [cA (by rw [gkk]; exact w2) w, w2]
        · rw [cC (by rw [gkk]; exact w2), gkk]
      · rw [← e2]
        unfold F_X12_goClone_x
        rw [if_neg n24, if_neg n24, eq48, if_pos w, if_pos w, fkk, mkk]
        rfl
    · by_cases w2 : q kk = 0
      · obtain ⟨r, r', p', q', m', h3', t', f', e1, e2, e3⟩ := new w
        refine ⟨r, r', p', q', m', h3', t', f', upd r2 (Int32.toNatClampNeg 0) (q k), upd r3 (Int32.toNatClampNeg 0) n, 0 + 1, n + 1, (cB (by rw [gkk]; exact w2) w).trans e1, ?_, e3, Or.inr rfl⟩
        rw [← e2]
        unfold F_X12_goClone_x
        rw [if_neg n24, if_neg n24, eq48, if_neg w, fkk, mkk, if_pos w2, n2, tu2_eq, eu, if_neg w]
        rfl
      · obtain ⟨r, r', p', q', m', h3', t', f', e1, e2, e3⟩ := two (q kk) w2 w
        refine ⟨r, r', p', q', m', h3', t', f', upd r2 (Int32.toNatClampNeg 0) (q k), upd r3 (Int32.toNatClampNeg 0) (q kk), 0 + 1, n, ?_, ?_, e3, Or.inl rfl⟩
        · rw [cC (by rw [gkk]; exact w2), gkk]; exact e1
        · rw [← e2]
          unfold F_X12_goClone_x
          rw [if_neg n24, if_neg n24, eq48, if_neg w, fkk, mkk, if_neg w2, if_neg w]
          rfl
end RLs
