/-! ===== trees that stand: making, moving, leaving, clearing ===== -/
theorem VA_goMake2 {f : Nat → Int32} {Q : Int32 → Prop} {m v : Int32} (q0 : Q 0) (qn : v = 1 → f (48 + m.toNatClampNeg) = 0 → Q (f 121)) (hm : rgI 0 23 m) (ht : tN f m.toNatClampNeg) (h : VA f Q) : VA (F_X12_goMake f m v) Q ∧ (F_X12_goMake f m v 121 = f 121 ∨ F_X12_goMake f m v 121 = f 121 + 1) ∧ ∀ j, j < 48 → F_X12_goMake f m v j = f j := by
  have rw24 : rgI 0 24 m := rg_w hm (by decide) (by decide)
  have e48 : ((48 : Int32) + m).toNatClampNeg = 48 + m.toNatClampNeg := add_cl (n := 48) rfl (by decide) rw24
  have e72 : ((72 : Int32) + m).toNatClampNeg = 72 + m.toNatClampNeg := add_cl (n := 72) rfl (by decide) rw24
  have e96 : ((96 : Int32) + m).toNatClampNeg = 96 + m.toNatClampNeg := add_cl (n := 96) rfl (by decide) rw24
  have e120 : (120 : Int32).toNatClampNeg = 120 := by decide
  have e121 : (121 : Int32).toNatClampNeg = 121 := by decide
  have hml := ht.1
  obtain ⟨o1, o2⟩ := VA_goOut q0 hm ht h
  have o121 := o2 121 (Or.inr (by decide))
  unfold F_X12_goMake
  rw [e48, e72, e96, e120]
  by_cases c1 : v = 1
  · rw [if_pos c1]
    by_cases c2 : upd f (96 + m.toNatClampNeg) 0 (48 + m.toNatClampNeg) = 0
    · rw [if_pos c2]
      unfold F_X12_newGroup
      rw [e121, upd_eq, upd_ne (show 121 ≠ 96 + m.toNatClampNeg by omega)]
      have ec : f 121 + 1 - 1 = f 121 := by rw [Int32.add_sub_cancel]
      rw [ec]
      refine ⟨VA_hi (by omega) (VA_g hml (qn c1 (by rw [← upd_ne (f := f) (k := 96 + m.toNatClampNeg) (x := 0) (show 48 + m.toNatClampNeg ≠ 96 + m.toNatClampNeg by omega)]; exact c2)) (VA_hi (by omega) (VA_hi (by omega) h))), Or.inr ?_, fun j hj => ?_⟩
      · rw [upd_ne (show (121 : Nat) ≠ 120 by omega), upd_ne (show 121 ≠ 48 + m.toNatClampNeg by omega)]
        show upd (upd f (96 + m.toNatClampNeg) 0) 121 (f 121 + 1) 121 = f 121 + 1
        exact upd_eq
      · rw [upd_ne (by omega), upd_ne (by omega)]
        show upd (upd f (96 + m.toNatClampNeg) 0) 121 (f 121 + 1) j = f j
        rw [upd_ne (by omega), upd_ne (by omega)]
    · rw [if_neg c2]
      refine ⟨VA_hi (by omega) (VA_hi (by omega) h), Or.inl ?_, fun j hj => ?_⟩
      · rw [upd_ne (by omega), upd_ne (by omega)]
      · rw [upd_ne (by omega), upd_ne (by omega)]
  · rw [if_neg c1]
    by_cases c2 : v = 2
    · rw [if_pos c2]
      by_cases c3 : F_J6_bitCount_0f7a4 (F_X12_inGroup f (f (48 + m.toNatClampNeg))) ≤ 1
      · rw [if_pos c3]
        refine ⟨VA_hi (by omega) o1, Or.inl ?_, fun j hj => ?_⟩
        · rw [upd_ne (by omega)]; exact o121
        · rw [upd_ne (by omega)]; exact o2 j (Or.inl hj)
      · rw [if_neg c3]
        obtain ⟨p1, p2⟩ := VA_goOut (f := upd f (72 + m.toNatClampNeg) (f (48 + m.toNatClampNeg))) q0 hm ⟨hml, by rw [upd_ne (by omega)]; exact ht.2⟩ (VA_m hml (h _ hml ht).1 h)
        refine ⟨VA_hi (by omega) p1, Or.inl ?_, fun j hj => ?_⟩
        · rw [upd_ne (by omega), p2 121 (Or.inr (by decide)), upd_ne (by omega)]
        · rw [upd_ne (by omega), p2 j (Or.inl hj), upd_ne (by omega)]
    · rw [if_neg c2]
      by_cases c3 : v = 3
      · rw [if_pos c3]
        refine ⟨VA_hi (by omega) (VA_hi (by omega) (VA_m hml q0 o1)), Or.inl ?_, fun j hj => ?_⟩
        · rw [upd_ne (by omega), upd_ne (by omega), upd_ne (by omega)]; exact o121
        · rw [upd_ne (by omega), upd_ne (by omega), upd_ne (by omega)]; exact o2 j (Or.inl hj)
      · rw [if_neg c3]
        refine ⟨VA_hi (by omega) (VA_hi (by omega) (VA_m hml q0 o1)), Or.inl ?_, fun j hj => ?_⟩
        · rw [upd_ne (by omega), upd_ne (by omega), upd_ne (by omega)]; exact o121
        · rw [upd_ne (by omega), upd_ne (by omega), upd_ne (by omega)]; exact o2 j (Or.inl hj)
theorem goMake_n1 {f : Nat → Int32} {m v : Int32} (hm : rgI 0 23 m) (c1 : v = 1) (c2 : f (48 + m.toNatClampNeg) = 0) : F_X12_goMake f m v 121 = f 121 + 1 := by
  have rw24 : rgI 0 24 m := rg_w hm (by decide) (by decide)
  have e48 : ((48 : Int32) + m).toNatClampNeg = 48 + m.toNatClampNeg := add_cl (n := 48) rfl (by decide) rw24
  have e96 : ((96 : Int32) + m).toNatClampNeg = 96 + m.toNatClampNeg := add_cl (n := 96) rfl (by decide) rw24
  have e120 : (120 : Int32).toNatClampNeg = 120 := by decide
  have e121 : (121 : Int32).toNatClampNeg = 121 := by decide
  have hml : m.toNatClampNeg < 24 := by have := cl_nat hm.1; have := hm.2; omega
  unfold F_X12_goMake
  rw [e48, e96, e120, if_pos c1, if_pos (by rw [upd_ne (by omega)]; exact c2)]
  unfold F_X12_newGroup
  rw [e121, upd_ne (show (121 : Nat) ≠ 120 by omega), upd_ne (show 121 ≠ 48 + m.toNatClampNeg by omega)]
  show upd (upd f (96 + m.toNatClampNeg) 0) 121 (upd f (96 + m.toNatClampNeg) 0 121 + 1) 121 = f 121 + 1
  rw [upd_eq, upd_ne (by omega)]
/-- the first rows are as they were -/
def KP' (f f' : Nat → Int32) : Prop := ∀ j, j < 48 → f' j = f j
/-- who is there is the same -/
def KP'' (f f' : Nat → Int32) : Prop := ∀ i, i < 24 → (f' i = -1 ↔ f i = -1)
theorem KP'.thr {f f' : Nat → Int32} (h : KP' f f') {k : Int32} (hk : thr f k) : thr f' k := thr_c hk (h _ (by have := thr_l hk; omega))
theorem TI.hi {B : Int} {f : Nat → Int32} (h : TI B f) {B2 : Int} (hb : B ≤ B2) : TI B2 f := ⟨h.1, h.2.1, Int.le_trans h.2.2 hb⟩
theorem TI_make {B : Int} {f : Nat → Int32} {m v : Int32} (h : TI B f) (hB : B ≤ 2000000) (ht : thr f m) : TI (B + 25) (F_X12_goMake f m v) ∧ KP' f (F_X12_goMake f m v) := by
  obtain ⟨⟨τ, ⟨ρ, h1⟩, h2, h3, h4, -⟩, b1, b2⟩ := h
  have hm := ht.1
  have tN0 := thr_tN ht
  have q0 : Qv (f 121) 0 := Qv0 b1
  have hn : (f 121 + 1).toInt = (f 121).toInt + 1 := n121 (by omega) (by omega)
  obtain ⟨σ', p2⟩ := P2_goMake (v := v) hm tN0 (fun i hi ti => by
    have := h3 i hi ti
    exact ⟨fun q => by have z := this.1.2; rw [q] at z; omega, fun q => by have z := this.2.2; rw [q] at z; omega⟩) h2
  have hub := UB_goMake (v := v) hm tN0 h4
  obtain ⟨-, w2, w3⟩ := VA_goMake2 (Q := fun _ => True) (v := v) trivial (fun _ _ => trivial) hm tN0 (fun _ _ _ => ⟨trivial, trivial⟩)
  refine ⟨⟨⟨σ', ⟨ρ, P1_same h1 (fun i hi => w3 i (by omega))⟩, p2, ?_, hub, rfl⟩, ?_, ?_⟩, w3⟩
  · rcases w2 with w | w
    · rw [w]
      exact (VA_goMake2 (Q := Qv (f 121)) (v := v) q0 (fun c1 c2 => by
        have := goMake_n1 hm c1 c2
        rw [w] at this
        have z : (f 121).toInt = (f 121 + 1).toInt := by rw [← this]
        omega) hm tN0 h3).1
    · rw [w]
      exact (VA_goMake2 (Q := Qv (f 121 + 1)) (v := v) (Qv0 (by omega)) (fun _ _ => ⟨by omega, by omega⟩) hm tN0 (VA_w h3 (fun x hx => ⟨hx.1, by have := hx.2; omega⟩))).1
  · rcases w2 with w | w
    · rw [w]; exact b1
    · rw [w]; omega
  · rcases w2 with w | w
    · rw [w]; omega
    · rw [w]; omega
theorem TS_out {f : Nat → Int32} {τ : Int32 → Nat} {N m : Int32} (h : TS f τ N) (hm : rgI 0 23 m) (ht : tN f m.toNatClampNeg) (hN : 1 ≤ N.toInt) : TS (F_X12_goOut f m) τ N ∧ KP' f (F_X12_goOut f m) := by
  obtain ⟨⟨ρ, h1⟩, h2, h3, h4, h5⟩ := h
  obtain ⟨o1, o2⟩ := VA_goOut (Qv0 hN) hm ht h3
  refine ⟨⟨⟨ρ, P1_same h1 (fun i hi => o2 i (Or.inl (by omega)))⟩, (P2_goOut hm (fun i hi _ ti => h2 i hi ti) (fun _ _ => h2 _ ht.1 ht)).1, o1, UB_goOut hm ht h4, (o2 121 (Or.inr (by decide))).trans h5⟩, fun j hj => o2 j (Or.inl hj)⟩
theorem clear_row {f : Nat → Int32} {m : Int32} (hm : rgI 0 23 m) {i : Nat} (hi : i < 24) : F_X12_clear f m i = if i = m.toNatClampNeg then -1 else f i := by
  have hk : rgI 0 24 m := rg_w hm (by decide) (by decide)
  unfold F_X12_clear
  rw [upd_far (by rw [add_cl (n := 96) rfl (by decide) hk]; omega), upd_far (by rw [add_cl (n := 72) rfl (by decide) hk]; omega), upd_far (by rw [add_cl (n := 48) rfl (by decide) hk]; omega), upd_far (by rw [add_cl (n := 24) rfl (by decide) hk]; omega)]
  rfl
theorem TS_clear {f : Nat → Int32} {τ : Int32 → Nat} {N m : Int32} (h : TS f τ N) (hm : rgI 1 23 m) (leaf : ∀ x : Int32, thr f x → ¬ x = 0 → (f x.toNatClampNeg).toNatClampNeg ≠ m.toNatClampNeg) : TS (F_X12_clear f m) τ N := by
  obtain ⟨⟨ρ, h1⟩, h2, h3, h4, h5⟩ := h
  have hm0 : rgI 0 23 m := rg_w hm (by decide) (by decide)
  have hl : m.toNatClampNeg < 24 := by have := cl_nat hm0.1; have := hm.2; omega
  have v := VA_clear hm0 h3
  refine ⟨⟨ρ, P1_cut h1 (k := m.toNatClampNeg) (by have := cl_nat hm0.1; have := hm.1; omega) leaf (by rw [clear_row hm0 hl, if_pos rfl]) (fun i hi q => by rw [clear_row hm0 hi, if_neg q])⟩, P2_clear hm0 h2, v.1, UB_clear hm0 h4, v.2.trans h5⟩
theorem isIn_cz {f : Nat → Int32} {ρ : Nat → Nat} {a k : Int32} (h : P1 f ρ) (ha : thr f a) (hk : thr f k) (k0 : ¬ k = 0) (hne : ¬ a = k) (hno : F_X12_isIn f a k = 0) : ¬ inS f k.toNatClampNeg a.toNatClampNeg := by
  rintro ⟨i, hi⟩
  cases i with
  | zero =>
    have hi : a.toNatClampNeg = k.toNatClampNeg := hi
    exact hne (Int32.toInt_inj.mp (by have := cl_nat ha.1.1; have := cl_nat hk.1.1; omega))
  | succ i => exact k0 (isIn_no h hk.1.1 25 a (by have := h.2.2 a.toNatClampNeg; omega) ha hno i hi)
theorem goMove_row {f : Nat → Int32} {k m d : Int32} (hk : rgI 0 23 k) {i : Nat} (hi : i < 24) : F_X12_goMove f k m d i = if i = k.toNatClampNeg then m else f i := by
  have hk2 : rgI 0 24 k := rg_w hk (by decide) (by decide)
  have e24 : ((24 : Int32) + k).toNatClampNeg = 24 + k.toNatClampNeg := add_cl (n := 24) rfl (by decide) hk2
  have e120 : (120 : Int32).toNatClampNeg = 120 := by decide
  unfold F_X12_goMove
  rw [e24, e120, upd_far (by omega), upd_far (by omega)]
  rfl
theorem TI_move {B : Int} {f : Nat → Int32} {k m d : Int32} (h : TI B f) (hk : thr f k) (hm : thr f m) (k0 : ¬ k = 0) (hne : ¬ m = k) (hno : F_X12_isIn f m k = 0) : TI (B + 25) (F_X12_goMove f k m d) ∧ KP'' f (F_X12_goMove f k m d) := by
  obtain ⟨⟨τ, ⟨ρ, h1⟩, h2, h3, h4, -⟩, b1, b2⟩ := h
  have hl := thr_l hk
  have v := VA_goMove (a := m) (d := d) hk.1 (thr_tN hk) h3
  have n0 : k.toNatClampNeg ≠ 0 := fun q => k0 (Int32.toInt_inj.mp (by have := cl_nat hk.1.1; have z : (0 : Int32).toInt = 0 := rfl; omega))
  refine ⟨⟨⟨τ, P1_move h1 n0 hm (isIn_cz h1 hm hk k0 hne hno) (by rw [goMove_row hk.1 hl, if_pos rfl]) (thr_tN hk) (fun i hi q => by rw [goMove_row hk.1 hi, if_neg q]), P2_goMove hk.1 (thr_tN hk) h2, by rw [v.2]; exact v.1, UB_goMove hk.1 h4, rfl⟩, by rw [v.2]; exact b1, by rw [v.2]; omega⟩, fun i hi => ?_⟩
  rw [goMove_row hk.1 hi]
  by_cases q : i = k.toNatClampNeg
  · rw [if_pos q, q]
    exact ⟨fun w => absurd w (thr_ne hm), fun w => absurd w hk.2⟩
  · rw [if_neg q]
theorem TI_ub {B : Int} {f f' : Nat → Int32} (h : TI B f) (e : ∀ j, (j < 96 ∨ 120 ≤ j) → f' j = f j) (hu : UB f') : TI B f' := by
  obtain ⟨⟨τ, ⟨ρ, h1⟩, h2, h3, h4, h5⟩, b1, b2⟩ := h
  have n : f' 121 = f 121 := e 121 (Or.inr (by decide))
  have e0 : ∀ i, i < 24 → f' i = f i := fun i hi => e i (Or.inl (by omega))
  refine ⟨⟨τ, ⟨ρ, P1_same h1 e0⟩, fun i hi t => P2_c (h2 i hi ⟨hi, by rw [← e0 i hi]; exact t.2⟩) (e _ (Or.inl (by omega))) (e _ (Or.inl (by omega))), fun i hi t => ?_, hu, rfl⟩, by rw [n]; exact b1, by rw [n]; exact b2⟩
  rw [e (48 + i) (Or.inl (by omega)), e (72 + i) (Or.inl (by omega)), n]
  exact h3 i hi ⟨hi, by rw [← e0 i hi]; exact t.2⟩
