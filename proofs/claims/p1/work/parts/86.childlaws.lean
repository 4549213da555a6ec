/-! ===== what is at a dir, who has children, how large a tree is ===== -/
theorem y3_s {y : Int32} (h : rgI 1 24 y) (c : ¬ (24 : Int32) ≤ y) : rgI 1 24 (y + 1) ∧ (y + 1).toInt = y.toInt + 1 ∧ rgI 1 23 y := by
  have q := fz_lt.mp (nle_lt c)
  have z : (24 : Int32).toInt = 24 := rfl
  have h1 := h.1
  have e : (y + 1).toInt = y.toInt + 1 := ti_add (y := 1) (by show _ ≤ y.toInt + 1; omega) (by show y.toInt + 1 ≤ _; omega)
  exact ⟨⟨by omega, by omega⟩, e, h1, by omega⟩
theorem atOf_2_is {f : Nat → Int32} {m d : Int32} : ∀ (n : Nat) (y : Int32), rgI 1 24 y → (24 - y.toInt).toNat < n → F_X12_atOf_2 f n m d y = 24 ∨ (rgI 1 23 (F_X12_atOf_2 f n m d y) ∧ f (F_X12_atOf_2 f n m d y).toNatClampNeg = m ∧ f ((24 : Int32) + F_X12_atOf_2 f n m d y).toNatClampNeg = d) := by
  intro n
  induction n with
  | zero => intro y _ hm; exact absurd hm (Nat.not_lt_zero _)
  | succ n ih =>
    intro y hy hm
    rw [F_X12_atOf_2]
    by_cases c : (24 : Int32) ≤ y
    · rw [if_pos c]; exact Or.inl rfl
    · obtain ⟨s1, s2, s3⟩ := y3_s hy c
      have := s3.2
      rw [if_neg c]
      by_cases c1 : f y.toNatClampNeg = m
      · rw [if_pos c1]
        by_cases c2 : f ((24 : Int32) + y).toNatClampNeg = d
        · rw [if_pos c2]; exact Or.inr ⟨s3, c1, c2⟩
        · rw [if_neg c2]; exact ih _ s1 (by omega)
      · rw [if_neg c1]; exact ih _ s1 (by omega)
theorem atOf_is {f : Nat → Int32} {m d k : Int32} (e : k = F_X12_atOf f m d) (h : ¬ k = 24) : rgI 1 23 k ∧ f k.toNatClampNeg = m ∧ f ((24 : Int32) + k).toNatClampNeg = d := by
  subst e
  exact (atOf_2_is 26 1 ⟨by decide, by decide⟩ (by decide)).resolve_left h
theorem chi_4 {f : Nat → Int32} {m : Int32} : ∀ (n : Nat) (c y : Int32), rgI 1 24 y → (24 - y.toInt).toNat < n → 0 ≤ c.toInt → c.toInt ≤ y.toInt → c.toInt ≤ (F_X12_childrenOf_4 f n m c y).toInt ∧ (F_X12_childrenOf_4 f n m c y = 0 → ∀ i : Nat, y.toInt ≤ i → i < 24 → ¬ f i = m) := by
  intro n
  induction n with
  | zero => intro c y _ hm; exact absurd hm (Nat.not_lt_zero _)
  | succ n ih =>
    intro c y hy hm h0 h1
    rw [F_X12_childrenOf_4]
    by_cases q : (24 : Int32) ≤ y
    · rw [if_pos q]
      have := fz_le.mp q
      have z : (24 : Int32).toInt = 24 := rfl
      exact ⟨Int.le_refl _, fun _ i hi hl => by omega⟩
    · obtain ⟨s1, s2, s3⟩ := y3_s hy q
      have h2 := s3.2; have h3 := s3.1
      have hyn := cl_nat (x := y) (by omega)
      rw [if_neg q]
      by_cases c1 : f y.toNatClampNeg = m
      · rw [if_pos c1]
        have e : (c + 1).toInt = c.toInt + 1 := ti_add (y := 1) (by show _ ≤ c.toInt + 1; omega) (by show c.toInt + 1 ≤ _; omega)
        obtain ⟨a, b⟩ := ih (c + 1) (y + 1) s1 (by omega) (by omega) (by omega)
        refine ⟨by omega, fun w => ?_⟩
        rw [w] at a
        have z : (0 : Int32).toInt = 0 := rfl
        omega
      · rw [if_neg c1]
        have e : (c + 0).toInt = c.toInt := by rw [Int32.add_zero]
        obtain ⟨a, b⟩ := ih (c + 0) (y + 1) s1 (by omega) (by omega) (by omega)
        refine ⟨by omega, fun w i hi hl => ?_⟩
        by_cases z : i = y.toNatClampNeg
        · rw [z]; exact c1
        · exact b w i (by omega) hl
theorem chi_0 {f : Nat → Int32} {m : Int32} (h : F_X12_childrenOf f m = 0) : ∀ i : Nat, 1 ≤ i → i < 24 → ¬ f i = m := fun i hi hl => (chi_4 26 0 1 ⟨by decide, by decide⟩ (by decide) (by decide) (by decide)).2 h i (by show (1 : Int) ≤ i; omega) hl
/-- what may go: leaves -/
def GB (f : Nat → Int32) (b : Int32) : Prop := ∀ i, bt b i = true → 1 ≤ i ∧ i < 24 ∧ ∀ j, 1 ≤ j → j < 24 → ¬ f j = nI i
theorem GB_0 {f : Nat → Int32} : GB f 0 := fun i h => by rw [b_0] at h; cases h
theorem GB_s {f : Nat → Int32} {b b1 z k m d : Int32} (h : GB f b) (ek : k = F_X12_atOf f m d) (hk : ¬ k = 24) (hc : F_X12_childrenOf f k = 0) (ez : z = 1 <<< (k &&& 31)) (e : b1 = b ||| z) : GB f b1 := fun i hi => by
  have hr := (atOf_is ek hk).1
  rw [e, b_or, Bool.or_eq_true] at hi
  rcases hi with q | q
  · exact h i q
  · have hl : k.toNatClampNeg < 32 := by have := cl_nat (x := k) (by have := hr.1; omega); have := hr.2; omega
    have w := bt_one_is (i := i) hl
    rw [nI_tn hr (by decide), ← ez, q] at w
    have w : i = k.toNatClampNeg := of_decide_eq_true w.symm
    subst w
    have := cl_nat (x := k) (by have := hr.1; omega)
    have h1 := hr.1; have h2 := hr.2
    refine ⟨by omega, by omega, fun j hj hl => ?_⟩
    rw [nI_tn hr (by decide)]
    exact chi_0 hc j hj hl
/-- while copies go -/
def UM (f fl : Nat → Int32) : Prop := (∃ τ, TS fl τ (f 121)) ∧ ∀ i, i < 24 → fl i = f i ∨ fl i = -1
theorem UM_step {f fl f2 f3 : Nat → Int32} {b k : Int32} (h : UM f fl) (hg : GB f b) (h1 : 1 ≤ (f 121).toInt) (hk : rgI 1 23 k) (hb : bt b k.toNatClampNeg = true) (ht : ¬ fl k.toNatClampNeg = -1) (e2 : f2 = F_X12_goOut fl k) (e3 : f3 = F_X12_clear f2 k) : UM f f3 := by
  obtain ⟨⟨τ, ts⟩, hs⟩ := h
  have hk0 : rgI 0 23 k := rg_w hk (by decide) (by decide)
  have hl : k.toNatClampNeg < 24 := by have := cl_nat hk0.1; have := hk.2; omega
  obtain ⟨t2, p2⟩ := TS_out ts hk0 ⟨hl, ht⟩ h1
  obtain ⟨-, -, leaf⟩ := hg _ hb
  rw [nI_tn hk0 (by decide)] at leaf
  rw [← e2] at t2 p2
  have t3 := TS_clear t2 hk (fun x hx x0 q => by
    have hxl := thr_l hx
    have e := p2 x.toNatClampNeg (by omega)
    have hx1 : 1 ≤ x.toNatClampNeg := by
      have := cl_nat hx.1.1
      have : x.toInt ≠ 0 := fun w => x0 (Int32.toInt_inj.mp w)
      have := hx.1.1
      omega
    obtain ⟨⟨ρ, pp⟩, -⟩ := t2
    have hp := (pp.2.1 x hx x0).1
    have hfx : fl x.toNatClampNeg = f x.toNatClampNeg := (hs _ hxl).resolve_right (fun w => hx.2 (e.trans w))
    refine leaf _ hx1 hxl ?_
    rw [← hfx, ← e]
    exact Int32.toInt_inj.mp (by have := cl_nat hp.1.1; have := cl_nat hk0.1; omega))
  rw [← e3] at t3
  refine ⟨⟨τ, t3⟩, fun i hi => ?_⟩
  rw [e3, clear_row hk0 hi]
  by_cases q : i = k.toNatClampNeg
  · rw [if_pos q]; exact Or.inr rfl
  · rw [if_neg q, p2 i (by omega)]; exact hs i hi
theorem UM_end {B : Int} {f fl f1 : Nat → Int32} {v : Int32} (h : UM f fl) (hB : TI B f) (e : f1 = upd fl (120 : Int32).toNatClampNeg v) : TI B f1 := by
  obtain ⟨⟨τ, ts⟩, -⟩ := h
  have n : f1 121 = f 121 := by rw [e]; show upd fl 120 v 121 = _; rw [upd_ne (by decide)]; exact ts.2.2.2.2
  refine ⟨⟨τ, ?_⟩, by rw [n]; exact hB.2.1, by rw [n]; exact hB.2.2⟩
  rw [n, e]; exact TS_hi ts
/-! ===== sizes of trees ===== -/
def TC (t : Int32 → Nat) (f : Nat → Int32) (m : Int32) (d : Nat) : Nat := if F_X12_atOf f m (nI d) = 24 then 0 else if f ((96 : Int32) + F_X12_atOf f m (nI d)).toNatClampNeg = 0 then t (F_X12_atOf f m (nI d)) else 0
def TP (t : Int32 → Nat) (f : Nat → Int32) (m : Int32) : Nat → Nat
  | 0 => 1
  | d + 1 => TP t f m d + TC t f m d
def TZ (f : Nat → Int32) : Nat → Int32 → Nat
  | 0, _ => 1
  | n + 1, m => TP (TZ f n) f m 4
theorem TP_mono {t : Int32 → Nat} {f : Nat → Int32} {m : Int32} : ∀ {a b : Nat}, a ≤ b → TP t f m a ≤ TP t f m b
  | a, 0, h => by have : a = 0 := by omega
                  subst this; exact Nat.le_refl _
  | a, b + 1, h => by
    by_cases q : a = b + 1
    · subst q; exact Nat.le_refl _
    · exact Nat.le_trans (TP_mono (show a ≤ b by omega)) (Nat.le_add_right _ _)
theorem cz_add {f : Nat → Int32} {x a : Nat} : ∀ b, cz f x (a + b) = cz f (cz f x a) b
  | 0 => rfl
  | b + 1 => by
    show (if cz f x (a + b) = 0 then 0 else (f (cz f x (a + b))).toNatClampNeg) = (if cz f (cz f x a) b = 0 then 0 else (f (cz f (cz f x a) b)).toNatClampNeg)
    rw [cz_add b]
theorem cz_rk {f : Nat → Int32} {ρ : Nat → Nat} (h : P1 f ρ) {x : Nat} (hx : tN f x) : ∀ j, ρ (cz f x j) ≤ ρ x
  | 0 => Nat.le_refl _
  | j + 1 => by
    have ih := cz_rk h hx j
    have hu : P1u f ρ := ⟨h.1, h.2.1⟩
    show ρ (if cz f x j = 0 then 0 else (f (cz f x j)).toNatClampNeg) ≤ _
    split
    · rename_i q; rw [q] at ih; exact ih
    · rename_i q
      have := (P1u_step hu (cz_t hu hx j) q).2
      omega
noncomputable def dm (f : Nat → Int32) (m : Nat) (i : Nat) : Bool := @decide (tN f i ∧ inS f m i) (Classical.propDecidable _)
theorem dm_is {f : Nat → Int32} {m i : Nat} : dm f m i = true ↔ (tN f i ∧ inS f m i) := @decide_eq_true_iff _ (Classical.propDecidable _)
theorem ct_or {p q r : Nat → Bool} : ∀ n, (∀ i, i < n → p i = true → q i = true → False) → (∀ i, i < n → (p i = true ∨ q i = true) → r i = true) → ct p n + ct q n ≤ ct r n
  | 0, _, _ => Nat.le_refl _
  | n + 1, h, hr => by
    have ih := ct_or n (fun i hi => h i (by omega)) (fun i hi => hr i (by omega))
    have h1 := h n (by omega)
    have h2 := hr n (by omega)
    unfold ct
    cases e1 : p n with
    | false => cases e2 : q n with
      | false => simp; omega
      | true => rw [h2 (Or.inr e2)]; simp; omega
    | true => cases e2 : q n with
      | false => rw [h2 (Or.inl e1)]; simp; omega
      | true => exact (h1 e1 e2).elim
theorem chd {f : Nat → Int32} {ρ : Nat → Nat} (h : P1 f ρ) {m k d : Int32} (hm : thr f m) (e : k = F_X12_atOf f m d) (hk : ¬ k = 24) : thr f k ∧ ρ m.toNatClampNeg < ρ k.toNatClampNeg ∧ k.toNatClampNeg ≠ 0 ∧ f k.toNatClampNeg = m := by
  obtain ⟨a, b, -⟩ := atOf_is e hk
  have hk0 : thr f k := ⟨rg_w a (by decide) (by decide), by rw [b]; exact thr_ne hm⟩
  have k0 : ¬ k = 0 := fun q => by have := a.1; rw [q] at this; exact absurd this (by decide)
  have := (h.2.1 k hk0 k0).2
  rw [b] at this
  refine ⟨hk0, this, fun q => k0 (Int32.toInt_inj.mp (by have := cl_nat hk0.1.1; have z : (0 : Int32).toInt = 0 := rfl; omega)), b⟩
theorem TP_le {f : Nat → Int32} {ρ : Nat → Nat} (h : P1 f ρ) {t : Int32 → Nat} {m : Int32} (hm : thr f m) (ht : ∀ k, thr f k → ρ m.toNatClampNeg < ρ k.toNatClampNeg → t k ≤ ct (dm f k.toNatClampNeg) 24) : ∀ d, d ≤ 4 → ∃ A : Nat → Bool, TP t f m d ≤ ct A 24 ∧ ∀ i, i < 24 → A i = true → i = m.toNatClampNeg ∨ ∃ d' : Nat, d' < d ∧ ¬ F_X12_atOf f m (nI d') = 24 ∧ dm f (F_X12_atOf f m (nI d')).toNatClampNeg i = true := by
  have hu : P1u f ρ := ⟨h.1, h.2.1⟩
  intro d
  induction d with
  | zero =>
    intro _
    refine ⟨fun i => decide (i = m.toNatClampNeg), ?_, fun i _ hi => Or.inl (of_decide_eq_true hi)⟩
    have := ct_put (p := fun _ => false) (q := fun i => decide (i = m.toNatClampNeg)) (k := m.toNatClampNeg) rfl (decide_eq_true rfl) (fun i q => decide_eq_false q) 24 (thr_l hm)
    rw [this]
    show 1 ≤ _ + 1
    omega
  | succ d ih =>
    intro hd
    obtain ⟨A, a1, a2⟩ := ih (by omega)
    have keep : ∀ i, i < 24 → A i = true → i = m.toNatClampNeg ∨ ∃ d' : Nat, d' < d + 1 ∧ ¬ F_X12_atOf f m (nI d') = 24 ∧ dm f (F_X12_atOf f m (nI d')).toNatClampNeg i = true := fun i hi ha => (a2 i hi ha).imp (fun z => z) (fun ⟨d', x, y⟩ => ⟨d', by omega, y⟩)
    have hTP : TP t f m (d + 1) = TP t f m d + TC t f m d := rfl
    rw [hTP]
    unfold TC
    by_cases c1 : F_X12_atOf f m (nI d) = 24
    · rw [if_pos c1]; exact ⟨A, by omega, keep⟩
    rw [if_neg c1]
    by_cases c2 : f ((96 : Int32) + F_X12_atOf f m (nI d)).toNatClampNeg = 0
    · rw [if_pos c2]
      obtain ⟨k1, k2, k3, k4⟩ := chd h hm rfl c1
      refine ⟨fun i => A i || dm f (F_X12_atOf f m (nI d)).toNatClampNeg i, ?_, fun i hi ha => ?_⟩
      · have := ht _ k1 k2
        refine Nat.le_trans (Nat.add_le_add a1 this) (ct_or 24 (fun i hi p q => ?_) (fun i hi w => by rcases w with w | w <;> simp [w]))
        obtain ⟨q1, b, q2⟩ := dm_is.mp q
        rcases a2 i hi p with e | ⟨d', x1, x2, x3⟩
        · have := cz_rk h q1 b
          rw [q2, e] at this
          omega
        · obtain ⟨k1', k2', k3', k4'⟩ := chd h hm (d := nI d') rfl x2
          obtain ⟨q3, a, q4⟩ := dm_is.mp x3
          have hne : ¬ F_X12_atOf f m (nI d') = F_X12_atOf f m (nI d) := by
            intro w
            have w1 := (atOf_is (f := f) (m := m) (d := nI d') rfl x2).2.2
            have w2 := (atOf_is (f := f) (m := m) (d := nI d) rfl c1).2.2
            rw [w, w2] at w1
            have w3 : (nI d).toInt = (nI d').toInt := by rw [w1]
            rw [nI_toInt (by omega), nI_toInt (by omega)] at w3
            omega
          have hnn : (F_X12_atOf f m (nI d')).toNatClampNeg ≠ (F_X12_atOf f m (nI d)).toNatClampNeg := fun w => hne (Int32.toInt_inj.mp (by have := cl_nat k1.1.1; have := cl_nat k1'.1.1; omega))
          have clash : ∀ (u v : Nat) (ku kv : Int32), cz f i u = ku.toNatClampNeg → cz f i v = kv.toNatClampNeg → u < v → ku.toNatClampNeg ≠ 0 → f ku.toNatClampNeg = m → ρ m.toNatClampNeg < ρ kv.toNatClampNeg → False := by
            intro u v ku kv hu1 hv1 huv h0 hf hr
            have e1 : cz f i (u + 1) = m.toNatClampNeg := by
              show (if cz f i u = 0 then 0 else (f (cz f i u)).toNatClampNeg) = _
              rw [hu1, if_neg h0, hf]
            have e2 : cz f i v = cz f m.toNatClampNeg (v - (u + 1)) := by
              rw [← e1, ← cz_add, show u + 1 + (v - (u + 1)) = v by omega]
            have := cz_rk h (thr_tN hm) (v - (u + 1))
            rw [← e2, hv1] at this
            omega
          rcases Nat.lt_trichotomy a b with w | w | w
          · exact clash a b _ _ q4 q2 w k3' k4' k2
          · rw [w] at q4; exact hnn (q4.symm.trans q2)
          · exact clash b a _ _ q2 q4 w k3 k4 k2'
      · simp only [Bool.or_eq_true] at ha
        rcases ha with w | w
        · exact keep i hi w
        · exact Or.inr ⟨d, by omega, c1, w⟩
    · rw [if_neg c2]; exact ⟨A, by omega, keep⟩
theorem TZ_le {f : Nat → Int32} {ρ : Nat → Nat} (h : P1 f ρ) : ∀ (n : Nat) (m : Int32), thr f m → TZ f n m ≤ ct (dm f m.toNatClampNeg) 24 := by
  have hu : P1u f ρ := ⟨h.1, h.2.1⟩
  intro n
  induction n with
  | zero =>
    intro m hm
    have : ct (fun i => decide (i = m.toNatClampNeg)) 24 ≤ ct (dm f m.toNatClampNeg) 24 := ct_mono 24 (fun i hi q => by
      have := of_decide_eq_true q
      exact dm_is.mpr ⟨by rw [this]; exact thr_tN hm, 0, this⟩)
    have e := ct_put (p := fun _ => false) (q := fun i => decide (i = m.toNatClampNeg)) (k := m.toNatClampNeg) rfl (decide_eq_true rfl) (fun i q => decide_eq_false q) 24 (thr_l hm)
    show 1 ≤ _
    omega
  | succ n ih =>
    intro m hm
    obtain ⟨A, a1, a2⟩ := TP_le h hm (t := TZ f n) (fun k hk _ => ih k hk) 4 (by decide)
    refine Nat.le_trans a1 (ct_mono 24 (fun i hi ha => ?_))
    rcases a2 i hi ha with e | ⟨d', -, x2, x3⟩
    · exact dm_is.mpr ⟨by rw [e]; exact thr_tN hm, 0, e⟩
    · obtain ⟨k1, k2, k3, k4⟩ := chd h hm (d := nI d') rfl x2
      obtain ⟨q1, a, q2⟩ := dm_is.mp x3
      refine dm_is.mpr ⟨q1, a + 1, ?_⟩
      show (if cz f i a = 0 then 0 else (f (cz f i a)).toNatClampNeg) = _
      rw [q2, if_neg k3, k4]
theorem TP_24 {f : Nat → Int32} {ρ : Nat → Nat} (h : P1 f ρ) {n : Nat} {m : Int32} (hm : thr f m) {d : Nat} (hd : d ≤ 4) : TP (TZ f n) f m d ≤ 24 := by
  obtain ⟨A, a1, -⟩ := TP_le h hm (t := TZ f n) (fun k hk _ => TZ_le h n k hk) d hd
  exact Nat.le_trans a1 (ct_le A 24)
