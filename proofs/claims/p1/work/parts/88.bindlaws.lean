/-! ===== trees that are bound ===== -/
theorem tc_1 {t : Int32 → Nat} {f : Nat → Int32} {m d k : Int32} (hd : rgI 0 3 d) (e : k = F_X12_atOf f m d) (h : k = 24) : TC t f m d.toNatClampNeg = 0 := by
  unfold TC; rw [nI_tn hd (by decide), ← e, if_pos h]
theorem tc_2 {t : Int32 → Nat} {f : Nat → Int32} {m d k : Int32} (hd : rgI 0 3 d) (e : k = F_X12_atOf f m d) (h : ¬ k = 24) (c : ¬ f ((96 : Int32) + k).toNatClampNeg = 0) : TC t f m d.toNatClampNeg = 0 := by
  unfold TC; rw [nI_tn hd (by decide), ← e, if_neg h, if_neg c]
theorem tc_3 {t : Int32 → Nat} {f : Nat → Int32} {m d k : Int32} (hd : rgI 0 3 d) (e : k = F_X12_atOf f m d) (h : ¬ k = 24) (c : f ((96 : Int32) + k).toNatClampNeg = 0) : TC t f m d.toNatClampNeg = t k := by
  unfold TC; rw [nI_tn hd (by decide), ← e, if_neg h, if_pos c]
theorem tn_d {d d1 : Int32} (hd : rgI 0 3 d) (e1 : d1.toInt = d.toInt + 1) : d1.toNatClampNeg = d.toNatClampNeg + 1 := tn_s (rg_w hd (by decide) (by decide)) e1
theorem tp_0 {t : Int32 → Nat} {f : Nat → Int32} {m d d1 y : Int32} (h : y = nI (TP t f m d.toNatClampNeg)) (hd : rgI 0 3 d) (e1 : d1.toInt = d.toInt + 1) (hc : TC t f m d.toNatClampNeg = 0) : y = nI (TP t f m d1.toNatClampNeg) := by
  rw [tn_d hd e1]
  show y = nI (TP t f m d.toNatClampNeg + TC t f m d.toNatClampNeg)
  rw [hc]; exact h
theorem tp_1 {f : Nat → Int32} {ρ : Nat → Nat} {n : Nat} {m d d1 y x r k : Int32} (hP : P1 f ρ) (hm : thr f m) (h : y = nI (TP (TZ f n) f m d.toNatClampNeg)) (hd : rgI 0 3 d) (e1 : d1.toInt = d.toInt + 1) (hc : TC (TZ f n) f m d.toNatClampNeg = TZ f n k) (hr : r = nI (TZ f n k)) (ex : x = y + r) : x = nI (TP (TZ f n) f m d1.toNatClampNeg) := by
  rw [tn_d hd e1]
  have hl : d.toNatClampNeg + 1 ≤ 4 := by have := cl_nat hd.1; have := hd.2; omega
  have b := TP_24 hP (n := n) hm hl
  show x = nI (TP (TZ f n) f m d.toNatClampNeg + TC (TZ f n) f m d.toNatClampNeg)
  rw [ex, h, hr, hc]
  exact nI_add _ _
theorem tp_4 {f : Nat → Int32} {n : Nat} {m d y : Int32} (h : y = nI (TP (TZ f n) f m d.toNatClampNeg)) (hd : rgI 4 4 d) : y = nI (TZ f (n + 1) m) := by
  have : d.toNatClampNeg = 4 := cl_of (by have := hd.1; have := hd.2; omega)
  rw [this] at h; exact h
theorem TZ_1 {f : Nat → Int32} : ∀ (n : Nat) (m : Int32), 1 ≤ TZ f n m
  | 0, _ => Nat.le_refl _
  | n + 1, m => TP_mono (t := TZ f n) (f := f) (m := m) (show 0 ≤ 4 by decide)
/-- what a tree tells of groups and masters, by a rank -/
def PV (T : Nat → Int32) (τ : Int32 → Nat) (N : Int32) : Prop := ∀ k : Int32, thr T k → Qv N (T ((48 : Int32) + k).toNatClampNeg) ∧ Qv N (T ((72 : Int32) + k).toNatClampNeg) ∧ (¬ T ((48 : Int32) + k).toNatClampNeg = 0 → ¬ T ((72 : Int32) + k).toNatClampNeg = 0 → τ (T ((72 : Int32) + k).toNatClampNeg) < τ (T ((48 : Int32) + k).toNatClampNeg))
def GI (T f fl : Nat → Int32) (τ : Int32 → Nat) (N : Int32) (z : Nat) : Prop := TS fl τ N ∧ KP f fl ∧ ct (isT fl) 24 + 1 = ct (isT f) 24 + z
theorem GI_0 {T f : Nat → Int32} {τ : Int32 → Nat} {N m : Int32} {t : Int32 → Nat} (h : TS f τ N) : GI T f f τ N (TP t T m (0 : Int32).toNatClampNeg) := ⟨h, KP.rf, rfl⟩
theorem GI_n {T f fl : Nat → Int32} {τ : Int32 → Nat} {N m d d1 : Int32} {t : Int32 → Nat} (h : GI T f fl τ N (TP t T m d.toNatClampNeg)) (hd : rgI 0 3 d) (e1 : d1.toInt = d.toInt + 1) (hc : TC t T m d.toNatClampNeg = 0) : GI T f fl τ N (TP t T m d1.toNatClampNeg) := by
  rw [tn_d hd e1]
  obtain ⟨a, b, c⟩ := h
  refine ⟨a, b, ?_⟩
  show _ = _ + (TP t T m d.toNatClampNeg + TC t T m d.toNatClampNeg)
  rw [hc]; exact c
/-- one comes, then all that is in it -/
theorem GI_c {T f fl fl1 : Nat → Int32} {τ : Int32 → Nat} {N m d k cl g s c : Int32} {n : Nat} (h : GI T f fl τ N (TP (TZ T n) T m d.toNatClampNeg)) (hn : ct (isT f) 24 + TZ T (n + 1) m ≤ 25) (hd : rgI 0 3 d) (hc : TC (TZ T n) T m d.toNatClampNeg = TZ T n k) (hcl : thr f cl) (hv : PV T τ N) (hk : thr T k) (eg : g = T ((48 : Int32) + k).toNatClampNeg) (es : s = T ((72 : Int32) + k).toNatClampNeg) (e : fl1 = (F_X12_comes fl cl d g s).2) (er : c = (F_X12_comes fl cl d g s).1) : TS fl1 τ N ∧ thr fl1 c ∧ KP fl fl1 ∧ ct (isT fl1) 24 = ct (isT fl) 24 + 1 ∧ ct (isT fl1) 24 + TZ T n k ≤ 25 := by
  obtain ⟨a, b, c1⟩ := h
  have hl : d.toNatClampNeg + 1 ≤ 4 := by have := cl_nat hd.1; have := hd.2; omega
  have m1 : TP (TZ T n) T m d.toNatClampNeg + TC (TZ T n) T m d.toNatClampNeg ≤ TZ T (n + 1) m := TP_mono (t := TZ T n) (f := T) (m := m) hl
  have z1 := TZ_1 (f := T) n k
  rw [hc] at m1
  obtain ⟨v1, v2, v3⟩ := hv k hk
  rw [← eg, ← es] at v3
  rw [← eg] at v1
  rw [← es] at v2
  obtain ⟨r1, r2, r3, r4⟩ := TS_comes (d := d) a (b.thr hcl) (by omega) v1 v2 v3
  rw [e, er]
  exact ⟨r1, r2, r4, r3, by omega⟩
theorem GI_s {T f fl fl1 fl2 : Nat → Int32} {τ : Int32 → Nat} {N m d d1 k : Int32} {n : Nat} (h : GI T f fl τ N (TP (TZ T n) T m d.toNatClampNeg)) (hd : rgI 0 3 d) (e1 : d1.toInt = d.toInt + 1) (hc : TC (TZ T n) T m d.toNatClampNeg = TZ T n k) (kp : KP fl fl1) (hct : ct (isT fl1) 24 = ct (isT fl) 24 + 1) (h2 : GI T fl1 fl2 τ N (TZ T n k)) : GI T f fl2 τ N (TP (TZ T n) T m d1.toNatClampNeg) := by
  rw [tn_d hd e1]
  obtain ⟨a, b, c⟩ := h
  obtain ⟨a2, b2, c2⟩ := h2
  refine ⟨a2, b.tr (kp.tr b2), ?_⟩
  show _ = _ + (TP (TZ T n) T m d.toNatClampNeg + TC (TZ T n) T m d.toNatClampNeg)
  rw [hc]
  omega
theorem GI_4 {T f fl : Nat → Int32} {τ : Int32 → Nat} {N m d : Int32} {n : Nat} (h : GI T f fl τ N (TP (TZ T n) T m d.toNatClampNeg)) (hd : rgI 4 4 d) : GI T f fl τ N (TZ T (n + 1) m) := by
  have : d.toNatClampNeg = 4 := cl_of (by have := hd.1; have := hd.2; omega)
  rw [this] at h; exact h
theorem ub_ne {T : Nat → Int32} {k x : Int32} (h : UB T) (hk : rgI 0 23 k) (ex : x = T ((96 : Int32) + k).toNatClampNeg) (c : ¬ x = 1) : T ((96 : Int32) + k).toNatClampNeg = 0 := by
  rw [add_cl (n := 96) rfl (by decide) (rg_w hk (by decide) (by decide))] at ex ⊢
  exact (h _ (by have := cl_nat hk.1; have := hk.2; omega)).resolve_right (by rw [← ex]; exact c)
theorem ub_eq {T : Nat → Int32} {k x : Int32} (ex : x = T ((96 : Int32) + k).toNatClampNeg) (c : x = 1) : ¬ T ((96 : Int32) + k).toNatClampNeg = 0 := by
  rw [← ex, c]; decide
/-! ===== a row that is laid over another ===== -/
def LYk (f0 fb fl : Nat → Int32) (k n : Nat) : Prop := ∀ j, fl j = if k ≤ j ∧ j < k + n then f0 (j - k) else fb j
theorem LYk_0 {f0 fb : Nat → Int32} {k : Nat} : LYk f0 fb fb k (0 : Int32).toNatClampNeg := fun j => by
  show fb j = if k ≤ j ∧ j < k + 0 then _ else _
  rw [if_neg (by omega)]
theorem LYk_s {f0 fb fl fl1 : Nat → Int32} {k : Nat} {y y1 i x : Int32} (h : LYk f0 fb fl k y.toNatClampNeg) (hy : rgI 0 121 y) (e1 : y1.toInt = y.toInt + 1) (ei : i.toNatClampNeg = k + y.toNatClampNeg) (ex : x = f0 y.toNatClampNeg) (e : fl1 = upd fl i.toNatClampNeg x) : LYk f0 fb fl1 k y1.toNatClampNeg := fun j => by
  have : y1.toNatClampNeg = y.toNatClampNeg + 1 := by
    have h1 := hy.1
    show y1.toInt.toNat = y.toInt.toNat + 1
    omega
  rw [this, e, ei]
  by_cases q : j = k + y.toNatClampNeg
  · rw [q, upd_eq, if_pos (by omega), ex, Nat.add_sub_cancel_left]
  · rw [upd_ne q, h j]
    by_cases w : k ≤ j ∧ j < k + y.toNatClampNeg
    · rw [if_pos w, if_pos (by omega)]
    · rw [if_neg w, if_neg (by omega)]
theorem LYk_e {f0 fb fl : Nat → Int32} {k : Nat} {y : Int32} (h : LYk f0 fb fl k y.toNatClampNeg) (hy : rgI 122 122 y) : LYk f0 fb fl k 122 := by
  have : y.toNatClampNeg = 122 := cl_of (by have := hy.1; have := hy.2; omega)
  rw [this] at h; exact h
/-! ===== rows that say the same of all mounts ===== -/
def SR (f f' : Nat → Int32) : Prop := ∀ j, j < 122 → f' j = f j
theorem SR.rf {f : Nat → Int32} : SR f f := fun _ _ => rfl
theorem SR.sy {f f' : Nat → Int32} (h : SR f f') : SR f' f := fun j hj => (h j hj).symm
theorem SR.tr {f f' f'' : Nat → Int32} (h : SR f f') (h2 : SR f' f'') : SR f f'' := fun j hj => (h2 j hj).trans (h j hj)
theorem SR.thr {f f' : Nat → Int32} (h : SR f f') {k : Int32} (hk : thr f k) : thr f' k := thr_c hk (h _ (by have := thr_l hk; omega))
theorem SR_ts {f f' : Nat → Int32} {τ : Int32 → Nat} {N : Int32} (h : SR f f') (t : TS f τ N) : TS f' τ N := by
  obtain ⟨⟨ρ, h1⟩, h2, h3, h4, h5⟩ := t
  have e0 : ∀ i, i < 24 → f' i = f i := fun i hi => h i (by omega)
  have tt : ∀ i, tN f' i → tN f i := fun i hi => ⟨hi.1, by rw [← e0 i hi.1]; exact hi.2⟩
  exact ⟨⟨ρ, P1_same h1 e0⟩, fun i hi ti => P2_c (h2 i hi (tt i ti)) (h _ (by omega)) (h _ (by omega)), fun i hi ti => by
    rw [h (48 + i) (by omega), h (72 + i) (by omega)]; exact h3 i hi (tt i ti), UB_same h4 (fun i hi => h _ (by omega)), (h 121 (by decide)).trans h5⟩
theorem SR_ti {f f' : Nat → Int32} {B : Int} (h : SR f f') (t : TI B f) : TI B f' := by
  obtain ⟨⟨τ, a⟩, b, c⟩ := t
  have n := h 121 (by decide)
  exact ⟨⟨τ, by rw [n]; exact SR_ts h a⟩, by rw [n]; exact b, by rw [n]; exact c⟩
theorem SR_at2 {f f' : Nat → Int32} (h : SR f f') {m d : Int32} : ∀ (n : Nat) (y : Int32), rgI 1 24 y → (24 - y.toInt).toNat < n → F_X12_atOf_2 f' n m d y = F_X12_atOf_2 f n m d y := by
  intro n
  induction n with
  | zero => intro y _ hm; exact absurd hm (Nat.not_lt_zero _)
  | succ n ih =>
    intro y hy hm
    rw [F_X12_atOf_2, F_X12_atOf_2]
    by_cases c : (24 : Int32) ≤ y
    · rw [if_pos c, if_pos c]
    · obtain ⟨s1, s2, s3⟩ := y3_s hy c
      have h2 := s3.2; have h1 := s3.1
      have hyn := cl_nat (x := y) (by omega)
      rw [if_neg c, if_neg c, h y.toNatClampNeg (by omega), add_cl (n := 24) rfl (by decide) (rg_w s3 (by decide) (by decide)), h (24 + y.toNatClampNeg) (by omega), ih _ s1 (by omega)]
theorem SR_at {f f' : Nat → Int32} (h : SR f f') {m d : Int32} : F_X12_atOf f' m d = F_X12_atOf f m d := SR_at2 h 26 1 ⟨by decide, by decide⟩ (by decide)
theorem SR_tz {f f' : Nat → Int32} (h : SR f f') : ∀ (n : Nat) (m : Int32), TZ f' n m = TZ f n m := by
  intro n
  induction n with
  | zero => intro m; rfl
  | succ n ih =>
    intro m
    have hc : ∀ d, TC (TZ f' n) f' m d = TC (TZ f n) f m d := by
      intro d
      unfold TC
      rw [SR_at h]
      by_cases c : F_X12_atOf f m (nI d) = 24
      · rw [if_pos c, if_pos c]
      · obtain ⟨a, -, -⟩ := atOf_is (f := f) (m := m) (d := nI d) rfl c
        rw [if_neg c, if_neg c, add_cl (n := 96) rfl (by decide) (rg_w a (by decide) (by decide)), h (96 + _) (by have := cl_nat (x := F_X12_atOf f m (nI d)) (by have := a.1; omega); have := a.2; omega), ih]
    have hp : ∀ d, TP (TZ f' n) f' m d = TP (TZ f n) f m d := by
      intro d
      induction d with
      | zero => rfl
      | succ d ihd => show _ + _ = _ + _; rw [ihd, hc]
    exact hp 4
/-! ===== a mount without a group spreads to itself alone ===== -/
theorem sp_16 {f : Nat → Int32} {m : Int32} (hm : rgI 0 23 m) (h0 : f (48 + m.toNatClampNeg) = 0) (z : Int32) : ∀ (n : Nat) (y : Int32), rgI 0 24 y → F_X12_spreadOf_16 f n ((1 : Int32) <<< (m &&& 31)) z y = (1 : Int32) <<< (m &&& 31) := by
  intro n
  induction n with
  | zero => intro y _; rfl
  | succ n ih =>
    intro y hy
    rw [F_X12_spreadOf_16]
    by_cases c : (24 : Int32) ≤ y
    · rw [if_pos c]
    · have q := fz_lt.mp (nle_lt c)
      have z24 : (24 : Int32).toInt = 24 := rfl
      have h1 := hy.1
      have hy23 : rgI 0 23 y := ⟨h1, by omega⟩
      have e : (y + 1).toInt = y.toInt + 1 := ti_add (y := 1) (by show _ ≤ y.toInt + 1; omega) (by show y.toInt + 1 ≤ _; omega)
      have hs : rgI 0 24 (y + 1) := ⟨by omega, by omega⟩
      rw [if_neg c]
      by_cases c1 : F_X12_has ((1 : Int32) <<< (m &&& 31)) y = 0
      · rw [if_pos c1]; exact ih _ hs
      · rw [if_neg c1]
        have hb := has_1 hy23 c1
        have hl : m.toNatClampNeg < 32 := by have := cl_nat hm.1; have := hm.2; omega
        have w := bt_one_is (i := y.toNatClampNeg) hl
        rw [nI_tn hm (by decide), hb] at w
        have w : y.toNatClampNeg = m.toNatClampNeg := of_decide_eq_true w.symm
        rw [add_cl (n := 48) rfl (by decide) (rg_w hy23 (by decide) (by decide)), w, if_pos h0]
        exact ih _ hs
theorem sp_6 {f : Nat → Int32} {b : Int32} (h : F_X12_spreadOf_16 f 26 b b 0 = b) : ∀ (n : Nat) (w : Int32), F_X12_spreadOf_6 f n b w = b := by
  intro n
  induction n with
  | zero => intro w; rfl
  | succ n ih =>
    intro w
    rw [F_X12_spreadOf_6]
    by_cases c : w = b
    · rw [if_pos c]
    · rw [if_neg c, h]; exact ih b
theorem sp_one {f : Nat → Int32} {m : Int32} (hm : rgI 0 23 m) (h0 : f (48 + m.toNatClampNeg) = 0) : F_X12_spreadOf f m = (1 : Int32) <<< (m &&& 31) := sp_6 (sp_16 hm h0 _ 26 0 ⟨by decide, by decide⟩) _ _
theorem hit_none {f rl : Nat → Int32} {size m d : Int32} (hm : rgI 0 23 m) (h0 : f (48 + m.toNatClampNeg) = 0) : ∀ i, hitb f rl size m d i = false := fun i => by
  unfold hitb
  rw [sp_one hm h0]
  have hl : m.toNatClampNeg < 32 := by have := cl_nat hm.1; have := hm.2; omega
  have w := bt_one_is (i := i) hl
  rw [nI_tn hm (by decide)] at w
  rw [w]
  by_cases q : i = m.toNatClampNeg
  · rw [q, nI_tn hm (by decide)]; simp
  · simp [q]
theorem com_tree {f rl : Nat → Int32} {size m d : Int32} {z : Nat} (hm : thr f m) (hd : rgI 0 3 d) (ha : F_X12_atOf f m d = 24) (h0 : f (48 + m.toNatClampNeg) = 0) (hz : 1 ≤ z) (hc : ct (isT f) 24 + z ≤ 24) : COM f rl size m d ∧ ct (hitb f rl size m d) 24 = 0 := by
  have e : ct (hitb f rl size m d) 24 = 0 := ct_0 24 (fun i _ => hit_none hm.1 h0 i)
  exact ⟨⟨hm, hd, ha, by rw [e]; omega⟩, e⟩
