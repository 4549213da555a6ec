/-! ===== a clone: its start, its steps, its end ===== -/
theorem Qv0 {N : Int32} (h : 1 ≤ N.toInt) : Qv N 0 := ⟨by decide, by show (0 : Int) < N.toInt; omega⟩
theorem LN_i0 {f ol nw : Nat → Int32} {m : Nat} {group master : Int32} {S : Nat} {σ : Int32 → Nat} (hS : ∀ x, σ x ≤ S) (hg : Qv (f 121) group) (hs : Qv (f 121) master) (hp : ¬ group = 0 → ¬ master = 0 → σ master < σ group) (h0 : f (48 + m) = 0) : LN f f ol nw 0 (0 : Int32).toNatClampNeg m group master S σ :=
  ⟨fun _ _ => rfl, Int.le_refl _, by omega, by decide, by show (0 : Int) ≤ _; omega, fun _ => by show (0 : Int) ≤ _; omega, fun q => absurd h0 q, σ, fun _ _ => rfl, hg, hs, hp, Or.inl (hS _), fun i hi => absurd hi (by show ¬ (i : Int) < 0; omega)⟩
theorem LN_i1 {f ol nw ol1 nw1 : Nat → Int32} {m : Nat} {group master gm nm : Int32} {S : Nat} {σ : Int32 → Nat} (hS : ∀ x, σ x ≤ S) (hg : Qv (f 121) group) (hs : Qv (f 121) master) (hp : ¬ group = 0 → ¬ master = 0 → σ master < σ group) (hgm : gm = f (48 + m)) (hn0 : ¬ gm = 0) (hgr : ¬ group = 0) (e2 : ol1 = upd ol (0 : Int32).toNatClampNeg gm) (e3 : nw1 = upd nw (0 : Int32).toNatClampNeg group) (e4 : nm = 0 + 1) : LN f f ol1 nw1 nm (0 : Int32).toNatClampNeg m group master S σ := by
  have hn : nm.toInt = 1 := by rw [e4]; rfl
  have z : (0 : Int32).toNatClampNeg = 0 := rfl
  rw [z] at e2 e3
  have o1 : ol1 0 = f (48 + m) := by rw [e2, ← hgm]; exact upd_eq
  have o2 : nw1 0 = group := by rw [e3]; exact upd_eq
  refine ⟨fun _ _ => rfl, Int.le_refl _, by omega, by omega, by rw [z]; omega, fun q => ?_, fun q => ⟨by omega, o1, o2, hgr⟩, σ, fun _ _ => rfl, hg, hs, hp, Or.inl (hS _), fun i hi => ?_⟩
  · rcases q with q | q
    · rw [z] at q; omega
    · exact absurd (hgm.trans q) hn0
  · have : i = 0 := by omega
    subst this
    rw [o1, o2]
    refine ⟨?_, hg.2, Or.inl ⟨rfl, rfl⟩⟩
    have h1 := hg.1
    have : group.toInt ≠ 0 := fun q => hgr (Int32.toInt_inj.mp q)
    omega
theorem LN_i2 {f fl ol nw ol1 nw1 : Nat → Int32} {m : Nat} {group master gm nm : Int32} {S : Nat} {σ : Int32 → Nat} (hS : ∀ x, σ x ≤ S) (h1 : 1 ≤ (f 121).toInt) (hB : (f 121).toInt ≤ 2000000) (hs : Qv (f 121) master) (eG : group = (F_X12_newGroup f).1) (ef : fl = (F_X12_newGroup f).2) (hm : m < 24) (hgm : gm = fl (48 + m)) (hn0 : ¬ gm = 0) (e2 : ol1 = upd ol (0 : Int32).toNatClampNeg gm) (e3 : nw1 = upd nw (0 : Int32).toNatClampNeg group) (e4 : nm = 0 + 1) : LN f fl ol1 nw1 nm (0 : Int32).toNatClampNeg m group master S σ := by
  have hn : nm.toInt = 1 := by rw [e4]; rfl
  have z : (0 : Int32).toNatClampNeg = 0 := rfl
  rw [z] at e2 e3
  rw [newGroup_1] at eG
  rw [newGroup_2] at ef
  have hfl : (f 121 + 1).toInt = (f 121).toInt + 1 := n121 (by omega) (by omega)
  have hf1 : fl 121 = f 121 + 1 := by rw [ef]; exact upd_eq
  have hgm : gm = f (48 + m) := by rw [hgm, ef, upd_ne (by omega)]
  have o1 : ol1 0 = f (48 + m) := by rw [e2, ← hgm]; exact upd_eq
  have o2 : nw1 0 = group := by rw [e3]; exact upd_eq
  have hgi : group.toInt = (f 121).toInt := by rw [eG]
  have hgr : ¬ group = 0 := fun q => by rw [q] at hgi; have : (0 : Int32).toInt = 0 := rfl; omega
  have hne : ∀ x : Int32, Qv (f 121) x → ¬ x = group := fun x hx q => by have := hx.2; rw [q] at this; omega
  refine ⟨fun j hj => by rw [ef, upd_ne hj], by rw [hf1, hfl]; omega, by rw [hf1, hfl]; omega, by omega, by rw [z]; omega, fun q => ?_, fun q => ⟨by omega, o1, o2, hgr⟩, fun x => if x = group then S + 1 + σ (f (48 + m)) else σ x, fun x hx => ?_, ⟨by omega, by rw [hf1, hfl]; omega⟩, hs, fun g1 g2 => ?_, Or.inr (if_pos rfl), fun i hi => ?_⟩
  · rcases q with q | q
    · rw [z] at q; omega
    · exact absurd (hgm.trans q) hn0
  · show (if x = group then _ else σ x) = σ x
    rw [if_neg (hne x hx)]
  · show (if master = group then _ else σ master) < (if group = group then _ else _)
    rw [if_neg (hne _ hs), if_pos rfl]
    have := hS master
    omega
  · have : i = 0 := by omega
    subst this
    rw [o1, o2]
    exact ⟨by omega, by rw [hf1, hfl]; omega, Or.inl ⟨rfl, rfl⟩⟩
def L2 (f fl ol nw : Nat → Int32) (nm : Int32) (k m : Nat) (group master : Int32) (S : Nat) (σ : Int32 → Nat) (hb : Nat → Bool) (first : Int32) : Prop := (f 121).toInt ≤ (fl 121).toInt ∧ (fl 121).toInt ≤ (f 121).toInt + 25 ∧ (∃ τ, LG0 f (fl 121) ol nw nm m group master S σ τ ∧ TS fl τ (fl 121)) ∧ KP f fl ∧ ct (isT fl) 24 = ct (isT f) 24 + 1 + ct (fun i => hb i && decide (i < k)) 24 ∧ thr fl first
theorem ct_0 {p : Nat → Bool} : ∀ n, (∀ i, i < n → p i = false) → ct p n = 0
  | 0, _ => rfl
  | n + 1, h => by unfold ct; rw [ct_0 n (fun i hi => h i (by omega)), h n (by omega)]; rfl
theorem ct_mono {p q : Nat → Bool} : ∀ n, (∀ i, i < n → p i = true → q i = true) → ct p n ≤ ct q n
  | 0, _ => Nat.le_refl _
  | n + 1, h => by
    have := ct_mono n (fun i hi => h i (by omega))
    unfold ct
    have hn := h n (by omega)
    cases e : p n with
    | false => simp; omega
    | true => rw [hn e]; simp; omega
theorem P2_cg {f fl : Nat → Int32} {σ τ : Int32 → Nat} {N : Int32} (h : P2A f σ) (hv : VA f (Qv N)) (e0 : ∀ j, j ≠ 121 → fl j = f j) (ht : ∀ x, Qv N x → τ x = σ x) : P2A fl τ := fun i hi t => by
  have tf : tN f i := ⟨hi, by rw [← e0 i (by omega)]; exact t.2⟩
  have a := h i hi tf
  have b := hv i hi tf
  unfold P2 at a ⊢
  rw [e0 _ (by omega), e0 _ (by omega), ht _ b.1, ht _ b.2]
  exact a
theorem Qv_w {N M x : Int32} (h : Qv N x) (hl : N.toInt ≤ M.toInt) : Qv M x := ⟨h.1, by have := h.2; omega⟩
theorem L2_init {f fl fl2 ol nw : Nat → Int32} {nm k m d : Int32} {group master first : Int32} {S : Nat} {σ : Int32 → Nat} {hb : Nat → Bool} (h : LN f fl ol nw nm k.toNatClampNeg m.toNatClampNeg group master S σ) (hk : rgI 24 24 k) (hTS : TS f σ (f 121)) (hm : thr f m) (hc : ct (isT f) 24 + 1 + ct hb 24 ≤ 24) (e : fl2 = (F_X12_comes fl m d group master).2) (er : first = (F_X12_comes fl m d group master).1) : L2 f fl2 ol nw nm (0 : Int32).toNatClampNeg m.toNatClampNeg group master S σ hb first := by
  obtain ⟨a, b, c, -, -, -, -, τ, t⟩ := h
  obtain ⟨⟨ρ, h1⟩, h2, h3, h4, -⟩ := hTS
  have hk24 : k.toNatClampNeg = 24 := by
    have h1 := hk.1; have h2 := hk.2
    show k.toInt.toNat = 24
    omega
  have e0 : ∀ i, i < 24 → fl i = f i := fun i hi => a i (by omega)
  have hts : TS fl τ (fl 121) := ⟨⟨ρ, P1_same h1 e0⟩, P2_cg h2 h3 a t.1, fun i hi ti => by
    have := h3 i hi ⟨hi, by rw [← e0 i hi]; exact ti.2⟩
    rw [a (48 + i) (by omega), a (72 + i) (by omega)]
    exact ⟨Qv_w this.1 b, Qv_w this.2 b⟩, UB_same h4 (fun i hi => a _ (by omega)), rfl⟩
  have hct : ct (isT fl) 24 = ct (isT f) 24 := ct_cong 24 (fun i hi => by show decide _ = decide _; rw [e0 i hi])
  obtain ⟨r1, r2, r3, r4⟩ := TS_comes (d := d) hts (thr_c hm (e0 _ (thr_l hm))) (by omega) t.2.1 (Qv_w t.2.2.1 b) t.2.2.2.1
  have kp : KP f fl := fun i hi _ => ⟨e0 i hi, a _ (by omega), a _ (by omega)⟩
  have n2 : fl2 121 = fl 121 := by rw [e]; exact r1.2.2.2.2
  refine ⟨by rw [n2]; exact b, by rw [n2]; omega, ⟨τ, by rw [n2]; exact t, by rw [n2, e]; exact r1⟩, by rw [e]; exact kp.tr r4, ?_, by rw [e, er]; exact r2⟩
  rw [e, r3, hct, ct_0 (p := fun i => hb i && decide (i < (0 : Int32).toNatClampNeg)) 24 (fun i _ => by
    show (hb i && decide (i < 0)) = false
    simp)]
theorem L2_cnt {hb : Nat → Bool} {k : Nat} (hk : k < 24) : ct (fun i => hb i && decide (i < k + 1)) 24 = ct (fun i => hb i && decide (i < k)) 24 + (if hb k then 1 else 0) := by
  cases h : hb k with
  | false =>
    simp only [Bool.false_eq_true, if_false, Nat.add_zero]
    refine ct_cong 24 (fun i _ => ?_)
    by_cases q : i = k
    · subst q; simp [h]
    · rw [dec_succ q]
  | true =>
    simp only [if_true]
    refine ct_put (k := k) (by simp) (by simp [h]) (fun i q => by rw [← dec_succ q]) 24 hk
theorem L2_skip {f fl ol nw : Nat → Int32} {nm k k1 : Int32} {m : Nat} {group master first : Int32} {S : Nat} {σ : Int32 → Nat} {hb : Nat → Bool} (h : L2 f fl ol nw nm k.toNatClampNeg m group master S σ hb first) (hk : rgI 0 23 k) (e1 : k1.toInt = k.toInt + 1) (hn : hb k.toNatClampNeg = false) : L2 f fl ol nw nm k1.toNatClampNeg m group master S σ hb first := by
  rw [tn_s (rg_w hk (by decide) (by decide)) e1]
  have hl : k.toNatClampNeg < 24 := by have := cl_nat hk.1; have := hk.2; omega
  obtain ⟨a, b, c, d, e, g⟩ := h
  refine ⟨a, b, c, d, ?_, g⟩
  rw [L2_cnt hl, hn, e]; rfl
theorem L2_hit {f fl fl1 ol nw : Nat → Int32} {nm k k1 m d : Int32} {group master first g s : Int32} {S : Nat} {σ : Int32 → Nat} {hb : Nat → Bool} (h : L2 f fl ol nw nm k.toNatClampNeg m.toNatClampNeg group master S σ hb first) (hTS : TS f σ (f 121)) (h1 : 1 ≤ (f 121).toInt) (hk : rgI 0 23 k) (e1 : k1.toInt = k.toInt + 1) (hn : hb k.toNatClampNeg = true) (hc : ct (isT f) 24 + 1 + ct hb 24 ≤ 24) (ht : thr f k) (hm : thr f m) (hgs : (g = group ∧ s = master) ∨ (¬ fl (48 + k).toNatClampNeg = fl (48 + m).toNatClampNeg ∧ NO ol nw nm (fl (48 + k).toNatClampNeg) g ∧ NO ol nw nm (fl (72 + k).toNatClampNeg) s)) (e : fl1 = (F_X12_comes fl k d g s).2) : L2 f fl1 ol nw nm k1.toNatClampNeg m.toNatClampNeg group master S σ hb first := by
  rw [tn_s (rg_w hk (by decide) (by decide)) e1]
  have hl : k.toNatClampNeg < 24 := thr_l ht
  obtain ⟨b1, b2, ⟨τ, t, ts⟩, kp, hcnt, hf⟩ := h
  have cc := L2_cnt (hb := hb) hl
  rw [hn, if_pos rfl] at cc
  have cm : ct (fun i => hb i && decide (i < k.toNatClampNeg + 1)) 24 ≤ ct hb 24 := ct_mono 24 (fun i _ q => by simp at q; exact q.1)
  have kk := kp _ hl (thr_tN ht)
  have km := kp _ (thr_l hm) (thr_tN hm)
  have ek : (48 + k).toNatClampNeg = 48 + k.toNatClampNeg := add_cl (n := 48) rfl (by decide) (rg_w hk (by decide) (by decide))
  have ek2 : (72 + k).toNatClampNeg = 72 + k.toNatClampNeg := add_cl (n := 72) rfl (by decide) (rg_w hk (by decide) (by decide))
  have em : (48 + m).toNatClampNeg = 48 + m.toNatClampNeg := add_cl (n := 48) rfl (by decide) (rg_w hm.1 (by decide) (by decide))
  rw [ek, ek2, em, kk.2.1, kk.2.2, km.2.1] at hgs
  have q0 : Qv (fl 121) 0 := Qv0 (by omega)
  have nov : ∀ x y, NO ol nw nm x y → Qv (fl 121) y := fun x y hy => by
    rcases hy with q | ⟨-, i, hi, -, q⟩
    · rw [q.1]; exact q0
    · have := t.2.2.2.2.2 i hi
      rw [q]; exact ⟨Int.le_of_lt this.1, this.2.1⟩
  have P : Qv (fl 121) g ∧ Qv (fl 121) s ∧ (¬ g = 0 → ¬ s = 0 → τ s < τ g) := by
    rcases hgs with ⟨q1, q2⟩ | ⟨np, n1, n2⟩
    · rw [q1, q2]; exact ⟨t.2.1, Qv_w t.2.2.1 b1, t.2.2.2.1⟩
    · refine ⟨nov _ _ n1, nov _ _ n2, fun g0 s0 => ?_⟩
      obtain ⟨x0, i, hi, oi, ri⟩ := n1.resolve_left (fun q => g0 q.1)
      obtain ⟨y0, j, hj, oj, rj⟩ := n2.resolve_left (fun q => s0 q.1)
      have p2 := hTS.2.1 _ hl (thr_tN ht) x0 y0
      obtain ⟨-, -, ti⟩ := t.2.2.2.2.2 i hi
      obtain ⟨-, -, tj⟩ := t.2.2.2.2.2 j hj
      rw [oi] at ti
      rw [oj] at tj
      have ti := (ti.resolve_left (fun q => np q.1)).2
      rw [ri, rj, ti]
      rcases tj with q | q
      · rw [q.2]
        rcases t.2.2.2.2.1 with w | w
        · omega
        · rw [w, ← q.1]; omega
      · rw [q.2]; omega
  obtain ⟨r1, r2, r3, r4⟩ := TS_comes (d := d) ts (kp.thr ht) (by omega) P.1 P.2.1 P.2.2
  have n2 : fl1 121 = fl 121 := by rw [e]; exact r1.2.2.2.2
  refine ⟨by rw [n2]; exact b1, by rw [n2]; exact b2, ⟨τ, by rw [n2]; exact t, by rw [n2, e]; exact r1⟩, by rw [e]; exact kp.tr r4, ?_, by rw [e]; exact r4.thr hf⟩
  rw [e, r3, cc, hcnt]
  omega
theorem TS_hi {f : Nat → Int32} {τ : Int32 → Nat} {N v : Int32} (h : TS f τ N) : TS (upd f 120 v) τ N := by
  obtain ⟨⟨ρ, h1⟩, h2, h3, h4, h5⟩ := h
  exact ⟨⟨ρ, P1_same h1 (fun i hi => upd_ne (by omega))⟩, P2_hi (by decide) h2, VA_hi (by decide) h3, UB_u (Or.inr (by decide)) h4, by rw [upd_ne (by decide)]; exact h5⟩
/-- what a clone leaves -/
def GC (B : Int) (f f' : Nat → Int32) (hb : Nat → Bool) (r : Int32) : Prop := TI (B + 25) f' ∧ thr f' r ∧ KP f f' ∧ ct (isT f') 24 = ct (isT f) 24 + 1 + ct hb 24
theorem GC_mk {B : Int} {f fl fl1 ol nw : Nat → Int32} {nm k v : Int32} {m : Nat} {group master first : Int32} {S : Nat} {σ : Int32 → Nat} {hb : Nat → Bool} (h : L2 f fl ol nw nm k.toNatClampNeg m group master S σ hb first) (hk : rgI 24 24 k) (h1 : 1 ≤ (f 121).toInt) (hB : (f 121).toInt ≤ B) (e : fl1 = upd fl (120 : Int32).toNatClampNeg v) : GC B f fl1 hb first := by
  obtain ⟨b1, b2, ⟨τ, -, ts⟩, kp, hcnt, hf⟩ := h
  have hk24 : k.toNatClampNeg = 24 := by
    have h1 := hk.1; have h2 := hk.2
    show k.toInt.toNat = 24
    omega
  have e : fl1 = upd fl 120 v := e
  have n1 : fl1 121 = fl 121 := by rw [e]; exact upd_ne (by decide)
  have e0 : ∀ i, i < 24 → fl1 i = fl i := fun i hi => by rw [e]; exact upd_ne (by omega)
  refine ⟨⟨⟨τ, by rw [n1, e]; exact TS_hi ts⟩, by rw [n1]; omega, by rw [n1]; omega⟩, thr_c hf (e0 _ (thr_l hf)), kp.tr (fun i hi _ => ⟨e0 i hi, by rw [e]; exact upd_ne (by omega), by rw [e]; exact upd_ne (by omega)⟩), ?_⟩
  have : ct (isT fl1) 24 = ct (isT fl) 24 := ct_cong 24 (fun i hi => by show decide _ = decide _; rw [e0 i hi])
  rw [this, hcnt]
  congr 1
  exact ct_cong 24 (fun i hi => by rw [hk24, decide_eq_true hi, Bool.and_true])
