/-! ===== a tree of mounts that stands; what a clone does to it ===== -/
def Qv (N : Int32) (x : Int32) : Prop := 0 ≤ x.toInt ∧ x.toInt < N.toInt
def TS (f : Nat → Int32) (τ : Int32 → Nat) (N : Int32) : Prop := (∃ ρ, P1 f ρ) ∧ P2A f τ ∧ VA f (Qv N) ∧ UB f ∧ f 121 = N
def TI (B : Int) (f : Nat → Int32) : Prop := (∃ τ, TS f τ (f 121)) ∧ 1 ≤ (f 121).toInt ∧ (f 121).toInt ≤ B
def KP (f f' : Nat → Int32) : Prop := ∀ i, i < 24 → tN f i → f' i = f i ∧ f' (48 + i) = f (48 + i) ∧ f' (72 + i) = f (72 + i)
theorem KP.rf {f : Nat → Int32} : KP f f := fun _ _ _ => ⟨rfl, rfl, rfl⟩
theorem KP.tN {f f' : Nat → Int32} (h : KP f f') {i : Nat} (hi : tN f i) : tN f' i := ⟨hi.1, by rw [(h i hi.1 hi).1]; exact hi.2⟩
theorem KP.tr {f f' f'' : Nat → Int32} (h : KP f f') (h2 : KP f' f'') : KP f f'' := fun i hi ht => by
  obtain ⟨a, b, c⟩ := h i hi ht
  obtain ⟨a2, b2, c2⟩ := h2 i hi (h.tN ht)
  exact ⟨a2.trans a, b2.trans b, c2.trans c⟩
theorem KP.thr {f f' : Nat → Int32} (h : KP f f') {k : Int32} (hk : thr f k) : thr f' k := thr_c hk (h _ (thr_tN hk).1 (thr_tN hk)).1
theorem KP_comes {f : Nat → Int32} {m d g s : Int32} (hl : (F_X12_freeOf f).toInt < 24) : KP f (F_X12_comes f m d g s).2 := by
  obtain ⟨hk, -, hf⟩ := free_is f
  have hf := hf hl
  have hc := cl_nat hk.1
  have e24 : ((24 : Int32) + F_X12_freeOf f).toNatClampNeg = 24 + (F_X12_freeOf f).toNatClampNeg := add_cl (n := 24) rfl (by decide) hk
  have e48 : ((48 : Int32) + F_X12_freeOf f).toNatClampNeg = 48 + (F_X12_freeOf f).toNatClampNeg := add_cl (n := 48) rfl (by decide) hk
  have e72 : ((72 : Int32) + F_X12_freeOf f).toNatClampNeg = 72 + (F_X12_freeOf f).toNatClampNeg := add_cl (n := 72) rfl (by decide) hk
  have e96 : ((96 : Int32) + F_X12_freeOf f).toNatClampNeg = 96 + (F_X12_freeOf f).toNatClampNeg := add_cl (n := 96) rfl (by decide) hk
  unfold F_X12_comes
  rw [e24, e48, e72, e96]
  generalize (F_X12_freeOf f).toNatClampNeg = k at hc hf
  intro i hi ht
  have q : i ≠ k := fun e => ht.2 (by rw [e]; exact hf)
  show upd (upd (upd (upd (upd f k m) (24 + k) d) (48 + k) g) (72 + k) s) (96 + k) 0 i = _ ∧ upd (upd (upd (upd (upd f k m) (24 + k) d) (48 + k) g) (72 + k) s) (96 + k) 0 (48 + i) = _ ∧ upd (upd (upd (upd (upd f k m) (24 + k) d) (48 + k) g) (72 + k) s) (96 + k) 0 (72 + i) = _
  refine ⟨?_, ?_, ?_⟩
  · rw [upd_ne (by omega), upd_ne (by omega), upd_ne (by omega), upd_ne (by omega), upd_ne (by omega)]
  · rw [upd_ne (by omega), upd_ne (by omega), upd_ne (by omega), upd_ne (by omega), upd_ne (by omega)]
  · rw [upd_ne (by omega), upd_ne (by omega), upd_ne (by omega), upd_ne (by omega), upd_ne (by omega)]
theorem thr_ne {f : Nat → Int32} {m : Int32} (h : thr f m) : ¬ m = -1 := nh_pos h.1 (by decide)
theorem TS_comes {f : Nat → Int32} {τ : Int32 → Nat} {N m d g s : Int32} (h : TS f τ N) (hm : thr f m) (hc : ct (isT f) 24 < 24) (hg : Qv N g) (hs : Qv N s) (hp : ¬ g = 0 → ¬ s = 0 → τ s < τ g) : TS (F_X12_comes f m d g s).2 τ N ∧ thr (F_X12_comes f m d g s).2 (F_X12_comes f m d g s).1 ∧ ct (isT (F_X12_comes f m d g s).2) 24 = ct (isT f) 24 + 1 ∧ KP f (F_X12_comes f m d g s).2 := by
  have hl := free_lt hc
  obtain ⟨⟨ρ, h1⟩, h2, h3, h4, h5⟩ := h
  have v := VA_comes (m := m) (d := d) h3 hl hg hs
  refine ⟨⟨P1_comes h1 hm hl, P2_comes h2 hl hp, v.1, UB_comes hl h4, v.2.trans h5⟩, ⟨⟨(free_is f).1.1, (show (F_X12_freeOf f).toInt ≤ 23 by omega)⟩, ?_⟩, cnt_comes (thr_ne hm) hl, KP_comes hl⟩
  show ¬ (F_X12_comes f m d g s).2 (F_X12_freeOf f).toNatClampNeg = -1
  have hk : (F_X12_freeOf f).toNatClampNeg < 24 := by have := cl_nat (free_is f).1.1; omega
  rw [comes_row hk, if_pos rfl]
  exact thr_ne hm
theorem rank_bd (σ : Int32 → Nat) : ∃ S, ∀ x, σ x ≤ S := by
  have h : ∀ n, ∃ S, ∀ x : Int32, tn x < n → σ x ≤ S := by
    intro n
    induction n with
    | zero => exact ⟨0, fun x hx => absurd hx (Nat.not_lt_zero _)⟩
    | succ n ih =>
      obtain ⟨S, hS⟩ := ih
      by_cases q : ∃ x, tn x = n
      · obtain ⟨y, hy⟩ := q
        refine ⟨S + σ y, fun x hx => ?_⟩
        by_cases w : tn x = n
        · rw [tn_inj (w.trans hy.symm)]; omega
        · have := hS x (by omega); omega
      · refine ⟨S, fun x hx => hS x ?_⟩
        have : tn x ≠ n := fun w => q ⟨x, w⟩
        omega
  obtain ⟨S, hS⟩ := h (2 ^ 32)
  exact ⟨S, fun x => hS x x.toBitVec.isLt⟩
/-- an entry of the table of new groups -/
def TE (gm group N : Int32) (S : Nat) (σ τ : Int32 → Nat) (o n : Int32) : Prop := 0 < n.toInt ∧ n.toInt < N.toInt ∧ ((o = gm ∧ n = group) ∨ (¬ o = gm ∧ τ n = S + 1 + σ o))
def LG0 (f : Nat → Int32) (N : Int32) (ol nw : Nat → Int32) (nm : Int32) (m : Nat) (group master : Int32) (S : Nat) (σ τ : Int32 → Nat) : Prop := (∀ x, Qv (f 121) x → τ x = σ x) ∧ Qv N group ∧ Qv (f 121) master ∧ (¬ group = 0 → ¬ master = 0 → τ master < τ group) ∧ (τ group ≤ S ∨ τ group = S + 1 + σ (f (48 + m))) ∧ ∀ i : Nat, (i : Int) < nm.toInt → TE (f (48 + m)) group N S σ τ (ol i) (nw i)
def LN (f fl ol nw : Nat → Int32) (nm : Int32) (k m : Nat) (group master : Int32) (S : Nat) (σ : Int32 → Nat) : Prop := (∀ j, j ≠ 121 → fl j = f j) ∧ (f 121).toInt ≤ (fl 121).toInt ∧ (fl 121).toInt ≤ (f 121).toInt + 1 + k ∧ 0 ≤ nm.toInt ∧ nm.toInt ≤ k + 1 ∧ ((m < k ∨ f (48 + m) = 0) → nm.toInt ≤ k) ∧ (¬ f (48 + m) = 0 → 0 < nm.toInt ∧ ol 0 = f (48 + m) ∧ nw 0 = group ∧ ¬ group = 0) ∧ ∃ τ, LG0 f (fl 121) ol nw nm m group master S σ τ
/-- what newOf answers -/
def NO (ol nw : Nat → Int32) (nm g r : Int32) : Prop := (r = 0 ∧ (g = 0 ∨ ∀ i : Nat, (i : Int) < nm.toInt → ¬ ol i = g)) ∨ (¬ g = 0 ∧ ∃ i : Nat, (i : Int) < nm.toInt ∧ ol i = g ∧ r = nw i)
theorem LN_skip {f fl ol nw : Nat → Int32} {nm k k1 : Int32} {m : Nat} {group master : Int32} {S : Nat} {σ : Int32 → Nat} (h : LN f fl ol nw nm k.toNatClampNeg m group master S σ) (hk : rgI 0 24 k) (e1 : k1.toInt = k.toInt + 1) : LN f fl ol nw nm k1.toNatClampNeg m group master S σ := by
  rw [tn_s hk e1]
  obtain ⟨a, b, c, d, e, e2, r⟩ := h
  refine ⟨a, b, by omega, d, by omega, fun q => ?_, r⟩
  rcases q with q | q
  · rcases Nat.lt_or_ge m k.toNatClampNeg with w | w
    · have := e2 (Or.inl w); omega
    · omega
  · have := e2 (Or.inr q); omega
theorem LN_ix {f fl ol nw : Nat → Int32} {nm k : Int32} {m : Nat} {group master g : Int32} {S : Nat} {σ : Int32 → Nat} (h : LN f fl ol nw nm k.toNatClampNeg m group master S σ) (hk : rgI 0 23 k) (hm : m < 24) (eg : g = fl (48 + k).toNatClampNeg) (hg : ¬ g = 0) (hn : NO ol nw nm g 0) : rgI 0 23 nm ∧ ¬ g = f (48 + m) ∧ ∀ i : Nat, (i : Int) < nm.toInt → ¬ ol i = g := by
  obtain ⟨a, b, c, d, e, e2, w, τ, t⟩ := h
  have hall : ∀ i : Nat, (i : Int) < nm.toInt → ¬ ol i = g := by
    rcases hn with q | q
    · exact q.2.resolve_left hg
    · obtain ⟨-, i, hi, -, q3⟩ := q
      have := (t.2.2.2.2.2 i hi).1
      rw [← q3] at this
      exact absurd this (by decide)
  have hgm : ¬ g = f (48 + m) := by
    intro q
    have := w (by rw [← q]; exact hg)
    exact hall 0 this.1 (this.2.1.trans q.symm)
  have h1 := hk.1; have h2 := hk.2
  have ek : (48 + k).toNatClampNeg = 48 + k.toNatClampNeg := add_cl (n := 48) rfl (by decide) (rg_w hk (by decide) (by decide))
  have hkn := cl_nat h1
  have hkm : k.toNatClampNeg ≠ m := by
    intro q
    apply hgm
    rw [eg, ek, q, a _ (by omega)]
  refine ⟨⟨d, ?_⟩, hgm, hall⟩
  rcases Nat.lt_or_ge m k.toNatClampNeg with q | q
  · have := e2 (Or.inl q); omega
  · omega
theorem newGroup_1 {f : Nat → Int32} : (F_X12_newGroup f).1 = f 121 := by
  unfold F_X12_newGroup
  show (upd f 121 (f 121 + 1)) 121 - 1 = f 121
  rw [upd_eq]
  exact Int32.add_sub_cancel _ _
theorem newGroup_2 {f : Nat → Int32} : (F_X12_newGroup f).2 = upd f 121 (f 121 + 1) := rfl
theorem n121 {f : Nat → Int32} (h : (f 121).toInt ≤ 2100000) (h0 : 0 ≤ (f 121).toInt) : (f 121 + 1).toInt = (f 121).toInt + 1 := ti_add (y := 1) (by show _ ≤ (f 121).toInt + 1; omega) (by show (f 121).toInt + 1 ≤ _; omega)
theorem LN_lay {f fl ol nw : Nat → Int32} {nm k k1 nm1 N : Int32} {m : Nat} {group master g : Int32} {S : Nat} {σ : Int32 → Nat} {fl1 ol1 nw1 : Nat → Int32} (h : LN f fl ol nw nm k.toNatClampNeg m group master S σ) (hB : (f 121).toInt ≤ 2000000) (h1 : 1 ≤ (f 121).toInt) (hk : rgI 0 23 k) (hm : m < 24) (eg : g = fl (48 + k).toNatClampNeg) (hg : ¬ g = 0) (hn : NO ol nw nm g 0) (eN : N = (F_X12_newGroup fl).1) (e1 : fl1 = (F_X12_newGroup fl).2) (e2 : ol1 = upd ol nm.toNatClampNeg g) (e3 : nw1 = upd nw nm.toNatClampNeg N) (e4 : nm1 = nm + 1) (ek : k1.toInt = k.toInt + 1) : LN f fl1 ol1 nw1 nm1 k1.toNatClampNeg m group master S σ := by
  obtain ⟨hr, hgm, hall⟩ := LN_ix h hk hm eg hg hn
  rw [tn_s (rg_w hk (by decide) (by decide)) ek]
  have hkl : k.toNatClampNeg < 24 := by have := cl_nat hk.1; have := hk.2; omega
  obtain ⟨a, b, c, d, e, eb, w, τ, t⟩ := h
  have hnm : nm1.toInt = nm.toInt + 1 := by rw [e4]; have := hr.2; exact ti_add (y := 1) (by show _ ≤ nm.toInt + 1; omega) (by show nm.toInt + 1 ≤ _; omega)
  have hnn := cl_nat hr.1
  rw [newGroup_1] at eN
  rw [newGroup_2] at e1
  have hfl : (fl 121 + 1).toInt = (fl 121).toInt + 1 := n121 (by omega) (by omega)
  have hf1 : fl1 121 = fl 121 + 1 := by rw [e1]; exact upd_eq
  have hNi : N.toInt = (fl 121).toInt := by rw [eN]
  have hkm : k.toNatClampNeg ≠ m := by
    intro q
    apply hgm
    rw [eg, add_cl (n := 48) rfl (by decide) (rg_w hk (by decide) (by decide)), q, a _ (by omega)]
  refine ⟨fun j hj => by rw [e1, upd_ne hj]; exact a j hj, by rw [hf1, hfl]; omega, by rw [hf1, hfl]; omega, by omega, by omega, fun q => ?_, fun q => ?_, fun x => if x = N then S + 1 + σ g else τ x, ?_⟩
  · rcases q with q | q
    · have := eb (Or.inl (by omega)); omega
    · have := eb (Or.inr q); omega
  · obtain ⟨w1, w2, w3, w4⟩ := w q
    exact ⟨by omega, by rw [e2, upd_ne (by omega)]; exact w2, by rw [e3, upd_ne (by omega)]; exact w3, w4⟩
  · obtain ⟨t1, t2, t3, t4, t5, t6⟩ := t
    have hne : ∀ x : Int32, x.toInt < (fl 121).toInt → ¬ x = N := fun x hx q => by rw [q] at hx; omega
    have hgn : ¬ group = N := hne _ t2.2
    have hmn : ¬ master = N := hne _ (by have := t3.2; omega)
    refine ⟨fun x hx => ?_, ⟨t2.1, by rw [hf1, hfl]; have := t2.2; omega⟩, t3, fun g1 g2 => ?_, ?_, fun i hi => ?_⟩
    · show (if x = N then _ else τ x) = σ x
      rw [if_neg (hne x (by have := hx.2; omega))]; exact t1 x hx
    · show (if master = N then _ else τ master) < (if group = N then _ else τ group)
      rw [if_neg hmn, if_neg hgn]; exact t4 g1 g2
    · show (if group = N then _ else τ group) ≤ S ∨ (if group = N then _ else τ group) = _
      rw [if_neg hgn]; exact t5
    · by_cases q : i = nm.toNatClampNeg
      · have o1 : ol1 i = g := by rw [e2, q]; exact upd_eq
        have o2 : nw1 i = N := by rw [e3, q]; exact upd_eq
        rw [o1, o2]
        exact ⟨by omega, by rw [hf1, hfl]; omega, Or.inr ⟨hgm, if_pos rfl⟩⟩
      · have o1 : ol1 i = ol i := by rw [e2]; exact upd_ne q
        have o2 : nw1 i = nw i := by rw [e3]; exact upd_ne q
        rw [o1, o2]
        obtain ⟨p1, p2, p3⟩ := t6 i (by omega)
        refine ⟨p1, by rw [hf1, hfl]; omega, p3.imp (fun z => z) (fun z => ⟨z.1, ?_⟩)⟩
        show (if nw i = N then _ else τ (nw i)) = _
        rw [if_neg (hne _ p2)]; exact z.2
