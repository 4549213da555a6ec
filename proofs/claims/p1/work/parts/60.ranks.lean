/-! ===== ranks: any rank gives one of at most 23 (fb_holes is pasted from kit/laws/COUNTS) ===== -/
theorem fb_holes : ∀ (m n : Nat) (f : Nat → Nat), (∀ i, i < n → f i < m) → (∀ i j, i < j → j < n → f i ≠ f j) → n ≤ m := by
  intro m
  induction m with
  | zero =>
    intro n f h1 _
    rcases Nat.eq_zero_or_pos n with h | h
    · omega
    · exact absurd (h1 0 h) (Nat.not_lt_zero _)
  | succ m ih =>
    intro n f h1 h2
    by_cases hx : ∃ i, i < n ∧ f i = m
    · obtain ⟨a, ha, hfa⟩ := hx
      have hg := ih (n - 1) (fun i => if i < a then f i else f (i + 1)) (by
        intro i hi
        by_cases q : i < a
        · simp only [if_pos q]
          have b1 := h1 i (by omega)
          have b2 := h2 i a q ha
          omega
        · simp only [if_neg q]
          have b1 := h1 (i + 1) (by omega)
          have b2 := h2 a (i + 1) (by omega) (by omega)
          omega) (by
        intro i j hij hj
        by_cases q : i < a
        · by_cases r : j < a
          · simp only [if_pos q, if_pos r]
            exact h2 i j hij (by omega)
          · simp only [if_pos q, if_neg r]
            exact h2 i (j + 1) (by omega) (by omega)
        · have r : ¬ j < a := by omega
          simp only [if_neg q, if_neg r]
          exact h2 (i + 1) (j + 1) (by omega) (by omega))
      omega
    · have hg := ih n f (fun i hi => by
        have b1 := h1 i hi
        have b2 : f i ≠ m := fun e => hx ⟨i, hi, e⟩
        omega) h2
      omega
/-- parents are there, and nearer to the root by some rank -/
def P1u (f : Nat → Int32) (ρ : Nat → Nat) : Prop := f 0 = 24 ∧ ∀ k : Int32, thr f k → ¬ k = 0 → thr f (f k.toNatClampNeg) ∧ ρ (f k.toNatClampNeg).toNatClampNeg < ρ k.toNatClampNeg
def tN (f : Nat → Int32) (k : Nat) : Prop := k < 24 ∧ ¬ f k = -1
theorem tN_thr {f : Nat → Int32} {k : Nat} (h : tN f k) : thr f (nI k) := by
  have hk : k < 2 ^ 31 := by have := h.1; omega
  have e := nI_toInt hk
  exact ⟨⟨by omega, by have := h.1; omega⟩, by rw [nI_clamp hk]; exact h.2⟩
theorem thr_tN {f : Nat → Int32} {k : Int32} (h : thr f k) : tN f k.toNatClampNeg := by
  have := cl_nat h.1.1
  have := h.1.2
  exact ⟨by omega, h.2⟩
theorem P1u_step {f : Nat → Int32} {ρ : Nat → Nat} (h : P1u f ρ) {k : Nat} (hk : tN f k) (h0 : k ≠ 0) : tN f (f k).toNatClampNeg ∧ ρ (f k).toNatClampNeg < ρ k := by
  have hb : k < 2 ^ 31 := by have := hk.1; omega
  obtain ⟨a, b⟩ := h.2 (nI k) (tN_thr hk) (nI_ne0 (Nat.pos_of_ne_zero h0) hb)
  rw [nI_clamp hb] at a b
  exact ⟨thr_tN a, b⟩
def cz (f : Nat → Int32) (k : Nat) : Nat → Nat
  | 0 => k
  | i + 1 => if cz f k i = 0 then 0 else (f (cz f k i)).toNatClampNeg
theorem cz_s {f : Nat → Int32} {k : Nat} (h0 : k ≠ 0) : ∀ i, cz f k (i + 1) = cz f (f k).toNatClampNeg i
  | 0 => by show (if k = 0 then 0 else (f k).toNatClampNeg) = _; rw [if_neg h0]; rfl
  | i + 1 => by
    show (if cz f k (i + 1) = 0 then 0 else (f (cz f k (i + 1))).toNatClampNeg) = (if cz f (f k).toNatClampNeg i = 0 then 0 else (f (cz f (f k).toNatClampNeg i)).toNatClampNeg)
    rw [cz_s h0 i]
theorem cz_t {f : Nat → Int32} {ρ : Nat → Nat} (h : P1u f ρ) {k : Nat} (hk : tN f k) : ∀ i, tN f (cz f k i)
  | 0 => hk
  | i + 1 => by
    have ih := cz_t h hk i
    show tN f (if cz f k i = 0 then 0 else (f (cz f k i)).toNatClampNeg)
    split
    · exact ⟨by decide, by rw [h.1]; decide⟩
    · rename_i q; exact (P1u_step h ih q).1
theorem cz_e {f : Nat → Int32} {ρ : Nat → Nat} (h : P1u f ρ) : ∀ (n k : Nat), ρ k < n → tN f k → ∃ N, cz f k N = 0
  | 0, k, hn, _ => absurd hn (Nat.not_lt_zero _)
  | n + 1, k, hn, hk => by
    by_cases h0 : k = 0
    · exact ⟨0, h0⟩
    · obtain ⟨a, b⟩ := P1u_step h hk h0
      obtain ⟨N, e⟩ := cz_e h n _ (by omega) a
      exact ⟨N + 1, by rw [cz_s h0]; exact e⟩
theorem cz_d {f : Nat → Int32} {ρ : Nat → Nat} (h : P1u f ρ) {k N : Nat} (hk : tN f k) (hN : ∀ j, j < N → ¬ cz f k j = 0) (i : Nat) : ∀ d, i + d + 1 ≤ N → ρ (cz f k (i + d + 1)) < ρ (cz f k i)
  | 0, hd => by
    have q := hN i (by omega)
    have := (P1u_step h (cz_t h hk i) q).2
    show ρ (if cz f k i = 0 then 0 else (f (cz f k i)).toNatClampNeg) < _
    rw [if_neg q]; exact this
  | d + 1, hd => by
    have ih := cz_d h hk hN i d (by omega)
    have q := hN (i + d + 1) (by omega)
    have := (P1u_step h (cz_t h hk (i + d + 1)) q).2
    show ρ (if cz f k (i + d + 1) = 0 then 0 else (f (cz f k (i + d + 1))).toNatClampNeg) < _
    rw [if_neg q]; omega
theorem cz_b {f : Nat → Int32} {ρ : Nat → Nat} (h : P1u f ρ) {k N : Nat} (hk : tN f k) (hN : ∀ j, j < N → ¬ cz f k j = 0) : N ≤ 23 := by
  have := fb_holes 24 (N + 1) (cz f k) (fun i _ => (cz_t h hk i).1) (fun i j hij hj e => by
    have := cz_d h hk hN i (j - i - 1) (by omega)
    rw [show i + (j - i - 1) + 1 = j by omega, ← e] at this
    exact absurd this (Nat.lt_irrefl _))
  omega
theorem P1_of {f : Nat → Int32} {ρ : Nat → Nat} (h : P1u f ρ) : ∃ ρ', P1 f ρ' := by
  have hl : ∀ k, ∃ N, tN f k → (cz f k N = 0 ∧ ∀ j, j < N → ¬ cz f k j = 0) := by
    intro k
    by_cases hk : tN f k
    · obtain ⟨N, a, b⟩ := pk_least (fun N => cz f k N = 0) (cz_e h (ρ k + 1) k (Nat.lt_succ_self _) hk)
      exact ⟨N, fun _ => ⟨a, b⟩⟩
    · exact ⟨0, fun q => absurd q hk⟩
  have hc : ∃ r : Nat → Nat, ∀ k, tN f k → (cz f k (r k) = 0 ∧ ∀ j, j < r k → ¬ cz f k j = 0) := ⟨fun k => Classical.choose (hl k), fun k => Classical.choose_spec (hl k)⟩
  obtain ⟨r, hr⟩ := hc
  have hd : ∀ k : Nat, ∃ q : Nat, (tN f k → q = r k) ∧ (¬ tN f k → q = 0) := by
    intro k
    by_cases hk : tN f k
    · exact ⟨r k, fun _ => rfl, fun n => absurd hk n⟩
    · exact ⟨0, fun n => absurd n hk, fun _ => rfl⟩
  refine ⟨fun k => Classical.choose (hd k), h.1, fun k hk h0 => ⟨(h.2 k hk h0).1, ?_⟩, fun k => ?_⟩
  · have tk := thr_tN hk
    have tp := thr_tN (h.2 k hk h0).1
    have e1 := (Classical.choose_spec (hd k.toNatClampNeg)).1 tk
    have e2 := (Classical.choose_spec (hd (f k.toNatClampNeg).toNatClampNeg)).1 tp
    show Classical.choose (hd (f k.toNatClampNeg).toNatClampNeg) < Classical.choose (hd k.toNatClampNeg)
    rw [e1, e2]
    have n0 : k.toNatClampNeg ≠ 0 := fun q => h0 (Int32.toInt_inj.mp (by have := cl_nat hk.1.1; have z : (0 : Int32).toInt = 0 := rfl; omega))
    obtain ⟨a, b⟩ := hr _ tk
    obtain ⟨c, d⟩ := hr _ tp
    have p1 : r k.toNatClampNeg ≠ 0 := fun q => by rw [q] at a; exact n0 a
    obtain ⟨m, hm⟩ : ∃ m, r k.toNatClampNeg = m + 1 := ⟨r k.toNatClampNeg - 1, by omega⟩
    rw [hm, cz_s n0] at a
    rw [hm]
    rcases Nat.lt_or_ge m (r (f k.toNatClampNeg).toNatClampNeg) with w | w
    · exact absurd a (d m w)
    · omega
  · show Classical.choose (hd k) ≤ 23
    by_cases hk : tN f k
    · rw [(Classical.choose_spec (hd k)).1 hk]
      exact cz_b h hk (hr k hk).2
    · rw [(Classical.choose_spec (hd k)).2 hk]; exact Nat.zero_le _
theorem free_2 {f : Nat → Int32} : ∀ (n : Nat) (y : Int32), rgI 0 24 y → (24 - y.toInt).toNat < n → (∀ i, i < y.toNatClampNeg → ¬ f i = -1) → rgI 0 24 (F_X12_freeOf_2 f n y) ∧ (∀ i, i < (F_X12_freeOf_2 f n y).toNatClampNeg → ¬ f i = -1) ∧ ((F_X12_freeOf_2 f n y).toInt < 24 → f (F_X12_freeOf_2 f n y).toNatClampNeg = -1) := by
  intro n
  induction n with
  | zero => intro y _ h; exact absurd h (Nat.not_lt_zero _)
  | succ n ih =>
    intro y hy hn hi
    have y1 := hy.1; have y2 := hy.2
    rw [F_X12_freeOf_2]
    by_cases c1 : (24 : Int32) ≤ y
    · rw [if_pos c1]
      have := fz_le.mp c1
      have z : (24 : Int32).toInt = 24 := rfl
      exact ⟨hy, hi, fun q => by omega⟩
    · rw [if_neg c1]
      by_cases c2 : f y.toNatClampNeg = -1
      · rw [if_pos c2]; exact ⟨hy, hi, fun _ => c2⟩
      · rw [if_neg c2]
        have lt := fz_lt.mp (nle_lt c1)
        have z : (24 : Int32).toInt = 24 := rfl
        have e : (y + 1).toInt = y.toInt + 1 := ti_add (y := 1) (by show _ ≤ y.toInt + 1; omega) (by show y.toInt + 1 ≤ _; omega)
        refine ih (y + 1) ⟨by omega, by omega⟩ (by omega) (fun i hi2 => ?_)
        have e2 : (y + 1).toNatClampNeg = y.toNatClampNeg + 1 := cl_of (by rw [e]; have := cl_nat y1; omega)
        rw [e2] at hi2
        rcases Nat.lt_or_ge i y.toNatClampNeg with w | w
        · exact hi i w
        · rw [show i = y.toNatClampNeg by omega]; exact c2
theorem free_is (f : Nat → Int32) : rgI 0 24 (F_X12_freeOf f) ∧ (∀ i, i < (F_X12_freeOf f).toNatClampNeg → ¬ f i = -1) ∧ ((F_X12_freeOf f).toInt < 24 → f (F_X12_freeOf f).toNatClampNeg = -1) := free_2 26 0 ⟨by decide, by decide⟩ (by decide) (fun i hi => absurd hi (Nat.not_lt_zero _))
