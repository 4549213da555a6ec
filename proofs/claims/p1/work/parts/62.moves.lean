/-! ===== a tree is carried ===== -/
def inS (f : Nat → Int32) (o x : Nat) : Prop := ∃ i, cz f x i = o
theorem isIn_no {f : Nat → Int32} {ρ : Nat → Nat} (h : P1 f ρ) {o : Int32} (ho : 0 ≤ o.toInt) : ∀ (n : Nat) (k : Int32), ρ k.toNatClampNeg < n → thr f k → F_X12_isIn_2 f n o k = 0 → ∀ i, cz f k.toNatClampNeg (i + 1) = o.toNatClampNeg → o = 0 := by
  intro n
  induction n with
  | zero => intro k hn; exact absurd hn (Nat.not_lt_zero _)
  | succ n ih =>
    intro k hn hk hF i hi
    rw [F_X12_isIn_2] at hF
    by_cases k0 : k = 0
    · have hz : ∀ j, cz f 0 j = 0 := by
        intro j
        induction j with
        | zero => rfl
        | succ j ihj => show (if cz f 0 j = 0 then 0 else _) = 0; rw [if_pos ihj]
      rw [k0] at hi
      have : cz f 0 (i + 1) = o.toNatClampNeg := hi
      rw [hz] at this
      exact Int32.toInt_inj.mp (by have := cl_nat ho; have z : (0 : Int32).toInt = 0 := rfl; omega)
    · rw [if_neg k0] at hF
      by_cases c : f k.toNatClampNeg = o
      · rw [if_pos c] at hF; exact absurd hF (by decide)
      · rw [if_neg c] at hF
        obtain ⟨a, b⟩ := h.2.1 k hk k0
        have n0 : k.toNatClampNeg ≠ 0 := fun q => k0 (Int32.toInt_inj.mp (by have := cl_nat hk.1.1; have z : (0 : Int32).toInt = 0 := rfl; omega))
        rw [cz_s n0] at hi
        cases i with
        | zero =>
          have e : (f k.toNatClampNeg).toNatClampNeg = o.toNatClampNeg := hi
          exact absurd (Int32.toInt_inj.mp (by have := cl_nat ho; have := cl_nat a.1.1; omega)) c
        | succ i => exact ih _ (by omega) a hF i hi
theorem P1_move {f f' : Nat → Int32} {ρ : Nat → Nat} {k : Nat} {m : Int32} (h : P1 f ρ) (k0 : k ≠ 0) (hm : thr f m) (hno : ¬ inS f k m.toNatClampNeg) (ek : f' k = m) (hk : tN f k) (e : ∀ i, i < 24 → i ≠ k → f' i = f i) : ∃ ρ', P1 f' ρ' := by
  have hd : ∀ x : Nat, ∃ q : Nat, (inS f k x → q = ρ x + 24) ∧ (¬ inS f k x → q = ρ x) := by
    intro x
    by_cases hx : inS f k x
    · exact ⟨ρ x + 24, fun _ => rfl, fun n => absurd hx n⟩
    · exact ⟨ρ x, fun n => absurd n hx, fun _ => rfl⟩
  have hS := fun x => Classical.choose_spec (hd x)
  have mk : m.toNatClampNeg ≠ k := fun q => hno ⟨0, q⟩
  have mne : ¬ m = -1 := fun q => by have := hm.1.1; rw [q] at this; exact absurd this (by decide)
  have up : ∀ {x : Int32}, thr f x → thr f' x := fun {x} hx => by
    by_cases q : x.toNatClampNeg = k
    · exact ⟨hx.1, by rw [q, ek]; exact mne⟩
    · exact thr_c hx (e _ (thr_l hx) q)
  have dn : ∀ {x : Int32}, thr f' x → thr f x := fun {x} hx => by
    by_cases q : x.toNatClampNeg = k
    · exact ⟨hx.1, by rw [q]; exact hk.2⟩
    · exact thr_c hx (e _ (thr_l hx) q).symm
  refine P1_of (ρ := fun x => Classical.choose (hd x)) ⟨by rw [e 0 (by decide) k0.symm]; exact h.1, fun x hx h0 => ?_⟩
  have hx' := dn hx
  have n0 : x.toNatClampNeg ≠ 0 := fun q => h0 (Int32.toInt_inj.mp (by have := cl_nat hx.1.1; have z : (0 : Int32).toInt = 0 := rfl; omega))
  by_cases q : x.toNatClampNeg = k
  · rw [q, ek]
    refine ⟨up hm, ?_⟩
    show Classical.choose (hd m.toNatClampNeg) < Classical.choose (hd k)
    rw [(hS m.toNatClampNeg).2 hno, (hS k).1 ⟨0, rfl⟩]
    have := h.2.2 m.toNatClampNeg
    omega
  · obtain ⟨a, b⟩ := h.2.1 x hx' h0
    rw [e _ (thr_l hx) q]
    refine ⟨up a, ?_⟩
    show Classical.choose (hd (f x.toNatClampNeg).toNatClampNeg) < Classical.choose (hd x.toNatClampNeg)
    by_cases hi : inS f k x.toNatClampNeg
    · have hp : inS f k (f x.toNatClampNeg).toNatClampNeg := by
        obtain ⟨i, ei⟩ := hi
        cases i with
        | zero => exact absurd ei q
        | succ i => rw [cz_s n0] at ei; exact ⟨i, ei⟩
      rw [(hS _).1 hp, (hS _).1 hi]
      omega
    · have hp : ¬ inS f k (f x.toNatClampNeg).toNatClampNeg := fun ⟨i, ei⟩ => hi ⟨i + 1, by rw [cz_s n0]; exact ei⟩
      rw [(hS _).2 hp, (hS _).2 hi]
      exact b
