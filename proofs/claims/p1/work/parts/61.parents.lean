/-! ===== parents under the acts ===== -/
theorem thr_c {f f' : Nat → Int32} {k : Int32} (h : thr f k) (e : f' k.toNatClampNeg = f k.toNatClampNeg) : thr f' k := ⟨h.1, by rw [e]; exact h.2⟩
theorem thr_l {f : Nat → Int32} {k : Int32} (h : thr f k) : k.toNatClampNeg < 24 := (thr_tN h).1
theorem P1_same {f f' : Nat → Int32} {ρ : Nat → Nat} (h : P1 f ρ) (e : ∀ i, i < 24 → f' i = f i) : P1 f' ρ := by
  refine ⟨by rw [e 0 (by decide)]; exact h.1, fun k hk h0 => ?_, h.2.2⟩
  have hl := thr_l hk
  have hk' : thr f k := thr_c hk (e _ hl).symm
  obtain ⟨a, b⟩ := h.2.1 k hk' h0
  rw [e _ hl]
  exact ⟨thr_c a (e _ (thr_l a)), b⟩
theorem P1_put {f f' : Nat → Int32} {ρ : Nat → Nat} {k : Nat} {m : Int32} (h : P1 f ρ) (hk : f k = -1) (hm : thr f m) (ek : f' k = m) (e : ∀ i, i < 24 → i ≠ k → f' i = f i) : ∃ ρ', P1 f' ρ' := by
  have k0 : (0 : Nat) ≠ k := fun q => by rw [← q, h.1] at hk; exact absurd hk (by decide)
  have ne : ∀ {x : Int32}, thr f x → x.toNatClampNeg ≠ k := fun hx q => hx.2 (by rw [q]; exact hk)
  have up : ∀ {x : Int32}, thr f x → thr f' x := fun hx => thr_c hx (e _ (thr_l hx) (ne hx))
  refine P1_of (ρ := fun x => if x = k then ρ m.toNatClampNeg + 1 else ρ x) ⟨by rw [e 0 (by decide) k0]; exact h.1, fun x hx h0 => ?_⟩
  by_cases q : x.toNatClampNeg = k
  · rw [q, ek]
    refine ⟨up hm, ?_⟩
    show (if m.toNatClampNeg = k then _ else ρ m.toNatClampNeg) < (if k = k then ρ m.toNatClampNeg + 1 else _)
    rw [if_neg (ne hm), if_pos rfl]
    exact Nat.lt_succ_self _
  · have ex := e _ (thr_l hx) q
    have hx' : thr f x := thr_c hx ex.symm
    obtain ⟨a, b⟩ := h.2.1 x hx' h0
    rw [ex]
    refine ⟨up a, ?_⟩
    show (if (f x.toNatClampNeg).toNatClampNeg = k then _ else ρ (f x.toNatClampNeg).toNatClampNeg) < (if x.toNatClampNeg = k then _ else ρ x.toNatClampNeg)
    rw [if_neg (ne a), if_neg q]
    exact b
/-- a leaf goes -/
theorem P1_cut {f f' : Nat → Int32} {ρ : Nat → Nat} {k : Nat} (h : P1 f ρ) (k0 : k ≠ 0) (leaf : ∀ x : Int32, thr f x → ¬ x = 0 → (f x.toNatClampNeg).toNatClampNeg ≠ k) (ek : f' k = -1) (e : ∀ i, i < 24 → i ≠ k → f' i = f i) : P1 f' ρ := by
  refine ⟨by rw [e 0 (by decide) k0.symm]; exact h.1, fun x hx h0 => ?_, h.2.2⟩
  have q : x.toNatClampNeg ≠ k := fun q => hx.2 (by rw [q]; exact ek)
  have ex := e _ (thr_l hx) q
  have hx' : thr f x := thr_c hx ex.symm
  obtain ⟨a, b⟩ := h.2.1 x hx' h0
  rw [ex]
  exact ⟨thr_c a (e _ (thr_l a) (leaf x hx' h0)), b⟩
/-- comes: the least free number has a parent now -/
theorem upd_far {f : Nat → Int32} {x : Int32} {k i : Nat} (h : i ≠ k) : upd f k x i = f i := upd_ne h
theorem add_cl {c : Int32} {k : Int32} {n : Nat} (hc : c.toInt = n) (hn : n ≤ 96) (hk : rgI 0 24 k) : (c + k).toNatClampNeg = n + k.toNatClampNeg := by
  have h1 := hk.1; have h2 := hk.2
  have e : (c + k).toInt = c.toInt + k.toInt := ti_add (by omega) (by omega)
  exact cl_of (by rw [e, hc]; have := cl_nat h1; omega)
theorem comes_row {f : Nat → Int32} {m d g s : Int32} {i : Nat} (hi : i < 24) : (F_X12_comes f m d g s).2 i = if i = (F_X12_freeOf f).toNatClampNeg then m else f i := by
  have hk := (free_is f).1
  unfold F_X12_comes
  show upd (upd (upd (upd (upd f _ m) _ d) _ g) _ s) _ 0 i = _
  rw [upd_far (by rw [add_cl (n := 96) rfl (by decide) hk]; omega), upd_far (by rw [add_cl (n := 72) rfl (by decide) hk]; omega), upd_far (by rw [add_cl (n := 48) rfl (by decide) hk]; omega), upd_far (by rw [add_cl (n := 24) rfl (by decide) hk]; omega)]
  rfl
theorem P1_comes {f : Nat → Int32} {ρ : Nat → Nat} {m d g s : Int32} (h : P1 f ρ) (hm : thr f m) (hl : (F_X12_freeOf f).toInt < 24) : ∃ ρ', P1 (F_X12_comes f m d g s).2 ρ' := by
  obtain ⟨a, -, b⟩ := free_is f
  have hk : (F_X12_freeOf f).toNatClampNeg < 24 := by have := cl_nat a.1; omega
  refine P1_put h (b hl) hm (by rw [comes_row hk, if_pos rfl]) (fun i hi q => by rw [comes_row hi, if_neg q])
