/-! ===== goMake keeps a rank of groups ===== -/
def P2A (f : Nat → Int32) (σ : Int32 → Nat) : Prop := ∀ i, i < 24 → tN f i → P2 f σ i
theorem tN_u {f : Nat → Int32} {k i : Nat} {v : Int32} (hk : 24 ≤ k) (h : tN (upd f k v) i) : tN f i := ⟨h.1, by have := h.2; have l := h.1; rw [upd_ne (by omega)] at this; exact this⟩
theorem P2_hi {f : Nat → Int32} {σ : Int32 → Nat} {k : Nat} {v : Int32} (hk : 96 ≤ k) (h : P2A f σ) : P2A (upd f k v) σ := fun i hi ht => P2_c (h i hi (tN_u (by omega) ht)) (upd_ne (by omega)) (upd_ne (by omega))
theorem P2_lo {f : Nat → Int32} {σ : Int32 → Nat} {k : Nat} {v : Int32} (hk : 24 ≤ k) (hk2 : k < 48) (h : P2A f σ) : P2A (upd f k v) σ := fun i hi ht => P2_c (h i hi (tN_u hk ht)) (upd_ne (by omega)) (upd_ne (by omega))
theorem P2_z {f : Nat → Int32} {σ : Int32 → Nat} {m : Nat} (hm : m < 24) (h : P2A f σ) : P2A (upd f (72 + m) 0) σ := fun i hi ht => by
  by_cases q : i = m
  · intro _ s0; rw [q, upd_eq] at s0; exact absurd rfl s0
  · exact P2_c (h i hi (tN_u (by omega) ht)) (upd_ne (by omega)) (upd_ne (by omega))
/-- a new group N for m -/
theorem P2_n {f : Nat → Int32} {σ : Int32 → Nat} {m : Nat} {N : Int32} (hm : m < 24) (htm : tN f m) (hN : ∀ i, i < 24 → tN f i → ¬ f (48 + i) = N ∧ ¬ f (72 + i) = N) (h : P2A f σ) : P2A (upd f (48 + m) N) (fun x => if x = N then σ (f (72 + m)) + 1 else σ x) := fun i hi ht => by
  have ht' := tN_u (by omega) ht
  have n := hN i hi ht'
  unfold P2
  by_cases q : i = m
  · intro _ _
    subst q
    rw [upd_eq, upd_ne (show 72 + i ≠ 48 + i by omega)]
    show (if f (72 + i) = N then σ (f (72 + i)) + 1 else σ (f (72 + i))) < (if N = N then σ (f (72 + i)) + 1 else σ N)
    rw [if_neg n.2, if_pos rfl]
    exact Nat.lt_succ_self _
  · rw [upd_ne (show 48 + i ≠ 48 + m by omega), upd_ne (show 72 + i ≠ 48 + m by omega)]
    show ¬ f (48 + i) = 0 → ¬ f (72 + i) = 0 → (if f (72 + i) = N then σ (f (72 + m)) + 1 else σ (f (72 + i))) < (if f (48 + i) = N then σ (f (72 + m)) + 1 else σ (f (48 + i)))
    rw [if_neg n.2, if_neg n.1]
    exact h i hi ht'
theorem P2_goMake {f : Nat → Int32} {σ : Int32 → Nat} {m v : Int32} (hm : rgI 0 23 m) (htm : tN f m.toNatClampNeg) (hN : ∀ i, i < 24 → tN f i → ¬ f (48 + i) = f 121 ∧ ¬ f (72 + i) = f 121) (h : P2A f σ) : ∃ σ', P2A (F_X12_goMake f m v) σ' := by
  have rw24 : rgI 0 24 m := rg_w hm (by decide) (by decide)
  have e48 : ((48 : Int32) + m).toNatClampNeg = 48 + m.toNatClampNeg := add_cl (n := 48) rfl (by decide) rw24
  have e72 : ((72 : Int32) + m).toNatClampNeg = 72 + m.toNatClampNeg := add_cl (n := 72) rfl (by decide) rw24
  have e96 : ((96 : Int32) + m).toNatClampNeg = 96 + m.toNatClampNeg := add_cl (n := 96) rfl (by decide) rw24
  have e120 : (120 : Int32).toNatClampNeg = 120 := by decide
  have e121 : (121 : Int32).toNatClampNeg = 121 := by decide
  have hml : m.toNatClampNeg < 24 := htm.1
  have out := P2_goOut (f := f) (σ := σ) hm (fun i hi _ ht => h i hi ht) (fun _ _ => h _ hml htm)
  unfold F_X12_goMake
  rw [e48, e72, e96, e120]
  by_cases c1 : v = 1
  · rw [if_pos c1]
    by_cases c2 : upd f (96 + m.toNatClampNeg) 0 (48 + m.toNatClampNeg) = 0
    · rw [if_pos c2]
      unfold F_X12_newGroup
      rw [e121, upd_eq, upd_ne (show 121 ≠ 96 + m.toNatClampNeg by omega)]
      have ec : f 121 + 1 - 1 = f 121 := by
        rw [Int32.add_sub_cancel]
      show ∃ σ', P2A (upd (upd (upd (upd f (96 + m.toNatClampNeg) 0) 121 (f 121 + 1)) (48 + m.toNatClampNeg) (f 121 + 1 - 1)) 120 _) σ'
      rw [ec]
      refine ⟨_, P2_hi (by omega) (P2_n (σ := σ) hml ⟨hml, ?_⟩ (fun i hi ht => ?_) (P2_hi (by omega) (P2_hi (by omega) h)))⟩
      · rw [upd_ne (by omega), upd_ne (by omega)]; exact htm.2
      · rw [upd_ne (by omega), upd_ne (by omega), upd_ne (by omega), upd_ne (by omega)]
        exact hN i hi (tN_u (by omega) (tN_u (by omega) ht))
    · rw [if_neg c2]
      exact ⟨σ, P2_hi (by omega) (P2_hi (by omega) h)⟩
  · rw [if_neg c1]
    by_cases c2 : v = 2
    · rw [if_pos c2]
      by_cases c3 : F_J6_bitCount_0f7a4 (F_X12_inGroup f (f (48 + m.toNatClampNeg))) ≤ 1
      · rw [if_pos c3]
        exact ⟨σ, P2_hi (by omega) out.1⟩
      · rw [if_neg c3]
        refine ⟨σ, P2_hi (by omega) ?_⟩
        refine (P2_goOut (σ := σ) hm (fun i hi hne ht => ?_) (fun q _ => ?_)).1
        · exact P2_c (h i hi (tN_u (by omega) ht)) (upd_ne (by omega)) (upd_ne (by omega))
        · exfalso
          rw [upd_ne (show 48 + m.toNatClampNeg ≠ 72 + m.toNatClampNeg by omega)] at q
          exact grp_more (k := m.toNatClampNeg) c3 (fun i hi => by rw [upd_ne (by omega), upd_ne (by omega)]) (fun i hi hk => by rw [upd_ne (by omega), upd_ne (by omega)]) q
    · rw [if_neg c2]
      by_cases c3 : v = 3
      · rw [if_pos c3]
        exact ⟨σ, P2_hi (by omega) (P2_hi (by omega) (P2_z hml out.1))⟩
      · rw [if_neg c3]
        exact ⟨σ, P2_hi (by omega) (P2_hi (by omega) (P2_z hml out.1))⟩
