/-! ===== masters: by a rank of groups ===== -/
def P2 (f : Nat → Int32) (σ : Int32 → Nat) (i : Nat) : Prop := ¬ f (48 + i) = 0 → ¬ f (72 + i) = 0 → σ (f (72 + i)) < σ (f (48 + i))
theorem P2_c {f f' : Nat → Int32} {σ : Int32 → Nat} {i : Nat} (h : P2 f σ i) (e1 : f' (48 + i) = f (48 + i)) (e2 : f' (72 + i) = f (72 + i)) : P2 f' σ i := by
  unfold P2 at *; rw [e1, e2]; exact h
theorem out_30 {σ : Int32 → Nat} {g s m : Int32} (hm : rgI 0 23 m) (hsg : ¬ s = 0 → σ s < σ g) (hg : ¬ g = 0) : ∀ (n : Nat) (y3 : Int32) (yy : Nat → Int32), rgI 0 24 y3 → (24 - y3.toInt).toNat < n → yy (72 + m.toNatClampNeg) = s → (∀ i, i < 24 → tN yy i → P2 yy σ i) → (∀ i, i < 24 → tN (F_X12_goOut_30 n m g y3 yy) i → P2 (F_X12_goOut_30 n m g y3 yy) σ i) ∧ ∀ j, (j < 72 ∨ 96 ≤ j) → F_X12_goOut_30 n m g y3 yy j = yy j := by
  have hne : ¬ s = g := fun q => by
    by_cases s0 : s = 0
    · exact hg (q.symm.trans s0)
    · have := hsg s0; rw [q] at this; exact absurd this (Nat.lt_irrefl _)
  intro n
  induction n with
  | zero => intro y3 yy _ h; exact absurd h (Nat.not_lt_zero _)
  | succ n ih =>
    intro y3 yy hy hn hs hp
    have h1 := hy.1; have h2 := hy.2
    have hc := cl_nat h1
    rw [F_X12_goOut_30]
    by_cases c1 : (24 : Int32) ≤ y3
    · rw [if_pos c1]; exact ⟨hp, fun _ _ => rfl⟩
    · rw [if_neg c1]
      have lt := fz_lt.mp (nle_lt c1)
      have z : (24 : Int32).toInt = 24 := rfl
      have e : (y3 + 1).toInt = y3.toInt + 1 := ti_add (y := 1) (by show _ ≤ y3.toInt + 1; omega) (by show y3.toInt + 1 ≤ _; omega)
      have r1 : rgI 0 24 (y3 + 1) := ⟨by omega, by omega⟩
      by_cases c2 : F_X12_isThere yy y3 = 0
      · rw [if_pos c2]; exact ih _ _ r1 (by omega) hs hp
      · rw [if_neg c2]
        have ek : ((72 : Int32) + y3).toNatClampNeg = 72 + y3.toNatClampNeg := add_cl (n := 72) rfl (by decide) hy
        have em : ((72 : Int32) + m).toNatClampNeg = 72 + m.toNatClampNeg := add_cl (n := 72) rfl (by decide) (rg_w hm (by decide) (by decide))
        rw [ek, em, hs]
        by_cases c3 : yy (72 + y3.toNatClampNeg) = g
        · rw [if_pos c3]
          have hkm : m.toNatClampNeg ≠ y3.toNatClampNeg := fun q => hne (by rw [← hs, q]; exact c3)
          obtain ⟨a, b⟩ := ih (y3 + 1) (upd yy (72 + y3.toNatClampNeg) s) r1 (by omega) (by rw [upd_ne (by omega)]; exact hs) (fun i hi ht => by
            have ht' : tN yy i := ⟨ht.1, by have := ht.2; rw [upd_ne (by omega)] at this; exact this⟩
            by_cases q : i = y3.toNatClampNeg
            · intro g0 s0
              rw [q] at g0 s0 ⊢
              rw [upd_ne (by omega)] at g0
              rw [upd_eq] at s0
              rw [upd_eq, upd_ne (show 48 + y3.toNatClampNeg ≠ 72 + y3.toNatClampNeg by omega)]
              have o := hp i hi ht'
              rw [q] at o
              have o2 := o g0 (by rw [c3]; exact hg)
              rw [c3] at o2
              exact Nat.lt_trans (hsg s0) o2
            · exact P2_c (hp i hi ht') (upd_ne (by omega)) (upd_ne (by omega)))
          exact ⟨a, fun j hj => by rw [b j hj, upd_ne (by omega)]⟩
        · rw [if_neg c3]; exact ih _ _ r1 (by omega) hs hp
/-- goOut: what is at m itself matters only if its group is empty then -/
theorem P2_goOut {f : Nat → Int32} {σ : Int32 → Nat} {m : Int32} (hm : rgI 0 23 m) (hp : ∀ i, i < 24 → i ≠ m.toNatClampNeg → tN f i → P2 f σ i) (hq : F_X12_inGroup (upd f (48 + m.toNatClampNeg) 0) (f (48 + m.toNatClampNeg)) = 0 → ¬ f (48 + m.toNatClampNeg) = 0 → P2 f σ m.toNatClampNeg) : (∀ i, i < 24 → tN (F_X12_goOut f m) i → P2 (F_X12_goOut f m) σ i) ∧ (∀ j, (j < 72 ∨ 96 ≤ j) → j ≠ 48 + m.toNatClampNeg → F_X12_goOut f m j = f j) ∧ F_X12_goOut f m (48 + m.toNatClampNeg) = 0 := by
  have e48 : ((48 : Int32) + m).toNatClampNeg = 48 + m.toNatClampNeg := add_cl (n := 48) rfl (by decide) (rg_w hm (by decide) (by decide))
  have hml : m.toNatClampNeg < 24 := by have := cl_nat hm.1; have := hm.2; omega
  unfold F_X12_goOut
  rw [e48]
  have base : ∀ i, i < 24 → tN (upd f (48 + m.toNatClampNeg) 0) i → P2 (upd f (48 + m.toNatClampNeg) 0) σ i := fun i hi ht => by
    by_cases q : i = m.toNatClampNeg
    · intro g0; rw [q, upd_eq] at g0; exact absurd rfl g0
    · have ht' : tN f i := ⟨ht.1, by have := ht.2; rw [upd_ne (by omega)] at this; exact this⟩
      exact P2_c (hp i hi q ht') (upd_ne (by omega)) (upd_ne (by omega))
  by_cases g0 : f (48 + m.toNatClampNeg) = 0
  · rw [if_pos g0]
    refine ⟨fun i hi ht => ?_, fun _ _ _ => rfl, g0⟩
    by_cases q : i = m.toNatClampNeg
    · intro w; rw [q] at w; exact absurd g0 w
    · exact hp i hi q ht
  · rw [if_neg g0]
    by_cases c : F_X12_inGroup (upd f (48 + m.toNatClampNeg) 0) (f (48 + m.toNatClampNeg)) = 0
    · rw [if_pos c]
      have hP := hq c g0
      obtain ⟨a, b⟩ := out_30 (σ := σ) (g := f (48 + m.toNatClampNeg)) (s := f (72 + m.toNatClampNeg)) hm (fun s0 => hP g0 s0) g0 26 0 (upd f (48 + m.toNatClampNeg) 0) ⟨by decide, by decide⟩ (by decide) (upd_ne (by omega)) base
      exact ⟨a, fun j hj hn => by rw [b j hj, upd_ne hn], by rw [b _ (Or.inl (by omega)), upd_eq]⟩
    · rw [if_neg c]
      exact ⟨base, fun j _ hn => upd_ne hn, upd_eq⟩
