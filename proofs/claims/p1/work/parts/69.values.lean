/-! ===== what groups and masters may be ===== -/
def VA (f : Nat → Int32) (Q : Int32 → Prop) : Prop := ∀ i, i < 24 → tN f i → Q (f (48 + i)) ∧ Q (f (72 + i))
theorem VA_w {f : Nat → Int32} {Q R : Int32 → Prop} (h : VA f Q) (w : ∀ x, Q x → R x) : VA f R := fun i hi ht => ⟨w _ (h i hi ht).1, w _ (h i hi ht).2⟩
theorem VA_of {f f' : Nat → Int32} {Q : Int32 → Prop} {k : Nat} (h : VA f Q) (e0 : ∀ i, i < 24 → i ≠ k → f' i = f i) (e1 : ∀ i, i < 24 → i ≠ k → f' (48 + i) = f (48 + i)) (e2 : ∀ i, i < 24 → i ≠ k → f' (72 + i) = f (72 + i)) (hk : k < 24 → tN f' k → Q (f' (48 + k)) ∧ Q (f' (72 + k))) : VA f' Q := fun i hi ht => by
  by_cases q : i = k
  · subst q; exact hk hi ht
  · rw [e1 i hi q, e2 i hi q]; exact h i hi ⟨ht.1, by rw [← e0 i hi q]; exact ht.2⟩
theorem VA_hi {f : Nat → Int32} {Q : Int32 → Prop} {k : Nat} {v : Int32} (hk : 96 ≤ k) (h : VA f Q) : VA (upd f k v) Q := fun i hi ht => by
  rw [upd_ne (by omega), upd_ne (by omega)]; exact h i hi (tN_u (by omega) ht)
theorem VA_lo {f : Nat → Int32} {Q : Int32 → Prop} {k : Nat} {v : Int32} (hk : 24 ≤ k) (hk2 : k < 48) (h : VA f Q) : VA (upd f k v) Q := fun i hi ht => by
  rw [upd_ne (by omega), upd_ne (by omega)]; exact h i hi (tN_u hk ht)
theorem VA_g {f : Nat → Int32} {Q : Int32 → Prop} {k : Nat} {v : Int32} (hk : k < 24) (hv : Q v) (h : VA f Q) : VA (upd f (48 + k) v) Q := fun i hi ht => by
  have o := h i hi (tN_u (by omega) ht)
  rw [upd_ne (show 72 + i ≠ 48 + k by omega)]
  by_cases q : i = k
  · rw [q, upd_eq]; rw [q] at o; exact ⟨hv, o.2⟩
  · rw [upd_ne (by omega)]; exact o
theorem VA_m {f : Nat → Int32} {Q : Int32 → Prop} {k : Nat} {v : Int32} (hk : k < 24) (hv : Q v) (h : VA f Q) : VA (upd f (72 + k) v) Q := fun i hi ht => by
  have o := h i hi (tN_u (by omega) ht)
  rw [upd_ne (show 48 + i ≠ 72 + k by omega)]
  by_cases q : i = k
  · rw [q, upd_eq]; rw [q] at o; exact ⟨o.1, hv⟩
  · rw [upd_ne (by omega)]; exact o
theorem VA_30 {Q : Int32 → Prop} {g m : Int32} (hm : rgI 0 23 m) (htm : ∀ f, VA f Q → tN f m.toNatClampNeg → Q (f (72 + m.toNatClampNeg))) : ∀ (n : Nat) (y3 : Int32) (yy : Nat → Int32), rgI 0 24 y3 → (24 - y3.toInt).toNat < n → tN yy m.toNatClampNeg → VA yy Q → VA (F_X12_goOut_30 n m g y3 yy) Q ∧ ∀ j, (j < 72 ∨ 96 ≤ j) → F_X12_goOut_30 n m g y3 yy j = yy j := by
  intro n
  induction n with
  | zero => intro y3 yy _ h; exact absurd h (Nat.not_lt_zero _)
  | succ n ih =>
    intro y3 yy hy hn ht hp
    have h1 := hy.1; have h2 := hy.2
    have hc := cl_nat h1
    rw [F_X12_goOut_30]
    by_cases c1 : (24 : Int32) ≤ y3
    · rw [if_pos c1]; exact ⟨hp, fun _ _ => rfl⟩
    · rw [if_neg c1]
      have lt := fz_lt.mp (nle_lt c1)
      have z : (24 : Int32).toInt = 24 := rfl
      have e : (y3 + 1).toInt = y3.toInt + 1 := ti_add (y := 1) (by show _ ≤ y3.toInt + 1; omega) (by show y3.toInt + 1 ≤ _; omega)
      have r1 : rgI 0 24 (y3 + 1) := ⟨by omega, by omega⟩
      by_cases c2 : F_X12_isThere yy y3 = 0
      · rw [if_pos c2]; exact ih _ _ r1 (by omega) ht hp
      · rw [if_neg c2]
        have ek : ((72 : Int32) + y3).toNatClampNeg = 72 + y3.toNatClampNeg := add_cl (n := 72) rfl (by decide) hy
        have em : ((72 : Int32) + m).toNatClampNeg = 72 + m.toNatClampNeg := add_cl (n := 72) rfl (by decide) (rg_w hm (by decide) (by decide))
        rw [ek, em]
        by_cases c3 : yy (72 + y3.toNatClampNeg) = g
        · rw [if_pos c3]
          have htl := ht.1
          obtain ⟨a, b⟩ := ih (y3 + 1) (upd yy (72 + y3.toNatClampNeg) (yy (72 + m.toNatClampNeg))) r1 (by omega) ⟨ht.1, by rw [upd_ne (by omega)]; exact ht.2⟩ (VA_m (by omega) (htm yy hp ht) hp)
          exact ⟨a, fun j hj => by rw [b j hj, upd_ne (by omega)]⟩
        · rw [if_neg c3]; exact ih _ _ r1 (by omega) ht hp
theorem VA_goOut {f : Nat → Int32} {Q : Int32 → Prop} {m : Int32} (q0 : Q 0) (hm : rgI 0 23 m) (ht : tN f m.toNatClampNeg) (h : VA f Q) : VA (F_X12_goOut f m) Q ∧ ∀ j, (j < 48 ∨ 96 ≤ j) → F_X12_goOut f m j = f j := by
  have e48 : ((48 : Int32) + m).toNatClampNeg = 48 + m.toNatClampNeg := add_cl (n := 48) rfl (by decide) (rg_w hm (by decide) (by decide))
  have hml := ht.1
  unfold F_X12_goOut
  rw [e48]
  have base := VA_g (v := 0) hml q0 h
  by_cases g0 : f (48 + m.toNatClampNeg) = 0
  · rw [if_pos g0]; exact ⟨h, fun _ _ => rfl⟩
  · rw [if_neg g0]
    by_cases c : F_X12_inGroup (upd f (48 + m.toNatClampNeg) 0) (f (48 + m.toNatClampNeg)) = 0
    · rw [if_pos c]
      obtain ⟨a, b⟩ := VA_30 (g := f (48 + m.toNatClampNeg)) hm (fun f' h' t' => (h' _ hml t').2) 26 0 (upd f (48 + m.toNatClampNeg) 0) ⟨by decide, by decide⟩ (by decide) ⟨hml, by rw [upd_ne (by omega)]; exact ht.2⟩ base
      exact ⟨a, fun j hj => by rw [b j (by omega), upd_ne (by omega)]⟩
    · rw [if_neg c]; exact ⟨base, fun j hj => upd_ne (by omega)⟩
