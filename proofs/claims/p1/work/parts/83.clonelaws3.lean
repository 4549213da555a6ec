theorem no_z {ol nw : Nat → Int32} {nm g r : Int32} (h : NO ol nw nm g r) (hr : r = 0) : NO ol nw nm g 0 := by rw [← hr]; exact h
theorem HB.at_ {f rl : Nat → Int32} {size m d b k : Int32} {t : Bool} (h : HB f rl size m d b) (hk : rgI 0 23 k) (ht : bt b k.toNatClampNeg = t) : hitb f rl size m d k.toNatClampNeg = t := by
  have := h k.toNatClampNeg
  rw [ht, decide_eq_true (by have := cl_nat hk.1; have := hk.2; omega), Bool.true_and] at this
  exact this.symm
theorem fr_vals {f : Nat → Int32} {σ : Int32 → Nat} {a x x1 y y1 : Int32} (tf : thr f a) (hTS : TS f σ (f 121)) (e1 : x1 = 48 + a) (ex : x = f x1.toNatClampNeg) (e2 : y1 = 72 + a) (ey : y = f y1.toNatClampNeg) : Qv (f 121) x ∧ Qv (f 121) y ∧ (¬ x = 0 → ¬ y = 0 → σ y < σ x) := by
  have e48 : ((48 : Int32) + a).toNatClampNeg = 48 + a.toNatClampNeg := add_cl (n := 48) rfl (by decide) (rg_w tf.1 (by decide) (by decide))
  have e72 : ((72 : Int32) + a).toNatClampNeg = 72 + a.toNatClampNeg := add_cl (n := 72) rfl (by decide) (rg_w tf.1 (by decide) (by decide))
  rw [e1, e48] at ex
  rw [e2, e72] at ey
  have v := hTS.2.2.1 _ (thr_l tf) (thr_tN tf)
  have q := hTS.2.1 _ (thr_l tf) (thr_tN tf)
  rw [ex, ey]
  exact ⟨v.1, v.2, q⟩
theorem fr_none {N : Int32} {σ : Int32 → Nat} (h : 1 ≤ N.toInt) : Qv N 0 ∧ Qv N 0 ∧ (¬ (0 : Int32) = 0 → ¬ (0 : Int32) = 0 → σ 0 < σ 0) := ⟨Qv0 h, Qv0 h, fun q => absurd rfl q⟩
theorem a48 {f : Nat → Int32} {m x x1 : Int32} (hm : thr f m) (fl : Nat → Int32) (e1 : x1 = 48 + m) (ex : x = fl x1.toNatClampNeg) : x = fl (48 + m.toNatClampNeg) := by
  rw [ex, e1, add_cl (n := 48) rfl (by decide) (rg_w hm.1 (by decide) (by decide))]
theorem ng_48 {f fl : Nat → Int32} {m : Nat} (hm : m < 24) (e : fl = (F_X12_newGroup f).2) : fl (48 + m) = f (48 + m) := by rw [e, newGroup_2, upd_ne (by omega)]
