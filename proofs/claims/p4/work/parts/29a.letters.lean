/-! ===== the letters of a rule ===== -/
theorem lt_fin : ∀ (k : Fin 256) (j : Fin 7), (Int32.ofNat k.val).toInt8.toInt32 = ltf j.val → ruL (Int32.ofNat k.val) = true := by decide +kernel
theorem lt_all : ∀ (k : Fin 256), ruL (Int32.ofNat k.val) = true → ∃ j : Fin 7, (Int32.ofNat k.val).toInt8.toInt32 = ltf j.val := by decide +kernel
theorem lt_yes {c v : Int32} {j : Nat} (ev : v = c.toInt8.toInt32) (hj : j < 7) (e : ltf j = v) : rgI 0 255 c → ruL c = true := fun h => by
  have a := cl_nat h.1
  have b := h.2
  have q := lt_fin ⟨c.toNatClampNeg, by omega⟩ ⟨j, hj⟩
  rw [show (⟨c.toNatClampNeg, by omega⟩ : Fin 256).val = c.toNatClampNeg from rfl, ← i32n h.1] at q
  exact q (ev.symm.trans e.symm)
theorem lt_no {c v : Int32} (ev : v = c.toInt8.toInt32) (hn : ∀ j, j < 7 → ¬ ltf j = v) : rgI 0 255 c → ¬ ruL c = true := fun h hL => by
  have a := cl_nat h.1
  have b := h.2
  have q := lt_all ⟨c.toNatClampNeg, by omega⟩
  rw [show (⟨c.toNatClampNeg, by omega⟩ : Fin 256).val = c.toNatClampNeg from rfl, ← i32n h.1] at q
  obtain ⟨j, hj⟩ := q hL
  exact hn j.val j.isLt (hj.symm.trans ev.symm)
/-- what looking for a letter answers -/
def IxL (c r : Int32) : Prop := rgI 0 255 c → (0 ≤ r.toInt ∧ ruL c = true) ∨ (r = -1 ∧ ¬ ruL c = true)
theorem c2c_fin : ∀ k : Fin 256, ((Int32.ofNat k.val).toUInt32 % 65536).toInt32 = Int32.ofNat k.val := by decide +kernel
theorem c2c {c v : Int32} (ev : v = (c.toUInt32 % 65536).toInt32) (h : rgI 0 255 c) : v = c := by
  have a := cl_nat h.1
  have b := h.2
  have q := c2c_fin ⟨c.toNatClampNeg, by omega⟩
  rw [show (⟨c.toNatClampNeg, by omega⟩ : Fin 256).val = c.toNatClampNeg from rfl, ← i32n h.1] at q
  exact ev.trans q
theorem IxL.c {c v r : Int32} (h : IxL v r) (ev : v = (c.toUInt32 % 65536).toInt32) : IxL c r := fun q => by
  have e := c2c ev q
  rw [e] at h
  exact h q
theorem ix_y {c r : Int32} (h : IxL c r) (hr : (0 : Int32) ≤ r) : rgI 0 255 c → ruL c = true := fun q => by
  rcases h q with ⟨-, a⟩ | ⟨a, -⟩
  · exact a
  · rw [a] at hr; exact absurd hr (by decide)
theorem ix_n {c r : Int32} (h : IxL c r) (hr : r < (0 : Int32)) : rgI 0 255 c → ¬ ruL c = true := fun q => by
  rcases h q with ⟨a, -⟩ | ⟨-, a⟩
  · have := fz_lt.mp hr
    have z : (0 : Int32).toInt = 0 := rfl
    omega
  · exact a
theorem ix_neg {c : Int32} (h : c < (0 : Int32)) : rgI 0 255 c → ¬ ruL c = true := fun q => by
  have := fz_lt.mp h
  have z : (0 : Int32).toInt = 0 := rfl
  have := q.1
  omega
theorem ix_z {x : Int32} {j : Nat} (h : rgI 0 0 x) : ¬ j < x.toNatClampNeg := by
  have a := cl_nat h.1
  have b := h.2
  omega
theorem ix_lt7 {x n : Int32} {j : Nat} (h : n ≤ x) (hn : rgI 7 7 n) (hj : j < 7) : j < x.toNatClampNeg := by
  have a := fz_le.mp h
  have b := hn.1
  have c := cl_nat (x := x) (by omega)
  omega
theorem ix_rg {x : Int32} {a b : Int} (h : rgI a b x) (ha : 0 ≤ a := by decide) (hb : b ≤ 6 := by decide) : x.toNatClampNeg < 7 := by
  have q := h.1
  have r := h.2
  have c := cl_nat (x := x) (by omega)
  omega
theorem ix_more {x x2 v w : Int32} {a b : Int} (h : ∀ j : Nat, j < x.toNatClampNeg → ¬ ltf j = v) (ew : w = ltf x.toNatClampNeg) (hw : ¬ w = v) (e2 : x2 = x + 1) (hr : rgI a b x) (ha : 0 ≤ a := by decide) (hb : b ≤ 6 := by decide) : ∀ j : Nat, j < x2.toNatClampNeg → ¬ ltf j = v := by
  intro j hj
  have q := hr.1
  have r := hr.2
  have t : x2.toInt = x.toInt + 1 := by rw [e2]; exact ti_add (y := 1) (by show _ ≤ x.toInt + 1; omega) (by show x.toInt + 1 ≤ _; omega)
  have c := cl_nat (x := x) (by omega)
  have c2 := cl_nat (x := x2) (by omega)
  by_cases e : j = x.toNatClampNeg
  · rw [e, ← ew]; exact hw
  · exact h j (by omega)
theorem len7 {c x : Int32} (hc : rgI 0 0 c) (e : x = (7 : Int32) >>> (c &&& 31)) : rgI 7 7 x := by
  have e0 : c = 0 := Int32.toInt_inj.mp (by have := hc.1; have := hc.2; have z : (0 : Int32).toInt = 0 := rfl; omega)
  rw [e, e0]
  exact ⟨by decide, by decide⟩
