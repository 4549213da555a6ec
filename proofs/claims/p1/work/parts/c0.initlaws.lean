/-! ===== the reference's constructor: mounts at first ===== -/
def nowF : Nat → Int32 := fun j => if j = 0 then 24 else if j = 24 then 4 else if j = 121 then 1 else if j < 24 then -1 else 0
def NWk (f : Nat → Int32) (k : Nat) : Prop := ∀ j, f j = if j < k then -1 else 0
theorem NWk_0 : NWk (fun _ => 0) (0 : Int32).toNatClampNeg := fun j => by rw [if_neg (by show ¬ j < 0; omega)]
theorem NWk_s {f : Nat → Int32} {k x : Int32} (h : NWk f k.toNatClampNeg) (hk : rgI 0 23 k) (e : x.toInt = k.toInt + 1) : NWk (upd f k.toNatClampNeg (-1)) x.toNatClampNeg := fun j => by
  have hn := cl_nat hk.1
  have ex : x.toNatClampNeg = k.toNatClampNeg + 1 := cl_of (by omega)
  rw [ex]
  by_cases q : j = k.toNatClampNeg
  · rw [q, upd_eq, if_pos (by omega)]
  · rw [upd_ne q, h j]
    by_cases w : j < k.toNatClampNeg
    · rw [if_pos w, if_pos (by omega)]
    · rw [if_neg w, if_neg (by omega)]
theorem NWk_e {f : Nat → Int32} {k : Int32} (h : NWk f k.toNatClampNeg) (hk : rgI 24 24 k) : upd (upd (upd f (0 : Int32).toNatClampNeg 24) (24 : Int32).toNatClampNeg 4) (121 : Int32).toNatClampNeg 1 = nowF := by
  have : k.toNatClampNeg = 24 := cl_of (by have := hk.1; have := hk.2; omega)
  rw [this] at h
  funext j
  show upd (upd (upd f 0 24) 24 4) 121 1 j = _
  unfold nowF
  by_cases c1 : j = 121
  · subst c1; rw [upd_eq]; rfl
  · rw [upd_ne c1]
    by_cases c2 : j = 24
    · subst c2; rw [upd_eq]; rfl
    · rw [upd_ne c2]
      by_cases c3 : j = 0
      · subst c3; rw [upd_eq]; rfl
      · rw [upd_ne c3, if_neg c3, if_neg c2, if_neg c1]; exact h j
theorem now_thr {k : Int32} (h : thr nowF k) : k = 0 := by
  obtain ⟨j, hj, e⟩ := thr_nI h
  have hn : k.toNatClampNeg = j := by rw [e]; exact cl_of (nI_toInt (by omega))
  have h2 := h.2
  rw [hn] at h2
  by_cases c : j = 0
  · rw [e, c]; rfl
  · exact absurd (by unfold nowF; rw [if_neg c, if_neg (by omega), if_neg (by omega), if_pos hj]) h2
theorem now_tN {i : Nat} (h : tN nowF i) : i = 0 := by
  by_cases c : i = 0
  · exact c
  · have := h.1
    exact absurd (by unfold nowF; rw [if_neg c, if_neg (by omega), if_neg (by omega), if_pos this]) h.2
theorem now_ti : TI 1 nowF := by
  refine ⟨⟨fun _ => 0, ⟨fun _ => 0, rfl, fun k hk h0 => absurd (now_thr hk) h0, fun _ => Nat.zero_le _⟩, fun i _ ht => ?_, fun i _ ht => ?_, fun i hi => ?_, rfl⟩, by decide, by decide⟩
  · rw [now_tN ht]; intro q; exact absurd rfl q
  · rw [now_tN ht]; exact ⟨⟨by decide, by decide⟩, ⟨by decide, by decide⟩⟩
  · refine Or.inl ?_
    unfold nowF
    rw [if_neg (by omega), if_neg (by omega), if_neg (by omega), if_neg (by omega)]
