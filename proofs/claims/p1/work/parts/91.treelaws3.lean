theorem LY_sr {f fb T : Nat → Int32} (h : LYk f fb T (0 : Int32).toNatClampNeg 122) : SR f T := fun j hj => by
  have := h j
  rw [show (0 : Int32).toNatClampNeg = 0 from rfl, if_pos (by omega)] at this
  exact this
theorem PV_of {f T f2 : Nat → Int32} {τ : Int32 → Nat} {N : Int32} (h : SR f T) (kp : KP f f2) (ts : TS f2 τ N) : PV T τ N := fun k hk => by
  have hf : thr f k := h.sy.thr hk
  have hl := thr_l hf
  rw [add_cl (n := 48) rfl (by decide) (rg_w hf.1 (by decide) (by decide)), add_cl (n := 72) rfl (by decide) (rg_w hf.1 (by decide) (by decide)), h _ (by omega), h _ (by omega), ← (kp _ hl (thr_tN hf)).2.1, ← (kp _ hl (thr_tN hf)).2.2]
  have v := ts.2.2.1 _ hl (kp.tN (thr_tN hf))
  exact ⟨v.1, v.2, ts.2.1 _ hl (kp.tN (thr_tN hf))⟩
theorem SR_p1 {f T : Nat → Int32} {ρ : Nat → Nat} (h : SR f T) (p : P1 f ρ) : P1 T ρ := P1_same p (fun i hi => h i (by omega))
theorem SR_ub {f T : Nat → Int32} (h : SR f T) (p : UB f) : UB T := UB_same p (fun i hi => h _ (by omega))
theorem gt_cnt {f f2 T : Nat → Int32} {hb : Nat → Bool} {m : Int32} (h : SR f T) (c2 : ct (isT f2) 24 = ct (isT f) 24 + 1 + ct hb 24) (h0 : ct hb 24 = 0) (hc : ct (isT f) 24 + TZ f 25 m ≤ 24) : ct (isT f2) 24 + TZ T 25 m ≤ 25 := by
  rw [SR_tz h]; omega
theorem gt_end {T f2 f3 : Nat → Int32} {τ : Int32 → Nat} {B : Int} {z : Nat} (h : GI T f2 f3 τ (f2 121) z) (t : TI B f2) : TI B f3 := by
  have n := h.1.2.2.2.2
  exact ⟨⟨τ, by rw [n]; exact h.1⟩, by rw [n]; exact t.2.1, by rw [n]; exact t.2.2⟩
