def F_X11_gain (a0 : Int32) (a1 : Int32) (a2 : Int32) : Int32 := (if a1 ≤ a2 then (if a2 ≤ a1 then ((a0 / (3 : Int32)) - a1) else ((a0 / (2 : Int32)) - ((2 : Int32) * a1))) else (a0 - a1))
set_option maxHeartbeats 4000000 in
set_option maxRecDepth 100000 in
theorem c_X11_gain_x (l : Launch) (g : Gx) (Ty : TyM) (G : Gh) (a0 : Int32) (a1 : Int32) (a2 : Int32) : Met l yX11_gain (wsG yX11_gain cX11_gain 3 (some .int)) ({ frames := 0, cells := 0, slots := 0, locals := 0 }) (PcH g Ty G [.int a0, .int a1, .int a2]) (vp_Si (fun r => r = F_X11_gain a0 a1 a2)) 0 0 (fun _ => False) := by
  refine Met.ofW (cc := cX11_gain) (maxL := 3) (ret := (some .int)) (by decide) rfl ?_
  intro p e s m args below meth c s₁ B hml hv
  obtain ⟨rfl, hK, hH⟩ := hv
  have hx := B.exec
  have hb := B.bytes
  have hr := B.returns
  have hts := atoms_spec (ws := (wsG yX11_gain cX11_gain 3 (some .int))) B.pre
  have hG : ∀ w ∈ GW, w.before ([.int a0, .int a1, .int a2] : List Value).toArray s = true := fun w h => hts w (List.mem_cons_of_mem _ h)
  have hown : s.vm.findClass RX11 = some m.cls := findClass_of_methodNamed B.named
  have hlocks := B.notSynchronized
  have hl := lv_entry [.int a0, .int a1, .int a2] (n := 3) (Nat.le_of_ble_eq_true rfl)
  rw [lg_entry_eq]
  generalize (lg_sl [.int a0, .int a1, .int a2] ++ List.replicate (3 - (lg_sl [.int a0, .int a1, .int a2]).length) Slot.unset).toArray = ls at hl ⊢
  have hl : lv_has ls 3 [(0, .int a0), (1, .int a1), (2, .int a2)] := hl
  have hv : (if a1 ≤ a2 then (if a2 ≤ a1 then ((a0 / (3 : Int32)) - a1) else ((a0 / (2 : Int32)) - ((2 : Int32) * a1))) else (a0 - a1)) = F_X11_gain a0 a1 a2 := rfl
  refine lv_iload_n hx hb dX11_gain_0 rfl (lv_at hl 1 rfl) ?_
  refine lv_iload_n hx hb dX11_gain_1 rfl (lv_at hl 2 rfl) ?_
  refine lv_icmp_le (tgt := 9) hx hb dX11_gain_2 (by decide) (fun c_1 => ?_) (fun c_1 => ?_)
  · rw [if_pos c_1] at hv
    refine lv_iload_n hx hb dX11_gain_9 rfl (lv_at hl 1 rfl) ?_
    refine lv_iload_n hx hb dX11_gain_10 rfl (lv_at hl 2 rfl) ?_
    refine lv_icmp_ge (tgt := 24) hx hb dX11_gain_11 (by decide) (fun c_2 => ?_) (fun c_2 => ?_)
    · rw [if_pos c_2] at hv
      refine lv_iload_n hx hb dX11_gain_24 rfl (lv_at hl 0 rfl) ?_
      refine lv_iconst (v := 3) hx hb dX11_gain_25 (by decide) ?_
      refine lv_idiv hx hb dX11_gain_26 (by decide) ?_
      refine lv_topi (fun x_3 ex_3 => ?_)
      try rw [← ex_3] at hv
      refine lv_iload_n hx hb dX11_gain_27 rfl (lv_at hl 1 rfl) ?_
      refine lv_isub hx hb dX11_gain_28 ?_
      refine lv_topi (fun x_4 ex_4 => ?_)
      try rw [← ex_4] at hv
      exact W.iret hx hb hr (fun t ht hW => ⟨x_4, rfl, hv, ht⟩) (fun q h => by cases h) dX11_gain_29
    · rw [if_neg c_2] at hv
      have r_5 : rgI (-2147483648) (2147483646) a1 := rg_w (rg_ltL (rg_top a1) (rg_top a2) (nle_lt c_2)) (by decide) (by decide)
      have r_6 : rgI (-2147483647) (2147483647) a2 := rg_w (rg_ltR (rg_top a1) (rg_top a2) (nle_lt c_2)) (by decide) (by decide)
      refine lv_iload_n hx hb dX11_gain_14 rfl (lv_at hl 0 rfl) ?_
      refine lv_iconst (v := 2) hx hb dX11_gain_15 (by decide) ?_
      refine lv_idiv hx hb dX11_gain_16 (by decide) ?_
      refine lv_topi (fun x_7 ex_7 => ?_)
      try rw [← ex_7] at hv
      refine lv_iconst (v := 2) hx hb dX11_gain_17 (by decide) ?_
      refine lv_iload_n hx hb dX11_gain_18 rfl (lv_at hl 1 rfl) ?_
      refine lv_imul hx hb dX11_gain_19 ?_
      refine lv_topi (fun x_8 ex_8 => ?_)
      try rw [← ex_8] at hv
      refine lv_isub hx hb dX11_gain_20 ?_
      refine lv_topi (fun x_9 ex_9 => ?_)
      try rw [← ex_9] at hv
      refine lv_goto (tgt := 29) hx hb dX11_gain_21 (by decide) ?_
      exact W.iret hx hb hr (fun t ht hW => ⟨x_9, rfl, hv, ht⟩) (fun q h => by cases h) dX11_gain_29
  · rw [if_neg c_1] at hv
    have r_10 : rgI (-2147483648) (2147483646) a2 := rg_w (rg_ltL (rg_top a2) (rg_top a1) (nle_lt c_1)) (by decide) (by decide)
    have r_11 : rgI (-2147483647) (2147483647) a1 := rg_w (rg_ltR (rg_top a2) (rg_top a1) (nle_lt c_1)) (by decide) (by decide)
    refine lv_iload_n hx hb dX11_gain_5 rfl (lv_at hl 0 rfl) ?_
    refine lv_iload_n hx hb dX11_gain_6 rfl (lv_at hl 1 rfl) ?_
    refine lv_isub hx hb dX11_gain_7 ?_
    refine lv_topi (fun x_12 ex_12 => ?_)
    try rw [← ex_12] at hv
    exact W.iret hx hb hr (fun t ht hW => ⟨x_12, rfl, hv, ht⟩) (fun q h => by cases h) dX11_gain_8

def F_X11_isBest_2  : Nat → Int32 → Int32 → Int32 → Int32 → Int32
  | 0, _, _, _, _ => 0
  | n + 1, y0, y1, y2, y3 => (if (9 : Int32) < y3 then (1 : Int32) else (if (F_X11_gain y0 y3 y2) ≤ (F_X11_gain y0 y1 y2) then (F_X11_isBest_2  n y0 y1 y2 (y3 + (1 : Int32))) else (0 : Int32)))
def F_X11_isBest (a0 : Int32) (a1 : Int32) (a2 : Int32) : Int32 := (F_X11_isBest_2  12 a0 a1 a2 (0 : Int32))
set_option maxHeartbeats 4000000 in
set_option maxRecDepth 100000 in
theorem c_X11_isBest_x (l : Launch) (g : Gx) (Ty : TyM) (G : Gh) (a0 : Int32) (a1 : Int32) (a2 : Int32) : Met l yX11_isBest (wsG yX11_isBest cX11_isBest 4 (some .boolean)) ({ frames := 1, cells := 0, slots := 0, locals := 22 }) (PcH g Ty G [.int a0, .int a1, .int a2]) (vp_Si (fun r => rgI (0) (1) r ∧ r = F_X11_isBest a0 a1 a2)) 0 0 (fun _ => False) := by
  refine Met.ofW (cc := cX11_isBest) (maxL := 4) (ret := (some .boolean)) (by decide) rfl ?_
  intro p e s m args below meth c s₁ B hml hv
  obtain ⟨rfl, hK, hH⟩ := hv
  have hx := B.exec
  have hb := B.bytes
  have hr := B.returns
  have hts := atoms_spec (ws := (wsG yX11_isBest cX11_isBest 4 (some .boolean))) B.pre
  have hG : ∀ w ∈ GW, w.before ([.int a0, .int a1, .int a2] : List Value).toArray s = true := fun w h => hts w (List.mem_cons_of_mem _ h)
  have hown : s.vm.findClass RX11 = some m.cls := findClass_of_methodNamed B.named
  have hlocks := B.notSynchronized
  have hl := lv_entry [.int a0, .int a1, .int a2] (n := 4) (Nat.le_of_ble_eq_true rfl)
  rw [lg_entry_eq]
  generalize (lg_sl [.int a0, .int a1, .int a2] ++ List.replicate (4 - (lg_sl [.int a0, .int a1, .int a2]).length) Slot.unset).toArray = ls at hl ⊢
  have hl : lv_has ls 4 [(0, .int a0), (1, .int a1), (2, .int a2)] := hl
  have hv : (F_X11_isBest_2  12 a0 a1 a2 (0 : Int32)) = F_X11_isBest a0 a1 a2 := rfl
  have L_2 : ∀ (n_2 : Nat) (y3_2 : Int32) (ls : Array Slot), rgI (0) (10) y3_2 → (10 - (y3_2).toInt).toNat < n_2 → lv_has ls 4 [(0, .int a0), (1, .int a1), (2, .int a2), (3, .int y3_2)] → (F_X11_isBest_2  n_2 a0 a1 a2 y3_2) = F_X11_isBest a0 a1 a2 → Wm p l e (wsG yX11_isBest cX11_isBest 4 (some .boolean)) ({ frames := 1, cells := 0, slots := 0, locals := 22 }) s m [.int a0, .int a1, .int a2] below meth c s.heap [] (0) (0) (vp_Si (fun r => rgI (0) (1) r ∧ r = F_X11_isBest a0 a1 a2)) 0 0 (fun _ => False) (F0 m 2 ls []) := by
    intro n_2
    induction n_2 with
    | zero => intro y3_2 ls ry3_2 hm; exact absurd hm (Nat.not_lt_zero _)
    | succ n_2 ih_2 =>
      intro y3_2 ls ry3_2 hm_2 hl hv
      rw [F_X11_isBest_2] at hv
      refine lv_iload_n hx hb dX11_isBest_2 rfl (lv_at hl 3 rfl) ?_
      refine lv_bipush (v := 9) hx hb dX11_isBest_3 (by decide) ?_
      refine lv_icmp_gt (tgt := 31) hx hb dX11_isBest_5 (by decide) (fun c_1 => ?_) (fun c_1 => ?_)
      · rw [if_pos c_1] at hv
        have r_2 : rgI (10) (10) y3_2 := rg_w (rg_ltR rl_9 ry3_2 c_1) (by decide) (by decide)
        refine lv_iconst (v := 1) hx hb dX11_isBest_31 (by decide) ?_
        exact W.zret hx hb hr rfl (fun t ht hW => ⟨1, rfl, ⟨rg_w rl_1 (by decide) (by decide), hv⟩, ht⟩) (fun q h => by cases h) dX11_isBest_32
      · rw [if_neg c_1] at hv
        have r_3 : rgI (0) (9) y3_2 := rg_w (rg_leL ry3_2 rl_9 (nlt_le c_1)) (by decide) (by decide)
        refine lv_iload_n hx hb dX11_isBest_8 rfl (lv_at hl 0 rfl) ?_
        refine lv_iload_n hx hb dX11_isBest_9 rfl (lv_at hl 3 rfl) ?_
        refine lv_iload_n hx hb dX11_isBest_10 rfl (lv_at hl 2 rfl) ?_
        refine vp_callSi (W.runS (As := [.int a0, .int y3_2, .int a2]) (rest := []) ⟨hx, hb, hml, hown, hts⟩ (c_X11_gain_x l g Ty G a0 y3_2 a2 ) (cwSx 3 hts hG (gwC mw_1140) mw_76 mw_1138 mw_1139 rfl rfl rfl hd_X11_gain ⟨Nat.le_of_ble_eq_true rfl, Nat.le_of_ble_eq_true rfl⟩) ⟨PcH_blind, PcH_pre hK hH⟩ rfl rfl hl.1 rfl (lv_room (Nat.le_of_ble_eq_true rfl)) dX11_isBest_11 ⟨Nat.zero_le _, Nat.zero_le _⟩) (fun x_4 hx_4 => ?_)
        try rw [← hx_4] at hv
        refine lv_iload_n hx hb dX11_isBest_14 rfl (lv_at hl 0 rfl) ?_
        refine lv_iload_n hx hb dX11_isBest_15 rfl (lv_at hl 1 rfl) ?_
        refine lv_iload_n hx hb dX11_isBest_16 rfl (lv_at hl 2 rfl) ?_
        refine vp_callSi (W.runS (As := [.int a0, .int a1, .int a2]) (rest := [.int x_4]) ⟨hx, hb, hml, hown, hts⟩ (c_X11_gain_x l g Ty G a0 a1 a2 ) (cwSx 3 hts hG (gwC mw_1140) mw_76 mw_1138 mw_1139 rfl rfl rfl hd_X11_gain ⟨Nat.le_of_ble_eq_true rfl, Nat.le_of_ble_eq_true rfl⟩) ⟨PcH_blind, PcH_pre hK hH⟩ rfl rfl hl.1 rfl (lv_room (Nat.le_of_ble_eq_true rfl)) dX11_isBest_17 ⟨Nat.zero_le _, Nat.zero_le _⟩) (fun x_5 hx_5 => ?_)
        try rw [← hx_5] at hv
        refine lv_icmp_le (tgt := 25) hx hb dX11_isBest_20 (by decide) (fun c_6 => ?_) (fun c_6 => ?_)
        · rw [if_pos c_6] at hv
          obtain ⟨x_7, ex_7⟩ : ∃ y : Int32, y = y3_2 + 1 := ⟨_, rfl⟩
          try rw [← ex_7] at hv
          have rx_7 : rgI (1) (10) x_7 := by rw [ex_7]; exact rg_w (rg_add r_3 rl_1 (by decide) (by decide)) (by decide) (by decide)
          have qx_7 : x_7.toInt = (y3_2 : Int32).toInt + 1 := by rw [ex_7]; exact rg_addE r_3 rl_1 (by decide) (by decide)
          refine lv_iinc (v := x_7) (lv' := [(3, .int x_7), (0, .int a0), (1, .int a1), (2, .int a2)]) hx hb dX11_isBest_25 hl (k := 3) rfl (by rw [ex_7]; rfl) (by decide) rfl (fun ls hl => ?_)
          refine lv_goto (tgt := 2) hx hb dX11_isBest_28 (by decide) ?_
          exact ih_2 x_7 ls (rg_w rx_7 (by decide) (by decide)) (by have h1 := qx_7; have h2 := r_3.1; have h3 := r_3.2; have h4 := hm_2; omega) (lv_sub hl [1, 2, 3, 0] rfl) hv
        · rw [if_neg c_6] at hv
          have r_8 : rgI (-2147483648) (2147483646) x_5 := rg_w (rg_ltL (rg_top x_5) (rg_top x_4) (nle_lt c_6)) (by decide) (by decide)
          have r_9 : rgI (-2147483647) (2147483647) x_4 := rg_w (rg_ltR (rg_top x_5) (rg_top x_4) (nle_lt c_6)) (by decide) (by decide)
          refine lv_iconst (v := 0) hx hb dX11_isBest_23 (by decide) ?_
          exact W.zret hx hb hr rfl (fun t ht hW => ⟨0, rfl, ⟨rg_w rl_0 (by decide) (by decide), hv⟩, ht⟩) (fun q h => by cases h) dX11_isBest_24
  refine lv_iconst (v := 0) hx hb dX11_isBest_0 (by decide) ?_
  refine lv_istore_n (lv' := [(3, .int 0), (0, .int a0), (1, .int a1), (2, .int a2)]) hx hb dX11_isBest_1 rfl hl (by decide) rfl (fun ls hl => ?_)
  exact L_2 12 0 ls (rg_w rl_0 (by decide) (by decide)) (by decide) (lv_sub hl [1, 2, 3, 0] rfl) hv

/-! ===== rests, word for word: pairs of numbers at which neither would have more by another ===== -/
def rsI (f : Int32 → Int32 → Int32) : Nat → Int32 → Int32 → Int32 → Int32
  | 0, _, _, n => n
  | k + 1, x, y, n => if (9 : Int32) < y then n else rsI f k x (y + 1) (if f x y = 0 then n else if f y x = 0 then n else n + 1)
def rsO (f : Int32 → Int32 → Int32) : Nat → Int32 → Int32 → Int32
  | 0, _, n => n
  | k + 1, x, n => if (9 : Int32) < x then n else rsO f k (x + 1) (rsI f 11 x 0 n)
def RestR (f : Int32 → Int32 → Int32) (a r : Int32) : Prop := (rgI 0 20 a ∧ r = rsO f 11 0 0) ∨ (¬ rgI 0 20 a ∧ r = -1)
section RSs
variable {f : Int32 → Int32 → Int32} {k : Nat} {x y n J : Int32}
theorem rsI_s : rsI f (k + 1) x y n = if (9 : Int32) < y then n else rsI f k x (y + 1) (if f x y = 0 then n else if f y x = 0 then n else n + 1) := rfl
theorem rsO_s : rsO f (k + 1) x n = if (9 : Int32) < x then n else rsO f k (x + 1) (rsI f 11 x 0 n) := rfl
theorem rsI_e (h : rsI f (k + 1) x y n = J) (c : (9 : Int32) < y) : n = J := by rw [rsI_s, if_pos c] at h; exact h
theorem rsI_0 (h : rsI f (k + 1) x y n = J) (c : ¬ (9 : Int32) < y) (z : f x y = 0) : rsI f k x (y + 1) n = J := by rw [rsI_s, if_neg c, if_pos z] at h; exact h
theorem rsI_1 (h : rsI f (k + 1) x y n = J) (c : ¬ (9 : Int32) < y) (z : ¬ f x y = 0) (w : f y x = 0) : rsI f k x (y + 1) n = J := by rw [rsI_s, if_neg c, if_neg z, if_pos w] at h; exact h
theorem rsI_2 (h : rsI f (k + 1) x y n = J) (c : ¬ (9 : Int32) < y) (z : ¬ f x y = 0) (w : ¬ f y x = 0) : rsI f k x (y + 1) (n + 1) = J := by rw [rsI_s, if_neg c, if_neg z, if_neg w] at h; exact h
theorem rsO_e (h : rsO f (k + 1) x n = J) (c : (9 : Int32) < x) : n = J := by rw [rsO_s, if_pos c] at h; exact h
theorem rsO_n (h : rsO f (k + 1) x n = J) (c : ¬ (9 : Int32) < x) : rsO f k (x + 1) (rsI f 11 x 0 n) = J := by rw [rsO_s, if_neg c] at h; exact h
end RSs
theorem in_no20 {a : Int32} (h : F_X12_in a 0 20 = 0) : ¬ rgI 0 20 a := fun q => by
  have h0 : ¬ a < 0 := fun w => by have := fz_lt.mp w; have z : (0 : Int32).toInt = 0 := rfl; have := q.1; omega
  have h1 : ¬ (20 : Int32) < a := fun w => by have := fz_lt.mp w; have z : (20 : Int32).toInt = 20 := rfl; have := q.2; omega
  unfold F_X12_in at h
  rw [if_neg h0, if_neg h1] at h
  exact absurd h (by decide)
theorem best_2 : ∀ (n : Nat) (v x y z : Int32), F_X11_isBest_2 n v x y z = F_X12_isBest_2 n x y v z := fun n => by
  induction n with
  | zero => intro v x y z; rfl
  | succ n ih =>
    intro v x y z
    show (if (9 : Int32) < z then (1 : Int32) else (if (F_X11_gain v z y) ≤ (F_X11_gain v x y) then (F_X11_isBest_2 n v x y (z + (1 : Int32))) else (0 : Int32))) = (if (9 : Int32) < z then (1 : Int32) else (if (F_X12_gets z y v) ≤ (F_X12_gets x y v) then (F_X12_isBest_2 n x y v (z + (1 : Int32))) else (0 : Int32)))
    rw [ih]
    rfl
theorem best_eq (v : Int32) : (fun x y => F_X11_isBest v x y) = (fun x y => F_X12_isBest x y v) := by
  funext x y
  exact best_2 12 v x y 0
/-- both sides answer the same -/
theorem rest_eq {v r r2 : Int32} (h : RestR (fun x y => F_X11_isBest v x y) v r) (h2 : RestR (fun x y => F_X12_isBest x y v) v r2) : r = r2 := by
  rw [best_eq] at h
  rcases h with ⟨a, e⟩ | ⟨a, e⟩
  · rcases h2 with ⟨a2, e2⟩ | ⟨a2, e2⟩
    · rw [e, e2]
    · exact absurd a a2
  · rcases h2 with ⟨a2, e2⟩ | ⟨a2, e2⟩
    · exact absurd a2 a
    · rw [e, e2]
set_option maxHeartbeats 4000000 in
set_option maxRecDepth 100000 in
theorem c_X11_rests_x (l : Launch) (g : Gx) (Ty : TyM) (G : Gh) (sz : Nat) (h0 : Nat) (a0 : Int32) (k_h0 : Ty h0 = some (21, 0)) : Met l yX11_rests (wsG yX11_rests cX11_rests 5 (some .int)) ({ frames := 2, cells := 0, slots := 0, locals := 46 }) (PcT g Ty G sz [.ref h0, .int a0]) (QwI g Ty sz (fun r u => u = (Ty, G) ∧ RestR (fun x y => F_X11_isBest a0 x y) a0 r)) 0 0 (AF Ty sz) := by
  refine Met.ofW (cc := cX11_rests) (maxL := 5) (ret := (some .int)) (by decide) rfl ?_
  intro p e s m args below meth c s₁ B hml hv
  obtain ⟨rfl, hsz, hK, hH⟩ := hv
  subst hsz
  have hx := B.exec
  have hb := B.bytes
  have hr := B.returns
  have hts := atoms_spec (ws := (wsG yX11_rests cX11_rests 5 (some .int))) B.pre
  have hG : ∀ w ∈ GW, w.before ([.ref h0, .int a0] : List Value).toArray s = true := fun w h => hts w (List.mem_cons_of_mem _ h)
  have hown : s.vm.findClass RX11 = some m.cls := findClass_of_methodNamed B.named
  have hlocks := B.notSynchronized
  have hl := lv_entry [.ref h0, .int a0] (n := 5) (Nat.le_of_ble_eq_true rfl)
  rw [lg_entry_eq]
  generalize (lg_sl [.ref h0, .int a0] ++ List.replicate (5 - (lg_sl [.ref h0, .int a0]).length) Slot.unset).toArray = ls at hl ⊢
  have hl : lv_has ls 5 [(0, .ref h0), (1, .int a0)] := hl
  have hS : va_S (AF Ty s.heap.size) s.heap s.heap [] := va_S.rf
  have L_23 : ∀ (n : Nat) (H : Heap) (locs : List Loc) (y2_23 : Int32) (y3_23 : Int32) (ls : Array Slot), rgI (0) (20) a0 → rgI (0) (10) y3_23 → (10 - (y3_23).toInt).toNat < n → rsO (fun x y => F_X11_isBest a0 x y) n y3_23 y2_23 = rsO (fun x y => F_X11_isBest a0 x y) 11 0 0 → lv_has ls 5 [(0, .ref h0), (1, .int a0), (2, .int y2_23), (3, .int y3_23)] → HT g Ty G H → va_S (AF Ty s.heap.size) s.heap H locs → Wm p l e (wsG yX11_rests cX11_rests 5 (some .int)) ({ frames := 2, cells := 0, slots := 0, locals := 46 }) s m [.ref h0, .int a0] below meth c H locs (0) (0) (QwI g Ty s.heap.size (fun r u => u = (Ty, G) ∧ RestR (fun x y => F_X11_isBest a0 x y) a0 r)) 0 0 (AF Ty s.heap.size) (F0 m 23 ls []) := by
    intro n
    induction n with
    | zero => intro H locs y2_23 y3_23 ls ry1_23 ry3_23 hm; exact absurd hm (Nat.not_lt_zero _)
    | succ n ih_23 =>
      intro H locs y2_23 y3_23 ls ry1_23 ry3_23 hm_23 hq_23 hl hH hS
      have hq_o := fun c => rsO_n hq_23 c
      have L_32 : ∀ (n : Nat) (H : Heap) (locs : List Loc) (y2_32 : Int32) (y4_32 : Int32) (ls : Array Slot), rgI (0) (20) a0 → rgI (0) (9) y3_23 → rgI (0) (10) y4_32 → (10 - (y4_32).toInt).toNat < n → rsI (fun x y => F_X11_isBest a0 x y) n y3_23 y4_32 y2_32 = rsI (fun x y => F_X11_isBest a0 x y) 11 y3_23 0 y2_23 → lv_has ls 5 [(0, .ref h0), (1, .int a0), (2, .int y2_32), (3, .int y3_23), (4, .int y4_32)] → HT g Ty G H → va_S (AF Ty s.heap.size) s.heap H locs → Wm p l e (wsG yX11_rests cX11_rests 5 (some .int)) ({ frames := 2, cells := 0, slots := 0, locals := 46 }) s m [.ref h0, .int a0] below meth c H locs (0) (0) (QwI g Ty s.heap.size (fun r u => u = (Ty, G) ∧ RestR (fun x y => F_X11_isBest a0 x y) a0 r)) 0 0 (AF Ty s.heap.size) (F0 m 32 ls []) := by
        intro n
        induction n with
        | zero => intro H locs y2_32 y4_32 ls ry1_32 ry3_32 ry4_32 hm; exact absurd hm (Nat.not_lt_zero _)
        | succ n ih_32 =>
          intro H locs y2_32 y4_32 ls ry1_32 ry3_32 ry4_32 hm_32 hq_32 hl hH hS
          have L_79 : ∀ (H : Heap) (locs : List Loc) (y2_79 : Int32) (ls : Array Slot), rgI (0) (20) a0 → rgI (0) (9) y3_23 → rgI (0) (9) y4_32 → rsI (fun x y => F_X11_isBest a0 x y) n y3_23 (y4_32 + 1) y2_79 = rsI (fun x y => F_X11_isBest a0 x y) 11 y3_23 0 y2_23 → lv_has ls 5 [(0, .ref h0), (1, .int a0), (2, .int y2_79), (3, .int y3_23), (4, .int y4_32)] → HT g Ty G H → va_S (AF Ty s.heap.size) s.heap H locs → Wm p l e (wsG yX11_rests cX11_rests 5 (some .int)) ({ frames := 2, cells := 0, slots := 0, locals := 46 }) s m [.ref h0, .int a0] below meth c H locs (0) (0) (QwI g Ty s.heap.size (fun r u => u = (Ty, G) ∧ RestR (fun x y => F_X11_isBest a0 x y) a0 r)) 0 0 (AF Ty s.heap.size) (F0 m 79 ls []) := by
            intro H locs y2_79 ls ry1_79 ry3_79 ry4_79 hq_79 hl hH hS
            obtain ⟨x_1, ex_1⟩ : ∃ y : Int32, y = y4_32 + 1 := ⟨_, rfl⟩
            have rx_1 : rgI (1) (10) x_1 := by rw [ex_1]; exact rg_w (rg_add ry4_79 rl_1 (by decide) (by decide)) (by decide) (by decide)
            have qx_1 : x_1.toInt = (y4_32 : Int32).toInt + 1 := by rw [ex_1]; exact rg_addE ry4_79 rl_1 (by decide) (by decide)
            refine lv_iinc (v := x_1) (lv' := [(4, .int x_1), (0, .ref h0), (1, .int a0), (2, .int y2_79), (3, .int y3_23)]) hx hb dX11_rests_79 hl (k := 4) rfl (by rw [ex_1]; rfl) (by decide) rfl (fun ls hl => ?_)
            refine lv_goto (tgt := 32) hx hb dX11_rests_82 (by decide) ?_
            exact ih_32 H locs y2_79 x_1 ls ry1_79 ry3_79 (rg_w rx_1 (by decide) (by decide)) (by have h1 := qx_1; have h2 := ry4_79.1; have h3 := ry4_79.2; have h4 := hm_32; omega) (by rw [ex_1]; exact hq_79) (lv_sub hl [1, 2, 3, 4, 0] rfl) hH hS
          refine lv_iload hx hb dX11_rests_32 (lv_at hl 4 rfl) ?_
          refine lv_bipush (v := 9) hx hb dX11_rests_34 (by decide) ?_
          refine lv_icmp_gt (tgt := 85) hx hb dX11_rests_36 (by decide) (fun c_2 => ?_) (fun c_2 => ?_)
          · have r_3 : rgI (10) (10) y4_32 := rg_w (rg_ltR rl_9 ry4_32 c_2) (by decide) (by decide)
            obtain ⟨x_4, ex_4⟩ : ∃ y : Int32, y = y3_23 + 1 := ⟨_, rfl⟩
            have rx_4 : rgI (1) (10) x_4 := by rw [ex_4]; exact rg_w (rg_add ry3_32 rl_1 (by decide) (by decide)) (by decide) (by decide)
            have qx_4 : x_4.toInt = (y3_23 : Int32).toInt + 1 := by rw [ex_4]; exact rg_addE ry3_32 rl_1 (by decide) (by decide)
            refine lv_iinc (v := x_4) (lv' := [(3, .int x_4), (0, .ref h0), (1, .int a0), (2, .int y2_32), (4, .int y4_32)]) hx hb dX11_rests_85 hl (k := 3) rfl (by rw [ex_4]; rfl) (by decide) rfl (fun ls hl => ?_)
            refine lv_goto (tgt := 23) hx hb dX11_rests_88 (by decide) ?_
            exact ih_23 H locs y2_32 x_4 ls ry1_32 (rg_w rx_4 (by decide) (by decide)) (by have h1 := qx_4; have h2 := ry3_32.1; have h3 := ry3_32.2; have h4 := hm_23; omega) (by rw [ex_4, rsI_e hq_32 c_2]; exact hq_o (fun h => rg_no rl_9 ry3_32 h (by decide))) (lv_sub hl [1, 2, 3, 0] rfl) hH hS
          · have r_5 : rgI (0) (9) y4_32 := rg_w (rg_leL ry4_32 rl_9 (nlt_le c_2)) (by decide) (by decide)
            refine lv_iload_n hx hb dX11_rests_39 rfl (lv_at hl 1 rfl) ?_
            refine lv_iload_n hx hb dX11_rests_40 rfl (lv_at hl 3 rfl) ?_
            refine lv_iload hx hb dX11_rests_41 (lv_at hl 4 rfl) ?_
            refine vp_callSi (W.runS (As := [.int a0, .int y3_23, .int y4_32]) (rest := []) ⟨hx, hb, hml, hown, hts⟩ (c_X11_isBest_x l g Ty G a0 y3_23 y4_32 ) (cwSx 3 hts hG (gwC mw_1137) mw_76 mw_1135 mw_1136 rfl rfl rfl hd_X11_isBest ⟨Nat.le_of_ble_eq_true rfl, Nat.le_of_ble_eq_true rfl⟩) ⟨PcH_blind, PcH_pre hK hH⟩ rfl rfl hl.1 rfl (lv_room (Nat.le_of_ble_eq_true rfl)) dX11_rests_43 ⟨Nat.zero_le _, Nat.zero_le _⟩) (fun x_6 hx_6 => ?_)
            have rx_6 : rgI (0) (1) x_6 := hx_6.1
            refine lv_if_eq (tgt := 79) hx hb dX11_rests_46 (by decide) (fun c_7 => ?_) (fun c_7 => ?_)
            · have r_8 : rgI (0) (0) x_6 := rg_w (rg_eq rl_0 c_7) (by decide) (by decide)
              exact L_79 H locs y2_32 ls ry1_32 ry3_32 r_5 (rsI_0 hq_32 c_2 (hx_6.2.symm.trans c_7)) (lv_sub hl [0, 1, 2, 3, 4] rfl) hH hS
            · have r_9 : rgI (1) (1) x_6 := rg_w (rg_neL rx_6 rl_0 c_7) (by decide) (by decide)
              refine lv_iload_n hx hb dX11_rests_49 rfl (lv_at hl 1 rfl) ?_
              refine lv_iload hx hb dX11_rests_50 (lv_at hl 4 rfl) ?_
              refine lv_iload_n hx hb dX11_rests_52 rfl (lv_at hl 3 rfl) ?_
              refine vp_callSi (W.runS (As := [.int a0, .int y4_32, .int y3_23]) (rest := []) ⟨hx, hb, hml, hown, hts⟩ (c_X11_isBest_x l g Ty G a0 y4_32 y3_23 ) (cwSx 3 hts hG (gwC mw_1137) mw_76 mw_1135 mw_1136 rfl rfl rfl hd_X11_isBest ⟨Nat.le_of_ble_eq_true rfl, Nat.le_of_ble_eq_true rfl⟩) ⟨PcH_blind, PcH_pre hK hH⟩ rfl rfl hl.1 rfl (lv_room (Nat.le_of_ble_eq_true rfl)) dX11_rests_53 ⟨Nat.zero_le _, Nat.zero_le _⟩) (fun x_10 hx_10 => ?_)
              have rx_10 : rgI (0) (1) x_10 := hx_10.1
              refine lv_if_eq (tgt := 79) hx hb dX11_rests_56 (by decide) (fun c_11 => ?_) (fun c_11 => ?_)
              · have r_12 : rgI (0) (0) x_10 := rg_w (rg_eq rl_0 c_11) (by decide) (by decide)
                exact L_79 H locs y2_32 ls ry1_32 ry3_32 r_5 (rsI_1 hq_32 c_2 (fun q => c_7 (hx_6.2.trans q)) (hx_10.2.symm.trans c_11)) (lv_sub hl [0, 1, 2, 3, 4] rfl) hH hS
              · have r_13 : rgI (1) (1) x_10 := rg_w (rg_neL rx_10 rl_0 c_11) (by decide) (by decide)
                obtain ⟨x_14, ex_14⟩ : ∃ y : Int32, y = y2_32 + 1 := ⟨_, rfl⟩
                refine lv_iinc (v := x_14) (lv' := [(2, .int x_14), (0, .ref h0), (1, .int a0), (3, .int y3_23), (4, .int y4_32)]) hx hb dX11_rests_59 hl (k := 2) rfl (by rw [ex_14]; rfl) (by decide) rfl (fun ls hl => ?_)
                refine lv_iload_n hx hb dX11_rests_62 rfl (lv_at hl 0 rfl) ?_
                refine lv_iconst (v := 1) hx hb dX11_rests_63 (by decide) ?_
                refine lv_icmp_ne (tgt := 79) hx hb dX11_rests_64 (by decide) (fun c_15 => ?_) (fun c_15 => ?_)
                · exact L_79 H locs x_14 ls ry1_32 ry3_32 r_5 (by rw [ex_14]; exact rsI_2 hq_32 c_2 (fun q => c_7 (hx_6.2.trans q)) (fun q => c_11 (hx_10.2.trans q))) (lv_sub hl [1, 2, 0, 3, 4] rfl) hH hS
                · have r_16 : rgI (1) (1) x_14 := rg_w (rg_eq rl_1 c_15) (by decide) (by decide)
                  refine lv_aload_n hx hb dX11_rests_67 rfl (lv_at hl 1 rfl) ?_
                  obtain ⟨_, ⟨q_32, rfl, kq_18, kq_19, kq_20, kq_21, kq_22, kq_23, kq_24, kq_25, kq_26, kq_27, kq_28, kq_29, kq_30, kq_31⟩, o_c_17⟩ := hH h0 _ k_h0
                  refine hg_get hx hb hG igX11 hown hK o_c_17 rfl 5 (by decide) (hG _ mw_362) rfl dX11_rests_68 ?_
                  refine lv_iload_n hx hb dX11_rests_71 rfl (lv_at hl 3 rfl) ?_
                  refine lv_i2l hx hb dX11_rests_72 rfl ?_
                  refine lv_topl (fun u_33 eu_33 => ?_)
                  refine lv_iload hx hb dX11_rests_73 (lv_at hl 4 rfl) ?_
                  refine lv_i2l hx hb dX11_rests_75 rfl ?_
                  refine lv_topl (fun u_34 eu_34 => ?_)
                  obtain ⟨_, ⟨q_36, q_37, rfl, kq_36, rq_37⟩, o_c_35⟩ := hH (g.2.2 5) _ kq_23
                  refine va_callv (va_runV (As := [.long u_33, .long u_34]) (rest := []) ⟨hx, hb, hml, hown, hts⟩ (c_X7_tellTwo l g Ty G H.size (g.2.2 5) u_33 u_34 kq_23) (cwV 2 hts (gwV mw_753 mw_754 mw_755 mw_80 mw_756) rfl rfl rfl hv_X7_tellTwo ⟨Nat.le_of_ble_eq_true rfl, Nat.le_of_ble_eq_true rfl⟩) ⟨PcT_blind, hg_recv hK o_c_35 rfl, PcT_pre hK hH⟩ rfl rfl hl.1 rfl (lv_room (Nat.le_of_ble_eq_true rfl)) dX11_rests_76 ⟨Nat.zero_le _, Nat.zero_le _⟩) hS (fun q _ h => AF.mono hS.1 h) (fun q h => AF.mono hS.1 h) (fun ux_38 t H locs ht hvm hx_38 hB hz hk hS => ?_)
                  have hH : HT g Ty G H := by rw [← ht]; rw [hx_38] at hB; exact hB
                  exact L_79 H locs x_14 ls ry1_32 ry3_32 r_5 (by rw [ex_14]; exact rsI_2 hq_32 c_2 (fun q => c_7 (hx_6.2.trans q)) (fun q => c_11 (hx_10.2.trans q))) (lv_sub hl [1, 2, 0, 3, 4] rfl) hH hS
      refine lv_iload_n hx hb dX11_rests_23 rfl (lv_at hl 3 rfl) ?_
      refine lv_bipush (v := 9) hx hb dX11_rests_24 (by decide) ?_
      refine lv_icmp_gt (tgt := 91) hx hb dX11_rests_26 (by decide) (fun c_39 => ?_) (fun c_39 => ?_)
      · have r_40 : rgI (10) (10) y3_23 := rg_w (rg_ltR rl_9 ry3_23 c_39) (by decide) (by decide)
        refine lv_iload_n hx hb dX11_rests_91 rfl (lv_at hl 2 rfl) ?_
        exact W.iret hx hb hr (fun t ht hWm => ⟨⟨y2_23, (Ty, G), rfl, ⟨rfl, Or.inl ⟨ry1_23, rsO_e hq_23 c_39⟩⟩, by show HT g Ty G t.heap; rw [ht]; exact hH⟩, hS.F ht⟩) hS.2.2 dX11_rests_92
      · have r_41 : rgI (0) (9) y3_23 := rg_w (rg_leL ry3_23 rl_9 (nlt_le c_39)) (by decide) (by decide)
        refine lv_iconst (v := 0) hx hb dX11_rests_29 (by decide) ?_
        refine lv_istore (lv' := [(4, .int 0), (0, .ref h0), (1, .int a0), (2, .int y2_23), (3, .int y3_23)]) hx hb dX11_rests_30 hl (by decide) rfl (fun ls hl => ?_)
        exact L_32 _ H locs y2_23 0 ls ry1_23 r_41 (rg_w rl_0 (by decide) (by decide)) (Nat.lt_succ_self _) rfl (lv_sub hl [1, 2, 3, 4, 0] rfl) hH hS
  have L_10 : ∀ (H : Heap) (locs : List Loc) (ls : Array Slot), ¬ rgI (0) (20) a0 → lv_has ls 5 [] → HT g Ty G H → va_S (AF Ty s.heap.size) s.heap H locs → Wm p l e (wsG yX11_rests cX11_rests 5 (some .int)) ({ frames := 2, cells := 0, slots := 0, locals := 46 }) s m [.ref h0, .int a0] below meth c H locs (0) (0) (QwI g Ty s.heap.size (fun r u => u = (Ty, G) ∧ RestR (fun x y => F_X11_isBest a0 x y) a0 r)) 0 0 (AF Ty s.heap.size) (F0 m 10 ls []) := by
    intro H locs ls hna hl hH hS
    refine lv_iconst (v := (-1)) hx hb dX11_rests_10 (by decide) ?_
    exact W.iret hx hb hr (fun t ht hWm => ⟨⟨(-1), (Ty, G), rfl, ⟨rfl, Or.inr ⟨hna, rfl⟩⟩, by show HT g Ty G t.heap; rw [ht]; exact hH⟩, hS.F ht⟩) hS.2.2 dX11_rests_11
  refine lv_iload_n hx hb dX11_rests_0 rfl (lv_at hl 1 rfl) ?_
  refine lv_if_lt (tgt := 10) hx hb dX11_rests_1 (by decide) (fun c_42 => ?_) (fun c_42 => ?_)
  · have r_43 : rgI (-2147483648) (-1) a0 := rg_w (rg_ltL (rg_top a0) rl_0 c_42) (by decide) (by decide)
    exact L_10 s.heap [] ls (fun q => by have h1 := r_43.2; have h2 := q.1; omega) (lv_sub hl [] rfl) hH hS
  · have r_44 : rgI (0) (2147483647) a0 := rg_w (rg_leR rl_0 (rg_top a0) (nlt_le c_42)) (by decide) (by decide)
    refine lv_iload_n hx hb dX11_rests_4 rfl (lv_at hl 1 rfl) ?_
    refine lv_bipush (v := 20) hx hb dX11_rests_5 (by decide) ?_
    refine lv_icmp_le (tgt := 12) hx hb dX11_rests_7 (by decide) (fun c_45 => ?_) (fun c_45 => ?_)
    · have r_46 : rgI (0) (20) a0 := rg_w (rg_leL r_44 rl_20 c_45) (by decide) (by decide)
      refine lv_iconst (v := 0) hx hb dX11_rests_12 (by decide) ?_
      refine lv_istore_n (lv' := [(2, .int 0), (0, .ref h0), (1, .int a0)]) hx hb dX11_rests_13 rfl hl (by decide) rfl (fun ls hl => ?_)
      refine lv_aload_n hx hb dX11_rests_14 rfl (lv_at hl 1 rfl) ?_
      obtain ⟨_, ⟨q_62, rfl, kq_48, kq_49, kq_50, kq_51, kq_52, kq_53, kq_54, kq_55, kq_56, kq_57, kq_58, kq_59, kq_60, kq_61⟩, o_c_47⟩ := hH h0 _ k_h0
      refine hg_get hx hb hG igX11 hown hK o_c_47 rfl 5 (by decide) (hG _ mw_362) rfl dX11_rests_15 ?_
      obtain ⟨_, ⟨q_64, q_65, rfl, kq_64, rq_65⟩, o_c_63⟩ := hH (g.2.2 5) _ kq_53
      refine va_callv (va_runV (As := []) (rest := []) ⟨hx, hb, hml, hown, hts⟩ (c_X7_clear l g Ty G s.heap.size (g.2.2 5) kq_53) (cwV 0 hts (gwV mw_932 mw_588 mw_589 mw_80 mw_590) rfl rfl rfl hv_X7_clear ⟨Nat.le_of_ble_eq_true rfl, Nat.le_of_ble_eq_true rfl⟩) ⟨PcT_blind, hg_recv hK o_c_63 rfl, PcT_pre hK hH⟩ rfl rfl hl.1 rfl (lv_room (Nat.le_of_ble_eq_true rfl)) dX11_rests_18 ⟨Nat.zero_le _, Nat.zero_le _⟩) hS (fun q _ h => AF.mono hS.1 h) (fun q h => AF.mono hS.1 h) (fun ux_66 t H locs ht hvm hx_66 hB hz hk hS => ?_)
      have hH : HT g Ty G H := by rw [← ht]; rw [hx_66] at hB; exact hB
      refine lv_iconst (v := 0) hx hb dX11_rests_21 (by decide) ?_
      refine lv_istore_n (lv' := [(3, .int 0), (2, .int 0), (0, .ref h0), (1, .int a0)]) hx hb dX11_rests_22 rfl hl (by decide) rfl (fun ls hl => ?_)
      exact L_23 _ H locs 0 0 ls r_46 (rg_w rl_0 (by decide) (by decide)) (Nat.lt_succ_self _) rfl (lv_sub hl [2, 3, 1, 0] rfl) hH hS
    · have r_67 : rgI (21) (2147483647) a0 := rg_w (rg_ltR rl_20 r_44 (nle_lt c_45)) (by decide) (by decide)
      exact L_10 s.heap [] ls (fun q => by have h1 := r_67.1; have h2 := q.2; omega) (lv_sub hl [] rfl) hH hS
set_option maxHeartbeats 4000000 in
set_option maxRecDepth 100000 in
theorem c_X12_rests_x (l : Launch) (g : Gx) (Ty : TyM) (G : Gh) (sz : Nat) (h0 : Nat) (a0 : Int32) (k_h0 : Ty h0 = some (22, 0)) (Bd : Int) (hI : OI g Bd G) (hBd : Bd ≤ 1900000) (hLD : LD g) : Met l yX12_rests (wsG yX12_rests cX12_rests 5 (some .int)) ({ frames := 2, cells := 0, slots := 0, locals := 45 }) (PcT g Ty G sz [.ref h0, .int a0]) (QwI g Ty sz (fun r u => u.1 = Ty ∧ FR [104, 105] [] [] G u.2 ∧ OI g (Bd + 1000) u.2 ∧ RestR (fun x y => F_X12_isBest x y a0) a0 r)) 0 0 (AF Ty sz) := by
  refine Met.ofW (cc := cX12_rests) (maxL := 5) (ret := (some .int)) (by decide) rfl ?_
  intro p e s m args below meth c s₁ B hml hv
  obtain ⟨rfl, hsz, hK, hH⟩ := hv
  subst hsz
  have hx := B.exec
  have hb := B.bytes
  have hr := B.returns
  have hts := atoms_spec (ws := (wsG yX12_rests cX12_rests 5 (some .int))) B.pre
  have hG : ∀ w ∈ GW, w.before ([.ref h0, .int a0] : List Value).toArray s = true := fun w h => hts w (List.mem_cons_of_mem _ h)
  have hown : s.vm.findClass RX12 = some m.cls := findClass_of_methodNamed B.named
  have hlocks := B.notSynchronized
  have hl := lv_entry [.ref h0, .int a0] (n := 5) (Nat.le_of_ble_eq_true rfl)
  rw [lg_entry_eq]
  generalize (lg_sl [.ref h0, .int a0] ++ List.replicate (5 - (lg_sl [.ref h0, .int a0]).length) Slot.unset).toArray = ls at hl ⊢
  have hl : lv_has ls 5 [(0, .ref h0), (1, .int a0)] := hl
  have hmk : mdK g Ty := mdk_of hH k_h0
  have hS : va_S (AF Ty s.heap.size) s.heap s.heap [] := va_S.rf
  obtain ⟨⟨σ0, hTS0⟩, h10, hBB0⟩ := id hI.ti
  obtain ⟨ρ, hT⟩ := hTS0.1
  have L_26 : ∀ (n : Nat) (H : Heap) (locs : List Loc) (G_26 : Gh) (y2_26 : Int32) (y3_26 : Int32) (ls : Array Slot), rgI (0) (2) (G_26.1 104) → FR [104, 105] [] [] G G_26 → rgI (0) (20) a0 → rgI (0) (10) y3_26 → (0 ≤ (y2_26 : Int32).toInt ∧ (y2_26 : Int32).toInt ≤ 10 * (y3_26 : Int32).toInt) → (¬ y2_26 = 0 ∨ G_26.1 104 = 0) → (10 - (y3_26).toInt).toNat < n → rsO (fun x y => F_X12_isBest x y a0) n y3_26 y2_26 = rsO (fun x y => F_X12_isBest x y a0) 11 0 0 → lv_has ls 5 [(0, .ref h0), (1, .int a0), (2, .int y2_26), (3, .int y3_26)] → HT g Ty G_26 H → va_S (AF Ty s.heap.size) s.heap H locs → Wm p l e (wsG yX12_rests cX12_rests 5 (some .int)) ({ frames := 2, cells := 0, slots := 0, locals := 45 }) s m [.ref h0, .int a0] below meth c H locs (0) (0) (QwI g Ty s.heap.size (fun r u => u.1 = Ty ∧ FR [104, 105] [] [] G u.2 ∧ OI g (Bd + 1000) u.2 ∧ RestR (fun x y => F_X12_isBest x y a0) a0 r)) 0 0 (AF Ty s.heap.size) (F0 m 26 ls []) := by
    intro n
    induction n with
    | zero => intro H locs G_26 y2_26 y3_26 ls rg104_26 frL_26 ry1_26 ry3_26 hi0_26 hi1_26 hm; exact absurd hm (Nat.not_lt_zero _)
    | succ n ih_26 =>
      intro H locs G_26 y2_26 y3_26 ls rg104_26 frL_26 ry1_26 ry3_26 hi0_26 hi1_26 hm_26 hq_26 hl hH hS
      have hq_o := fun c => rsO_n hq_26 c
      have L_35 : ∀ (n : Nat) (H : Heap) (locs : List Loc) (G_35 : Gh) (y2_35 : Int32) (y4_35 : Int32) (ls : Array Slot), rgI (0) (2) (G_35.1 104) → FR [104, 105] [] [] G G_35 → rgI (0) (20) a0 → rgI (0) (9) y3_26 → rgI (0) (10) y4_35 → (0 ≤ (y2_35 : Int32).toInt ∧ (y2_35 : Int32).toInt ≤ 10 * (y3_26 : Int32).toInt + (y4_35 : Int32).toInt) → (¬ y2_35 = 0 ∨ G_35.1 104 = 0) → (10 - (y4_35).toInt).toNat < n → rsI (fun x y => F_X12_isBest x y a0) n y3_26 y4_35 y2_35 = rsI (fun x y => F_X12_isBest x y a0) 11 y3_26 0 y2_26 → lv_has ls 5 [(0, .ref h0), (1, .int a0), (2, .int y2_35), (3, .int y3_26), (4, .int y4_35)] → HT g Ty G_35 H → va_S (AF Ty s.heap.size) s.heap H locs → Wm p l e (wsG yX12_rests cX12_rests 5 (some .int)) ({ frames := 2, cells := 0, slots := 0, locals := 45 }) s m [.ref h0, .int a0] below meth c H locs (0) (0) (QwI g Ty s.heap.size (fun r u => u.1 = Ty ∧ FR [104, 105] [] [] G u.2 ∧ OI g (Bd + 1000) u.2 ∧ RestR (fun x y => F_X12_isBest x y a0) a0 r)) 0 0 (AF Ty s.heap.size) (F0 m 35 ls []) := by
        intro n
        induction n with
        | zero => intro H locs G_35 y2_35 y4_35 ls rg104_35 frL_35 ry1_35 ry3_35 ry4_35 hi0_35 hi1_35 hm; exact absurd hm (Nat.not_lt_zero _)
        | succ n ih_35 =>
          intro H locs G_35 y2_35 y4_35 ls rg104_35 frL_35 ry1_35 ry3_35 ry4_35 hi0_35 hi1_35 hm_35 hq_35 hl hH hS
          refine lv_iload hx hb dX12_rests_35 (lv_at hl 4 rfl) ?_
          refine lv_bipush (v := 9) hx hb dX12_rests_37 (by decide) ?_
          refine lv_icmp_gt (tgt := 91) hx hb dX12_rests_39 (by decide) (fun c_1 => ?_) (fun c_1 => ?_)
          · have r_2 : rgI (10) (10) y4_35 := rg_w (rg_ltR rl_9 ry4_35 c_1) (by decide) (by decide)
            obtain ⟨x_3, ex_3⟩ : ∃ y : Int32, y = y3_26 + 1 := ⟨_, rfl⟩
            have rx_3 : rgI (1) (10) x_3 := by rw [ex_3]; exact rg_w (rg_add ry3_35 rl_1 (by decide) (by decide)) (by decide) (by decide)
            have qx_3 : x_3.toInt = (y3_26 : Int32).toInt + 1 := by rw [ex_3]; exact rg_addE ry3_35 rl_1 (by decide) (by decide)
            refine lv_iinc (v := x_3) (lv' := [(3, .int x_3), (0, .ref h0), (1, .int a0), (2, .int y2_35), (4, .int y4_35)]) hx hb dX12_rests_91 hl (k := 3) rfl (by rw [ex_3]; rfl) (by decide) rfl (fun ls hl => ?_)
            refine lv_goto (tgt := 26) hx hb dX12_rests_94 (by decide) ?_
            exact ih_26 H locs G_35 y2_35 x_3 ls (rg_w rg104_35 (by decide) (by decide)) frL_35 ry1_35 (rg_w rx_3 (by decide) (by decide)) ⟨hi0_35.1, by have q := hi0_35.2; have q2 := qx_3; have q3 := (r_2).2; omega⟩ hi1_35 (by have h1 := qx_3; have h2 := ry3_35.1; have h3 := ry3_35.2; have h4 := hm_26; omega) (by rw [ex_3, rsI_e hq_35 c_1]; exact hq_o (fun h => rg_no rl_9 ry3_35 h (by decide))) (lv_sub hl [1, 2, 3, 0] rfl) hH hS
          · have r_4 : rgI (0) (9) y4_35 := rg_w (rg_leL ry4_35 rl_9 (nlt_le c_1)) (by decide) (by decide)
            refine lv_iload_n hx hb dX12_rests_42 rfl (lv_at hl 3 rfl) ?_
            refine lv_iload hx hb dX12_rests_43 (lv_at hl 4 rfl) ?_
            refine lv_iload_n hx hb dX12_rests_45 rfl (lv_at hl 1 rfl) ?_
            refine vp_callSi (W.runS (As := [.int y3_26, .int y4_35, .int a0]) (rest := []) ⟨hx, hb, hml, hown, hts⟩ (c_X12_isBest l g Ty G_35 y3_26 y4_35 a0 ) (cwSx 3 hts hG (gwC mw_1841) mw_88 mw_1839 mw_1840 rfl rfl rfl hd_X12_isBest ⟨Nat.le_of_ble_eq_true rfl, Nat.le_of_ble_eq_true rfl⟩) ⟨PcH_blind, PcH_pre hK hH⟩ rfl rfl hl.1 rfl (lv_room (Nat.le_of_ble_eq_true rfl)) dX12_rests_46 ⟨Nat.zero_le _, Nat.zero_le _⟩) (fun x_5 hx_5 => ?_)
            have rx_5 : rgI (0) (1) x_5 := hx_5.1
            refine lv_if_eq (tgt := 85) hx hb dX12_rests_49 (by decide) (fun c_6 => ?_) (fun c_6 => ?_)
            · have r_7 : rgI (0) (0) x_5 := rg_w (rg_eq rl_0 c_6) (by decide) (by decide)
              obtain ⟨x_8, ex_8⟩ : ∃ y : Int32, y = y4_35 + 1 := ⟨_, rfl⟩
              have rx_8 : rgI (1) (10) x_8 := by rw [ex_8]; exact rg_w (rg_add r_4 rl_1 (by decide) (by decide)) (by decide) (by decide)
              have qx_8 : x_8.toInt = (y4_35 : Int32).toInt + 1 := by rw [ex_8]; exact rg_addE r_4 rl_1 (by decide) (by decide)
              refine lv_iinc (v := x_8) (lv' := [(4, .int x_8), (0, .ref h0), (1, .int a0), (2, .int y2_35), (3, .int y3_26)]) hx hb dX12_rests_85 hl (k := 4) rfl (by rw [ex_8]; rfl) (by decide) rfl (fun ls hl => ?_)
              refine lv_goto (tgt := 35) hx hb dX12_rests_88 (by decide) ?_
              exact ih_35 H locs G_35 y2_35 x_8 ls (rg_w rg104_35 (by decide) (by decide)) frL_35 ry1_35 ry3_35 (rg_w rx_8 (by decide) (by decide)) ⟨hi0_35.1, by have q := qx_8; have q2 := hi0_35.2; omega⟩ hi1_35 (by have h1 := qx_8; have h2 := r_4.1; have h3 := r_4.2; have h4 := hm_35; omega) (by rw [ex_8]; exact rsI_0 hq_35 c_1 (hx_5.2.symm.trans c_6)) (lv_sub hl [1, 2, 3, 4, 0] rfl) hH hS
            · have r_9 : rgI (1) (1) x_5 := rg_w (rg_neL rx_5 rl_0 c_6) (by decide) (by decide)
              refine lv_iload hx hb dX12_rests_52 (lv_at hl 4 rfl) ?_
              refine lv_iload_n hx hb dX12_rests_54 rfl (lv_at hl 3 rfl) ?_
              refine lv_iload_n hx hb dX12_rests_55 rfl (lv_at hl 1 rfl) ?_
              refine vp_callSi (W.runS (As := [.int y4_35, .int y3_26, .int a0]) (rest := []) ⟨hx, hb, hml, hown, hts⟩ (c_X12_isBest l g Ty G_35 y4_35 y3_26 a0 ) (cwSx 3 hts hG (gwC mw_1841) mw_88 mw_1839 mw_1840 rfl rfl rfl hd_X12_isBest ⟨Nat.le_of_ble_eq_true rfl, Nat.le_of_ble_eq_true rfl⟩) ⟨PcH_blind, PcH_pre hK hH⟩ rfl rfl hl.1 rfl (lv_room (Nat.le_of_ble_eq_true rfl)) dX12_rests_56 ⟨Nat.zero_le _, Nat.zero_le _⟩) (fun x_10 hx_10 => ?_)
              have rx_10 : rgI (0) (1) x_10 := hx_10.1
              refine lv_if_ne (tgt := 65) hx hb dX12_rests_59 (by decide) (fun c_11 => ?_) (fun c_11 => ?_)
              · have r_12 : rgI (1) (1) x_10 := rg_w (rg_neL rx_10 rl_0 c_11) (by decide) (by decide)
                refine lv_iload_n hx hb dX12_rests_65 rfl (lv_at hl 2 rfl) ?_
                refine lv_if_ne (tgt := 82) hx hb dX12_rests_66 (by decide) (fun c_13 => ?_) (fun c_13 => ?_)
                · obtain ⟨x_14, ex_14⟩ : ∃ y : Int32, y = y2_35 + 1 := ⟨_, rfl⟩
                  refine lv_iinc (v := x_14) (lv' := [(2, .int x_14), (0, .ref h0), (1, .int a0), (3, .int y3_26), (4, .int y4_35)]) hx hb dX12_rests_82 hl (k := 2) rfl (by rw [ex_14]; rfl) (by decide) rfl (fun ls hl => ?_)
                  obtain ⟨x_15, ex_15⟩ : ∃ y : Int32, y = y4_35 + 1 := ⟨_, rfl⟩
                  have rx_15 : rgI (1) (10) x_15 := by rw [ex_15]; exact rg_w (rg_add r_4 rl_1 (by decide) (by decide)) (by decide) (by decide)
                  have qx_15 : x_15.toInt = (y4_35 : Int32).toInt + 1 := by rw [ex_15]; exact rg_addE r_4 rl_1 (by decide) (by decide)
                  refine lv_iinc (v := x_15) (lv' := [(4, .int x_15), (2, .int x_14), (0, .ref h0), (1, .int a0), (3, .int y3_26)]) hx hb dX12_rests_85 hl (k := 4) rfl (by rw [ex_15]; rfl) (by decide) rfl (fun ls hl => ?_)
                  refine lv_goto (tgt := 35) hx hb dX12_rests_88 (by decide) ?_
                  exact ih_35 H locs G_35 x_14 x_15 ls (rg_w rg104_35 (by decide) (by decide)) frL_35 ry1_35 ry3_35 (rg_w rx_15 (by decide) (by decide)) (rs_s hi0_35 ex_14 qx_15 ry3_35 r_4) (Or.inl (rs_n hi0_35 ex_14 ry3_35 r_4)) (by have h1 := qx_15; have h2 := r_4.1; have h3 := r_4.2; have h4 := hm_35; omega) (by rw [ex_15, ex_14]; exact rsI_2 hq_35 c_1 (fun q => c_6 (hx_5.2.trans q)) (fun q => c_11 (hx_10.2.trans q))) (lv_sub hl [2, 3, 1, 4, 0] rfl) hH hS
                · have r_16 : rgI (0) (0) y2_35 := rg_w (rg_eq rl_0 c_13) (by decide) (by decide)
                  have r4_17 : rgI 0 0 (G_35.1 104) := rg_rg (hi1_35.resolve_left (fun w => w c_13)) rl_0
                  refine lv_aload_n hx hb dX12_rests_69 rfl (lv_at hl 0 rfl) ?_
                  refine lv_iload_n hx hb dX12_rests_70 rfl (lv_at hl 3 rfl) ?_
                  refine lv_i2l hx hb dX12_rests_71 rfl ?_
                  refine lv_topl (fun u_18 eu_18 => ?_)
                  obtain ⟨_, ⟨rfl, t_20, hk_21⟩, o_c_19⟩ := hH h0 _ k_h0
                  refine va_callv (va_runV (As := [.long u_18]) (rest := []) ⟨hx, hb, hml, hown, hts⟩ (c_X12_tell l g Ty G_35 H.size h0 u_18 k_h0 (rg_w r4_17 (by decide) (by decide))) (cwV 1 hts (gwV mw_1506 mw_1508 mw_48 mw_88 mw_1509) rfl rfl rfl hv_X12_tell ⟨Nat.le_of_ble_eq_true rfl, Nat.le_of_ble_eq_true rfl⟩) ⟨PcT_blind, hg_recv hK o_c_19 rfl, PcT_pre hK hH⟩ rfl rfl hl.1 rfl (lv_room (Nat.le_of_ble_eq_true rfl)) dX12_rests_72 ⟨Nat.zero_le _, Nat.zero_le _⟩) hS (fun q _ h => AF.mono hS.1 h) (fun q h => AF.mono hS.1 h) (fun ux_22 t H locs ht hvm hx_22 hB hz hk hS => ?_)
                  obtain ⟨eTx_22, eGx_22⟩ := hx_22
                  obtain ⟨G_23, eG_23⟩ : ∃ z, z = ux_22.2 := ⟨_, rfl⟩
                  rw [← eG_23] at eGx_22
                  obtain ⟨x_24, ex_24⟩ : ∃ z : Int32, z = (G_35.1 104) + 1 := ⟨_, rfl⟩
                  have e_25 : G_23 = gset G_35 104 x_24 := by rw [ex_24]; exact eGx_22
                  have rx_24 : rgI (1) (1) x_24 := by rw [ex_24]; exact rg_w (rg_add r4_17 rl_1 (by decide) (by decide)) (by decide) (by decide)
                  have fr_26 : FR [104, 105] [] [] G G_23 := FR.n frL_35 e_25 (by decide)
                  have u_27 : G_23.1 102 = (G.1 102) := by rw [e_25]; exact (gs_ne (by decide)).trans (frL_35.1 102 (by decide))
                  have u_28 : G_23.1 113 = (G.1 113) := by rw [e_25]; exact (gs_ne (by decide)).trans (frL_35.1 113 (by decide))
                  have u_29 : G_23.1 122 = (G.1 122) := by rw [e_25]; exact (gs_ne (by decide)).trans (frL_35.1 122 (by decide))
                  have u_30 : G_23.1 133 = (G.1 133) := by rw [e_25]; exact (gs_ne (by decide)).trans (frL_35.1 133 (by decide))
                  have u_31 : G_23.1 137 = (G.1 137) := by rw [e_25]; exact (gs_ne (by decide)).trans (frL_35.1 137 (by decide))
                  have u_32 : G_23.1 104 = x_24 := by rw [e_25]; exact gs_eq
                  have w_33 : G_23.2.1 (g.2.2 100) = (G.2.1 (g.2.2 100)) := by rw [e_25]; exact (frL_35.2.1 (g.2.2 100) trivial)
                  have w_34 : G_23.2.1 (g.2.2 121) = (G.2.1 (g.2.2 121)) := by rw [e_25]; exact (frL_35.2.1 (g.2.2 121) trivial)
                  have w_35 : G_23.2.1 (g.2.2 140) = (G.2.1 (g.2.2 140)) := by rw [e_25]; exact (frL_35.2.1 (g.2.2 140) trivial)
                  have w_36 : G_23.2.1 (g.2.2 141) = (G.2.1 (g.2.2 141)) := by rw [e_25]; exact (frL_35.2.1 (g.2.2 141) trivial)
                  have w_37 : G_23.2.1 (g.2.2 111) = (G.2.1 (g.2.2 111)) := by rw [e_25]; exact (frL_35.2.1 (g.2.2 111) trivial)
                  have u_38 : G_23.2.2 111 = some (g.2.2 111) := by rw [e_25]; exact ((frL_35.2.2 111 (by decide)).trans hI.r111)
                  have u_39 : G_23.2.2 112 = some (g.2.2 112) := by rw [e_25]; exact ((frL_35.2.2 112 (by decide)).trans hI.r112)
                  have hH : HT g Ty G_23 H := by rw [← ht, ← eTx_22, eG_23]; exact hB
                  refine lv_aload_n hx hb dX12_rests_75 rfl (lv_at hl 0 rfl) ?_
                  refine lv_iload hx hb dX12_rests_76 (lv_at hl 4 rfl) ?_
                  refine lv_i2l hx hb dX12_rests_78 rfl ?_
                  refine lv_topl (fun u_40 eu_40 => ?_)
                  obtain ⟨_, ⟨rfl, t_42, hk_43⟩, o_c_41⟩ := hH h0 _ k_h0
                  refine va_callv (va_runV (As := [.long u_40]) (rest := []) ⟨hx, hb, hml, hown, hts⟩ (c_X12_tell l g Ty G_23 H.size h0 u_40 k_h0 (by rw [u_32]; exact rg_w rx_24 (by decide) (by decide))) (cwV 1 hts (gwV mw_1506 mw_1508 mw_48 mw_88 mw_1509) rfl rfl rfl hv_X12_tell ⟨Nat.le_of_ble_eq_true rfl, Nat.le_of_ble_eq_true rfl⟩) ⟨PcT_blind, hg_recv hK o_c_41 rfl, PcT_pre hK hH⟩ rfl rfl hl.1 rfl (lv_room (Nat.le_of_ble_eq_true rfl)) dX12_rests_79 ⟨Nat.zero_le _, Nat.zero_le _⟩) hS (fun q _ h => AF.mono hS.1 h) (fun q h => AF.mono hS.1 h) (fun ux_44 t H locs ht hvm hx_44 hB hz hk hS => ?_)
                  obtain ⟨eTx_44, eGx_44⟩ := hx_44
                  obtain ⟨G_45, eG_45⟩ : ∃ z, z = ux_44.2 := ⟨_, rfl⟩
                  rw [← eG_45] at eGx_44
                  obtain ⟨x_46, ex_46⟩ : ∃ z : Int32, z = x_24 + 1 := ⟨_, rfl⟩
                  have e_47 : G_45 = gset G_23 104 x_46 := by rw [ex_46, ← u_32]; exact eGx_44
                  have rx_46 : rgI (2) (2) x_46 := by rw [ex_46]; exact rg_w (rg_add rx_24 rl_1 (by decide) (by decide)) (by decide) (by decide)
                  have fr_48 : FR [104, 105] [] [] G G_45 := FR.n fr_26 e_47 (by decide)
                  have u_49 : G_45.1 102 = (G.1 102) := by rw [e_47]; exact (gs_ne (by decide)).trans u_27
                  have u_50 : G_45.1 113 = (G.1 113) := by rw [e_47]; exact (gs_ne (by decide)).trans u_28
                  have u_51 : G_45.1 122 = (G.1 122) := by rw [e_47]; exact (gs_ne (by decide)).trans u_29
                  have u_52 : G_45.1 133 = (G.1 133) := by rw [e_47]; exact (gs_ne (by decide)).trans u_30
                  have u_53 : G_45.1 137 = (G.1 137) := by rw [e_47]; exact (gs_ne (by decide)).trans u_31
                  have u_54 : G_45.1 104 = x_46 := by rw [e_47]; exact gs_eq
                  have w_55 : G_45.2.1 (g.2.2 100) = (G.2.1 (g.2.2 100)) := by rw [e_47]; exact w_33
                  have w_56 : G_45.2.1 (g.2.2 121) = (G.2.1 (g.2.2 121)) := by rw [e_47]; exact w_34
                  have w_57 : G_45.2.1 (g.2.2 140) = (G.2.1 (g.2.2 140)) := by rw [e_47]; exact w_35
                  have w_58 : G_45.2.1 (g.2.2 141) = (G.2.1 (g.2.2 141)) := by rw [e_47]; exact w_36
                  have w_59 : G_45.2.1 (g.2.2 111) = (G.2.1 (g.2.2 111)) := by rw [e_47]; exact w_37
                  have u_60 : G_45.2.2 111 = some (g.2.2 111) := by rw [e_47]; exact u_38
                  have u_61 : G_45.2.2 112 = some (g.2.2 112) := by rw [e_47]; exact u_39
                  have hH : HT g Ty G_45 H := by rw [← ht, ← eTx_44, eG_45]; exact hB
                  obtain ⟨x_62, ex_62⟩ : ∃ y : Int32, y = y2_35 + 1 := ⟨_, rfl⟩
                  have rx_62 : rgI (1) (1) x_62 := by rw [ex_62]; exact rg_w (rg_add r_16 rl_1 (by decide) (by decide)) (by decide) (by decide)
                  have qx_62 : x_62.toInt = (y2_35 : Int32).toInt + 1 := by rw [ex_62]; exact rg_addE r_16 rl_1 (by decide) (by decide)
                  refine lv_iinc (v := x_62) (lv' := [(2, .int x_62), (0, .ref h0), (1, .int a0), (3, .int y3_26), (4, .int y4_35)]) hx hb dX12_rests_82 hl (k := 2) rfl (by rw [ex_62]; rfl) (by decide) rfl (fun ls hl => ?_)
                  obtain ⟨x_63, ex_63⟩ : ∃ y : Int32, y = y4_35 + 1 := ⟨_, rfl⟩
                  have rx_63 : rgI (1) (10) x_63 := by rw [ex_63]; exact rg_w (rg_add r_4 rl_1 (by decide) (by decide)) (by decide) (by decide)
                  have qx_63 : x_63.toInt = (y4_35 : Int32).toInt + 1 := by rw [ex_63]; exact rg_addE r_4 rl_1 (by decide) (by decide)
                  refine lv_iinc (v := x_63) (lv' := [(4, .int x_63), (2, .int x_62), (0, .ref h0), (1, .int a0), (3, .int y3_26)]) hx hb dX12_rests_85 hl (k := 4) rfl (by rw [ex_63]; rfl) (by decide) rfl (fun ls hl => ?_)
                  refine lv_goto (tgt := 35) hx hb dX12_rests_88 (by decide) ?_
                  exact ih_35 H locs G_45 x_62 x_63 ls (by rw [u_54]; exact rg_w rx_46 (by decide) (by decide)) fr_48 ry1_35 ry3_35 (rg_w rx_63 (by decide) (by decide)) (rs_s hi0_35 ex_62 qx_63 ry3_35 r_4) (Or.inl (rs_n hi0_35 ex_62 ry3_35 r_4)) (by have h1 := qx_63; have h2 := r_4.1; have h3 := r_4.2; have h4 := hm_35; omega) (by rw [ex_63, ex_62]; exact rsI_2 hq_35 c_1 (fun q => c_6 (hx_5.2.trans q)) (fun q => c_11 (hx_10.2.trans q))) (lv_sub hl [2, 3, 1, 4, 0] rfl) hH hS
              · have r_64 : rgI (0) (0) x_10 := rg_w (rg_eq rl_0 c_11) (by decide) (by decide)
                refine lv_goto (tgt := 85) hx hb dX12_rests_62 (by decide) ?_
                obtain ⟨x_65, ex_65⟩ : ∃ y : Int32, y = y4_35 + 1 := ⟨_, rfl⟩
                have rx_65 : rgI (1) (10) x_65 := by rw [ex_65]; exact rg_w (rg_add r_4 rl_1 (by decide) (by decide)) (by decide) (by decide)
                have qx_65 : x_65.toInt = (y4_35 : Int32).toInt + 1 := by rw [ex_65]; exact rg_addE r_4 rl_1 (by decide) (by decide)
                refine lv_iinc (v := x_65) (lv' := [(4, .int x_65), (0, .ref h0), (1, .int a0), (2, .int y2_35), (3, .int y3_26)]) hx hb dX12_rests_85 hl (k := 4) rfl (by rw [ex_65]; rfl) (by decide) rfl (fun ls hl => ?_)
                refine lv_goto (tgt := 35) hx hb dX12_rests_88 (by decide) ?_
                exact ih_35 H locs G_35 y2_35 x_65 ls (rg_w rg104_35 (by decide) (by decide)) frL_35 ry1_35 ry3_35 (rg_w rx_65 (by decide) (by decide)) ⟨hi0_35.1, by have q := qx_65; have q2 := hi0_35.2; omega⟩ hi1_35 (by have h1 := qx_65; have h2 := r_4.1; have h3 := r_4.2; have h4 := hm_35; omega) (by rw [ex_65]; exact rsI_1 hq_35 c_1 (fun q => c_6 (hx_5.2.trans q)) (hx_10.2.symm.trans c_11)) (lv_sub hl [1, 2, 3, 4, 0] rfl) hH hS
      refine lv_iload_n hx hb dX12_rests_26 rfl (lv_at hl 3 rfl) ?_
      refine lv_bipush (v := 9) hx hb dX12_rests_27 (by decide) ?_
      refine lv_icmp_gt (tgt := 97) hx hb dX12_rests_29 (by decide) (fun c_66 => ?_) (fun c_66 => ?_)
      · have r_67 : rgI (10) (10) y3_26 := rg_w (rg_ltR rl_9 ry3_26 c_66) (by decide) (by decide)
        refine lv_iload_n hx hb dX12_rests_97 rfl (lv_at hl 2 rfl) ?_
        exact W.iret hx hb hr (fun t ht hWm => ⟨⟨y2_26, (Ty, G_26), rfl, ⟨rfl, ⟨frL_26, ⟨⟨(by rw [(frL_26.1 102 (by decide))]; exact (rg_w hI.a102 (by decide) (by decide))), (rg_w rg104_26 (by decide) (by decide)), (by rw [(frL_26.1 113 (by decide))]; exact (rg_w hI.a113 (by decide) (by decide))), (by rw [(frL_26.1 122 (by decide))]; exact (rg_w hI.a122 (by decide) (by decide))), (by rw [(frL_26.1 133 (by decide))]; exact (rg_w hI.a133 (by decide) (by decide))), (by rw [(frL_26.1 137 (by decide))]; exact (rg_w hI.a137 (by decide) (by decide))), ((frL_26.2.2 111 (by decide)).trans hI.r111), ((frL_26.2.2 112 (by decide)).trans hI.r112), (by rw [(frL_26.2.1 (g.2.2 100) trivial)]; exact (hI.ti.hi (show Bd ≤ Bd + 1000 by omega))), (hI.un2 (show Bd ≤ Bd + 1000 by omega) (frL_26.2.1 (g.2.2 121) trivial) (frL_26.1 122 (by decide))), (hI.ke2 (show Bd ≤ Bd + 1000 by omega) (frL_26.2.1 (g.2.2 140) trivial) (frL_26.2.1 (g.2.2 141) trivial))⟩, Or.inl ⟨ry1_26, rsO_e hq_26 c_66⟩⟩⟩⟩, by show HT g Ty G_26 t.heap; rw [ht]; exact hH⟩, hS.F ht⟩) hS.2.2 dX12_rests_98
      · have r_68 : rgI (0) (9) y3_26 := rg_w (rg_leL ry3_26 rl_9 (nlt_le c_66)) (by decide) (by decide)
        refine lv_iconst (v := 0) hx hb dX12_rests_32 (by decide) ?_
        refine lv_istore (lv' := [(4, .int 0), (0, .ref h0), (1, .int a0), (2, .int y2_26), (3, .int y3_26)]) hx hb dX12_rests_33 hl (by decide) rfl (fun ls hl => ?_)
        exact L_35 _ H locs G_26 y2_26 0 ls (rg_w rg104_26 (by decide) (by decide)) frL_26 ry1_26 r_68 (rg_w rl_0 (by decide) (by decide)) ⟨hi0_26.1, by have q := hi0_26.2; show _ ≤ _ + (0 : Int); omega⟩ hi1_26 (Nat.lt_succ_self _) rfl (lv_sub hl [1, 2, 3, 4, 0] rfl) hH hS
  refine lv_aload_n hx hb dX12_rests_0 rfl (lv_at hl 0 rfl) ?_
  refine lv_iconst (v := 0) hx hb dX12_rests_1 (by decide) ?_
  obtain ⟨_, ⟨rfl, t_70, hk_71⟩, o_c_69⟩ := hH h0 _ k_h0
  refine hg_put (ty := .int) hx hb hG igX12 tyX12 tyX12_ok nmX12 hown hK hS o_c_69 (AF.of k_h0) rfl 5 (by decide) (hG _ mw_1289) rfl (by decide +kernel) rfl rfl (Nat.le_of_ble_eq_true rfl) dX12_rests_2 (fun H locs o_c_69 hz oq hS => ?_)
  obtain ⟨G_72, eG_72⟩ : ∃ z : Gh, z = gset G 105 0 := ⟨_, rfl⟩
  have hH : HT g Ty G_72 H := by rw [eG_72]; exact HT.putN 105 0 hH k_h0 ⟨rfl, t_70, hk_71⟩ o_c_69 oq (Or.inr (Or.inr (Or.inr (Or.inr (Or.inr ⟨by decide, t_70⟩)))))
  have fr_73 : FR [104, 105] [] [] G G_72 := FR.n FR.rf eG_72 (by decide)
  have u_74 : G_72.1 102 = (G.1 102) := by rw [eG_72]; exact (gs_ne (by decide))
  have u_75 : G_72.1 104 = (G.1 104) := by rw [eG_72]; exact (gs_ne (by decide))
  have u_76 : G_72.1 113 = (G.1 113) := by rw [eG_72]; exact (gs_ne (by decide))
  have u_77 : G_72.1 122 = (G.1 122) := by rw [eG_72]; exact (gs_ne (by decide))
  have u_78 : G_72.1 133 = (G.1 133) := by rw [eG_72]; exact (gs_ne (by decide))
  have u_79 : G_72.1 137 = (G.1 137) := by rw [eG_72]; exact (gs_ne (by decide))
  have u_80 : G_72.1 105 = 0 := by rw [eG_72]; exact gs_eq
  have w_81 : G_72.2.1 (g.2.2 100) = (G.2.1 (g.2.2 100)) := by rw [eG_72]; exact rfl
  have w_82 : G_72.2.1 (g.2.2 121) = (G.2.1 (g.2.2 121)) := by rw [eG_72]; exact rfl
  have w_83 : G_72.2.1 (g.2.2 140) = (G.2.1 (g.2.2 140)) := by rw [eG_72]; exact rfl
  have w_84 : G_72.2.1 (g.2.2 141) = (G.2.1 (g.2.2 141)) := by rw [eG_72]; exact rfl
  have w_85 : G_72.2.1 (g.2.2 111) = (G.2.1 (g.2.2 111)) := by rw [eG_72]; exact rfl
  have u_86 : G_72.2.2 111 = some (g.2.2 111) := by rw [eG_72]; exact hI.r111
  have u_87 : G_72.2.2 112 = some (g.2.2 112) := by rw [eG_72]; exact hI.r112
  clear oq hz
  refine lv_iload_n hx hb dX12_rests_5 rfl (lv_at hl 1 rfl) ?_
  refine lv_iconst (v := 0) hx hb dX12_rests_6 (by decide) ?_
  refine lv_bipush (v := 20) hx hb dX12_rests_7 (by decide) ?_
  refine vp_callSi (W.runS (As := [.int a0, .int 0, .int 20]) (rest := []) ⟨hx, hb, hml, hown, hts⟩ (c_X12_in l g Ty G_72 a0 0 20 ) (cwSx 3 hts hG (gwC mw_1422) mw_88 mw_1420 mw_1421 rfl rfl rfl hd_X12_in ⟨Nat.le_of_ble_eq_true rfl, Nat.le_of_ble_eq_true rfl⟩) ⟨PcH_blind, PcH_pre hK hH⟩ rfl rfl hl.1 rfl (lv_room (Nat.le_of_ble_eq_true rfl)) dX12_rests_9 ⟨Nat.zero_le _, Nat.zero_le _⟩) (fun x_88 hx_88 => ?_)
  have rx_88 : rgI (0) (1) x_88 := hx_88.1
  refine lv_if_ne (tgt := 17) hx hb dX12_rests_12 (by decide) (fun c_89 => ?_) (fun c_89 => ?_)
  · have r_90 : rgI (1) (1) x_88 := rg_w (rg_neL rx_88 rl_0 c_89) (by decide) (by decide)
    have r_91 : rgI (0) (20) a0 := rg_w (in_rng hx_88.2.1 c_89 rl_0 rl_20) (by decide) (by decide)
    refine lv_iconst (v := 0) hx hb dX12_rests_17 (by decide) ?_
    refine lv_istore_n (lv' := [(2, .int 0), (0, .ref h0), (1, .int a0)]) hx hb dX12_rests_18 rfl hl (by decide) rfl (fun ls hl => ?_)
    refine lv_aload_n hx hb dX12_rests_19 rfl (lv_at hl 1 rfl) ?_
    refine lv_iconst (v := 0) hx hb dX12_rests_20 (by decide) ?_
    obtain ⟨_, ⟨rfl, t_93, hk_94⟩, o_c_92⟩ := hH h0 _ k_h0
    refine hg_put (ty := .int) hx hb hG igX12 tyX12 tyX12_ok nmX12 hown hK hS o_c_92 (AF.of k_h0) rfl 4 (by decide) (hG _ mw_1288) rfl (by decide +kernel) rfl rfl (Nat.le_of_ble_eq_true rfl) dX12_rests_21 (fun H locs o_c_92 hz oq hS => ?_)
    obtain ⟨G_95, eG_95⟩ : ∃ z : Gh, z = gset G_72 104 0 := ⟨_, rfl⟩
    have hH : HT g Ty G_95 H := by rw [eG_95]; exact HT.putN 104 0 hH k_h0 ⟨rfl, t_93, hk_94⟩ o_c_92 oq (Or.inr (Or.inr (Or.inr (Or.inr (Or.inr ⟨by decide, t_93⟩)))))
    have fr_96 : FR [104, 105] [] [] G G_95 := FR.n fr_73 eG_95 (by decide)
    have u_97 : G_95.1 102 = (G.1 102) := by rw [eG_95]; exact (gs_ne (by decide)).trans u_74
    have u_98 : G_95.1 113 = (G.1 113) := by rw [eG_95]; exact (gs_ne (by decide)).trans u_76
    have u_99 : G_95.1 122 = (G.1 122) := by rw [eG_95]; exact (gs_ne (by decide)).trans u_77
    have u_100 : G_95.1 133 = (G.1 133) := by rw [eG_95]; exact (gs_ne (by decide)).trans u_78
    have u_101 : G_95.1 137 = (G.1 137) := by rw [eG_95]; exact (gs_ne (by decide)).trans u_79
    have u_102 : G_95.1 105 = 0 := by rw [eG_95]; exact (gs_ne (by decide)).trans u_80
    have u_103 : G_95.1 104 = 0 := by rw [eG_95]; exact gs_eq
    have w_104 : G_95.2.1 (g.2.2 100) = (G.2.1 (g.2.2 100)) := by rw [eG_95]; exact w_81
    have w_105 : G_95.2.1 (g.2.2 121) = (G.2.1 (g.2.2 121)) := by rw [eG_95]; exact w_82
    have w_106 : G_95.2.1 (g.2.2 140) = (G.2.1 (g.2.2 140)) := by rw [eG_95]; exact w_83
    have w_107 : G_95.2.1 (g.2.2 141) = (G.2.1 (g.2.2 141)) := by rw [eG_95]; exact w_84
    have w_108 : G_95.2.1 (g.2.2 111) = (G.2.1 (g.2.2 111)) := by rw [eG_95]; exact w_85
    have u_109 : G_95.2.2 111 = some (g.2.2 111) := by rw [eG_95]; exact u_86
    have u_110 : G_95.2.2 112 = some (g.2.2 112) := by rw [eG_95]; exact u_87
    clear oq hz
    refine lv_iconst (v := 0) hx hb dX12_rests_24 (by decide) ?_
    refine lv_istore_n (lv' := [(3, .int 0), (2, .int 0), (0, .ref h0), (1, .int a0)]) hx hb dX12_rests_25 rfl hl (by decide) rfl (fun ls hl => ?_)
    exact L_26 _ H locs G_95 0 0 ls (by rw [u_103]; exact rg_w rl_0 (by decide) (by decide)) fr_96 r_91 (rg_w rl_0 (by decide) (by decide)) ⟨by decide, by decide⟩ (Or.inr u_103) (Nat.lt_succ_self _) rfl (lv_sub hl [2, 3, 1, 0] rfl) hH hS
  · have r_111 : rgI (0) (0) x_88 := rg_w (rg_eq rl_0 c_89) (by decide) (by decide)
    refine lv_iconst (v := (-1)) hx hb dX12_rests_15 (by decide) ?_
    exact W.iret hx hb hr (fun t ht hWm => ⟨⟨(-1), (Ty, G_72), rfl, ⟨rfl, ⟨fr_73, ⟨⟨(by rw [u_74]; exact (rg_w hI.a102 (by decide) (by decide))), (by rw [u_75]; exact (rg_w hI.a104 (by decide) (by decide))), (by rw [u_76]; exact (rg_w hI.a113 (by decide) (by decide))), (by rw [u_77]; exact (rg_w hI.a122 (by decide) (by decide))), (by rw [u_78]; exact (rg_w hI.a133 (by decide) (by decide))), (by rw [u_79]; exact (rg_w hI.a137 (by decide) (by decide))), u_86, u_87, (by rw [w_81]; exact (hI.ti.hi (show Bd ≤ Bd + 1000 by omega))), (hI.un2 (show Bd ≤ Bd + 1000 by omega) w_82 u_77), (hI.ke2 (show Bd ≤ Bd + 1000 by omega) w_83 w_84)⟩, Or.inr ⟨in_no20 (hx_88.2.2.symm.trans c_89), rfl⟩⟩⟩⟩, by show HT g Ty G_72 t.heap; rw [ht]; exact hH⟩, hS.F ht⟩) hS.2.2 dX12_rests_16
