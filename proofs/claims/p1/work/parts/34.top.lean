set_option maxHeartbeats 4000000 in
set_option maxRecDepth 100000 in
theorem c_X11_asWide_o (l : Launch) (g : Gx) (Ty : TyM) (G : Gh) (a0 : Int32) (a1 : Int32) : Met l yX11_asWide (wsG yX11_asWide cX11_asWide 2 (some .int)) ({ frames := 0, cells := 0, slots := 0, locals := 0 }) (PcH g Ty G [.int a0, .int a1]) (vp_Si (fun r => True)) 0 0 (fun _ => False) := by
  refine Met.ofW (cc := cX11_asWide) (maxL := 2) (ret := (some .int)) (by decide) rfl ?_
  intro p e s m args below meth c s₁ B hml hv
  obtain ⟨rfl, hK, hH⟩ := hv
  have hx := B.exec
  have hb := B.bytes
  have hr := B.returns
  have hts := atoms_spec (ws := (wsG yX11_asWide cX11_asWide 2 (some .int))) B.pre
  have hG : ∀ w ∈ GW, w.before ([.int a0, .int a1] : List Value).toArray s = true := fun w h => hts w (List.mem_cons_of_mem _ h)
  have hown : s.vm.findClass RX11 = some m.cls := findClass_of_methodNamed B.named
  have hlocks := B.notSynchronized
  have hl := lv_entry [.int a0, .int a1] (n := 2) (Nat.le_of_ble_eq_true rfl)
  rw [lg_entry_eq]
  generalize (lg_sl [.int a0, .int a1] ++ List.replicate (2 - (lg_sl [.int a0, .int a1]).length) Slot.unset).toArray = ls at hl ⊢
  have hl : lv_has ls 2 [(0, .int a0), (1, .int a1)] := hl
  refine lv_iload_n hx hb dX11_asWide_0 rfl (lv_at hl 0 rfl) ?_
  refine lv_if_ne (tgt := 9) hx hb dX11_asWide_1 (by decide) (fun c_1 => ?_) (fun c_1 => ?_)
  · refine lv_iload_n hx hb dX11_asWide_9 rfl (lv_at hl 0 rfl) ?_
    refine lv_iconst (v := 1) hx hb dX11_asWide_10 (by decide) ?_
    refine lv_icmp_ne (tgt := 19) hx hb dX11_asWide_11 (by decide) (fun c_2 => ?_) (fun c_2 => ?_)
    · refine lv_iload_n hx hb dX11_asWide_19 rfl (lv_at hl 1 rfl) ?_
      exact W.iret hx hb hr (fun t ht hW => ⟨a1, rfl, trivial, ht⟩) (fun q h => by cases h) dX11_asWide_20
    · have r_3 : rgI (1) (1) a0 := rg_w (rg_eq rl_1 c_2) (by decide) (by decide)
      refine lv_iload_n hx hb dX11_asWide_14 rfl (lv_at hl 1 rfl) ?_
      refine lv_i2s hx hb dX11_asWide_15 rfl ?_
      refine lv_topi (fun x_4 ex_4 => ?_)
      refine lv_goto (tgt := 20) hx hb dX11_asWide_16 (by decide) ?_
      exact W.iret hx hb hr (fun t ht hW => ⟨x_4, rfl, trivial, ht⟩) (fun q h => by cases h) dX11_asWide_20
  · have r_5 : rgI (0) (0) a0 := rg_w (rg_eq rl_0 c_1) (by decide) (by decide)
    refine lv_iload_n hx hb dX11_asWide_4 rfl (lv_at hl 1 rfl) ?_
    refine lv_i2b hx hb dX11_asWide_5 rfl ?_
    refine lv_topi (fun x_6 ex_6 => ?_)
    refine lv_goto (tgt := 20) hx hb dX11_asWide_6 (by decide) ?_
    exact W.iret hx hb hr (fun t ht hW => ⟨x_6, rfl, trivial, ht⟩) (fun q h => by cases h) dX11_asWide_20

set_option maxHeartbeats 4000000 in
set_option maxRecDepth 100000 in
theorem c_X11_gain_o (l : Launch) (g : Gx) (Ty : TyM) (G : Gh) (a0 : Int32) (a1 : Int32) (a2 : Int32) : Met l yX11_gain (wsG yX11_gain cX11_gain 3 (some .int)) ({ frames := 0, cells := 0, slots := 0, locals := 0 }) (PcH g Ty G [.int a0, .int a1, .int a2]) (vp_Si (fun r => True)) 0 0 (fun _ => False) := by
  refine Met.ofW (cc := cX11_gain) (maxL := 3) (ret := (some .int)) (by decide) rfl ?_
  intro p e s m args below meth c s₁ B hml hv
  obtain ⟨rfl, hK, hH⟩ := hv
  have hx := B.exec
  have hb := B.bytes
  have hr := B.returns
  have hts := atoms_spec (ws := (wsG yX11_gain cX11_gain 3 (some .int))) B.pre
  have hG : ∀ w ∈ GW, w.before ([.int a0, .int a1, .int a2] : List Value).toArray s = true := fun w h => hts w (List.mem_cons_of_mem _ h)
  have hown : s.vm.findClass RX11 = some m.cls := findClass_of_methodNamed B.named
  have hlocks := B.notSynchronized
  have hl := lv_entry [.int a0, .int a1, .int a2] (n := 3) (Nat.le_of_ble_eq_true rfl)
  rw [lg_entry_eq]
  generalize (lg_sl [.int a0, .int a1, .int a2] ++ List.replicate (3 - (lg_sl [.int a0, .int a1, .int a2]).length) Slot.unset).toArray = ls at hl ⊢
  have hl : lv_has ls 3 [(0, .int a0), (1, .int a1), (2, .int a2)] := hl
  refine lv_iload_n hx hb dX11_gain_0 rfl (lv_at hl 1 rfl) ?_
  refine lv_iload_n hx hb dX11_gain_1 rfl (lv_at hl 2 rfl) ?_
  refine lv_icmp_le (tgt := 9) hx hb dX11_gain_2 (by decide) (fun c_1 => ?_) (fun c_1 => ?_)
  · refine lv_iload_n hx hb dX11_gain_9 rfl (lv_at hl 1 rfl) ?_
    refine lv_iload_n hx hb dX11_gain_10 rfl (lv_at hl 2 rfl) ?_
    refine lv_icmp_ge (tgt := 24) hx hb dX11_gain_11 (by decide) (fun c_2 => ?_) (fun c_2 => ?_)
    · refine lv_iload_n hx hb dX11_gain_24 rfl (lv_at hl 0 rfl) ?_
      refine lv_iconst (v := 3) hx hb dX11_gain_25 (by decide) ?_
      refine lv_idiv hx hb dX11_gain_26 (by decide) ?_
      refine lv_topi (fun x_3 ex_3 => ?_)
      refine lv_iload_n hx hb dX11_gain_27 rfl (lv_at hl 1 rfl) ?_
      refine lv_isub hx hb dX11_gain_28 ?_
      refine lv_topi (fun x_4 ex_4 => ?_)
      exact W.iret hx hb hr (fun t ht hW => ⟨x_4, rfl, trivial, ht⟩) (fun q h => by cases h) dX11_gain_29
    · have r_5 : rgI (-2147483648) (2147483646) a1 := rg_w (rg_ltL (rg_top a1) (rg_top a2) (nle_lt c_2)) (by decide) (by decide)
      have r_6 : rgI (-2147483647) (2147483647) a2 := rg_w (rg_ltR (rg_top a1) (rg_top a2) (nle_lt c_2)) (by decide) (by decide)
      refine lv_iload_n hx hb dX11_gain_14 rfl (lv_at hl 0 rfl) ?_
      refine lv_iconst (v := 2) hx hb dX11_gain_15 (by decide) ?_
      refine lv_idiv hx hb dX11_gain_16 (by decide) ?_
      refine lv_topi (fun x_7 ex_7 => ?_)
      refine lv_iconst (v := 2) hx hb dX11_gain_17 (by decide) ?_
      refine lv_iload_n hx hb dX11_gain_18 rfl (lv_at hl 1 rfl) ?_
      refine lv_imul hx hb dX11_gain_19 ?_
      refine lv_topi (fun x_8 ex_8 => ?_)
      refine lv_isub hx hb dX11_gain_20 ?_
      refine lv_topi (fun x_9 ex_9 => ?_)
      refine lv_goto (tgt := 29) hx hb dX11_gain_21 (by decide) ?_
      exact W.iret hx hb hr (fun t ht hW => ⟨x_9, rfl, trivial, ht⟩) (fun q h => by cases h) dX11_gain_29
  · have r_10 : rgI (-2147483648) (2147483646) a2 := rg_w (rg_ltL (rg_top a2) (rg_top a1) (nle_lt c_1)) (by decide) (by decide)
    have r_11 : rgI (-2147483647) (2147483647) a1 := rg_w (rg_ltR (rg_top a2) (rg_top a1) (nle_lt c_1)) (by decide) (by decide)
    refine lv_iload_n hx hb dX11_gain_5 rfl (lv_at hl 0 rfl) ?_
    refine lv_iload_n hx hb dX11_gain_6 rfl (lv_at hl 1 rfl) ?_
    refine lv_isub hx hb dX11_gain_7 ?_
    refine lv_topi (fun x_12 ex_12 => ?_)
    exact W.iret hx hb hr (fun t ht hW => ⟨x_12, rfl, trivial, ht⟩) (fun q h => by cases h) dX11_gain_8

set_option maxHeartbeats 4000000 in
set_option maxRecDepth 100000 in
theorem c_X11_isBest_o (l : Launch) (g : Gx) (Ty : TyM) (G : Gh) (a0 : Int32) (a1 : Int32) (a2 : Int32) : Met l yX11_isBest (wsG yX11_isBest cX11_isBest 4 (some .boolean)) ({ frames := 1, cells := 0, slots := 0, locals := 22 }) (PcH g Ty G [.int a0, .int a1, .int a2]) (vp_Si (fun r => rgI (0) (1) r)) 0 0 (fun _ => False) := by
  refine Met.ofW (cc := cX11_isBest) (maxL := 4) (ret := (some .boolean)) (by decide) rfl ?_
  intro p e s m args below meth c s₁ B hml hv
  obtain ⟨rfl, hK, hH⟩ := hv
  have hx := B.exec
  have hb := B.bytes
  have hr := B.returns
  have hts := atoms_spec (ws := (wsG yX11_isBest cX11_isBest 4 (some .boolean))) B.pre
  have hG : ∀ w ∈ GW, w.before ([.int a0, .int a1, .int a2] : List Value).toArray s = true := fun w h => hts w (List.mem_cons_of_mem _ h)
  have hown : s.vm.findClass RX11 = some m.cls := findClass_of_methodNamed B.named
  have hlocks := B.notSynchronized
  have hl := lv_entry [.int a0, .int a1, .int a2] (n := 4) (Nat.le_of_ble_eq_true rfl)
  rw [lg_entry_eq]
  generalize (lg_sl [.int a0, .int a1, .int a2] ++ List.replicate (4 - (lg_sl [.int a0, .int a1, .int a2]).length) Slot.unset).toArray = ls at hl ⊢
  have hl : lv_has ls 4 [(0, .int a0), (1, .int a1), (2, .int a2)] := hl
  have L_2 : ∀ (n : Nat) (y3_2 : Int32) (ls : Array Slot), rgI (0) (10) y3_2 → (10 - (y3_2).toInt).toNat < n → lv_has ls 4 [(0, .int a0), (1, .int a1), (2, .int a2), (3, .int y3_2)] → Wm p l e (wsG yX11_isBest cX11_isBest 4 (some .boolean)) ({ frames := 1, cells := 0, slots := 0, locals := 22 }) s m [.int a0, .int a1, .int a2] below meth c s.heap [] (0) (0) (vp_Si (fun r => rgI (0) (1) r)) 0 0 (fun _ => False) (F0 m 2 ls []) := by
    intro n
    induction n with
    | zero => intro y3_2 ls ry3_2 hm; exact absurd hm (Nat.not_lt_zero _)
    | succ n ih_2 =>
      intro y3_2 ls ry3_2 hm_2 hl
      refine lv_iload_n hx hb dX11_isBest_2 rfl (lv_at hl 3 rfl) ?_
      refine lv_bipush (v := 9) hx hb dX11_isBest_3 (by decide) ?_
      refine lv_icmp_gt (tgt := 31) hx hb dX11_isBest_5 (by decide) (fun c_1 => ?_) (fun c_1 => ?_)
      · have r_2 : rgI (10) (10) y3_2 := rg_w (rg_ltR rl_9 ry3_2 c_1) (by decide) (by decide)
        refine lv_iconst (v := 1) hx hb dX11_isBest_31 (by decide) ?_
        exact W.zret hx hb hr rfl (fun t ht hW => ⟨1, rfl, rg_w rl_1 (by decide) (by decide), ht⟩) (fun q h => by cases h) dX11_isBest_32
      · have r_3 : rgI (0) (9) y3_2 := rg_w (rg_leL ry3_2 rl_9 (nlt_le c_1)) (by decide) (by decide)
        refine lv_iload_n hx hb dX11_isBest_8 rfl (lv_at hl 0 rfl) ?_
        refine lv_iload_n hx hb dX11_isBest_9 rfl (lv_at hl 3 rfl) ?_
        refine lv_iload_n hx hb dX11_isBest_10 rfl (lv_at hl 2 rfl) ?_
        refine vp_callSi (W.runS (As := [.int a0, .int y3_2, .int a2]) (rest := []) ⟨hx, hb, hml, hown, hts⟩ (c_X11_gain_o l g Ty G a0 y3_2 a2 ) (cwSx 3 hts hG (gwC mw_1140) mw_76 mw_1138 mw_1139 rfl rfl rfl hd_X11_gain ⟨Nat.le_of_ble_eq_true rfl, Nat.le_of_ble_eq_true rfl⟩) ⟨PcH_blind, PcH_pre hK hH⟩ rfl rfl hl.1 rfl (lv_room (Nat.le_of_ble_eq_true rfl)) dX11_isBest_11 ⟨Nat.zero_le _, Nat.zero_le _⟩) (fun x_4 hx_4 => ?_)
        refine lv_iload_n hx hb dX11_isBest_14 rfl (lv_at hl 0 rfl) ?_
        refine lv_iload_n hx hb dX11_isBest_15 rfl (lv_at hl 1 rfl) ?_
        refine lv_iload_n hx hb dX11_isBest_16 rfl (lv_at hl 2 rfl) ?_
        refine vp_callSi (W.runS (As := [.int a0, .int a1, .int a2]) (rest := [.int x_4]) ⟨hx, hb, hml, hown, hts⟩ (c_X11_gain_o l g Ty G a0 a1 a2 ) (cwSx 3 hts hG (gwC mw_1140) mw_76 mw_1138 mw_1139 rfl rfl rfl hd_X11_gain ⟨Nat.le_of_ble_eq_true rfl, Nat.le_of_ble_eq_true rfl⟩) ⟨PcH_blind, PcH_pre hK hH⟩ rfl rfl hl.1 rfl (lv_room (Nat.le_of_ble_eq_true rfl)) dX11_isBest_17 ⟨Nat.zero_le _, Nat.zero_le _⟩) (fun x_5 hx_5 => ?_)
        refine lv_icmp_le (tgt := 25) hx hb dX11_isBest_20 (by decide) (fun c_6 => ?_) (fun c_6 => ?_)
        · obtain ⟨x_7, ex_7⟩ : ∃ y : Int32, y = y3_2 + 1 := ⟨_, rfl⟩
          have rx_7 : rgI (1) (10) x_7 := by rw [ex_7]; exact rg_w (rg_add r_3 rl_1 (by decide) (by decide)) (by decide) (by decide)
          have qx_7 : x_7.toInt = (y3_2 : Int32).toInt + 1 := by rw [ex_7]; exact rg_addE r_3 rl_1 (by decide) (by decide)
          refine lv_iinc (v := x_7) (lv' := [(3, .int x_7), (0, .int a0), (1, .int a1), (2, .int a2)]) hx hb dX11_isBest_25 hl (k := 3) rfl (by rw [ex_7]; rfl) (by decide) rfl (fun ls hl => ?_)
          refine lv_goto (tgt := 2) hx hb dX11_isBest_28 (by decide) ?_
          exact ih_2 x_7 ls (rg_w rx_7 (by decide) (by decide)) (by have h1 := qx_7; have h2 := r_3.1; have h3 := r_3.2; have h4 := hm_2; omega) (lv_sub hl [1, 2, 3, 0] rfl)
        · have r_8 : rgI (-2147483648) (2147483646) x_5 := rg_w (rg_ltL (rg_top x_5) (rg_top x_4) (nle_lt c_6)) (by decide) (by decide)
          have r_9 : rgI (-2147483647) (2147483647) x_4 := rg_w (rg_ltR (rg_top x_5) (rg_top x_4) (nle_lt c_6)) (by decide) (by decide)
          refine lv_iconst (v := 0) hx hb dX11_isBest_23 (by decide) ?_
          exact W.zret hx hb hr rfl (fun t ht hW => ⟨0, rfl, rg_w rl_0 (by decide) (by decide), ht⟩) (fun q h => by cases h) dX11_isBest_24
  refine lv_iconst (v := 0) hx hb dX11_isBest_0 (by decide) ?_
  refine lv_istore_n (lv' := [(3, .int 0), (0, .int a0), (1, .int a1), (2, .int a2)]) hx hb dX11_isBest_1 rfl hl (by decide) rfl (fun ls hl => ?_)
  exact L_2 _ 0 ls (rg_w rl_0 (by decide) (by decide)) (Nat.lt_succ_self _) (lv_sub hl [1, 2, 3, 0] rfl)
