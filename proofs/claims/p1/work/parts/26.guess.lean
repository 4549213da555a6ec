set_option maxHeartbeats 4000000 in
set_option maxRecDepth 100000 in
theorem c_J13_bitCount_95d88 (l : Launch) (g : Gx) (Ty : TyM) (G : Gh) (j0 : Int64) : Met l yJ13_bitCount_95d88 (wsG yJ13_bitCount_95d88 cJ13_bitCount_95d88 2 (some .int)) ({ frames := 0, cells := 0, slots := 0, locals := 0 }) (PcH g Ty G [.long j0]) (vp_Si (fun r => True)) 0 0 (fun _ => False) := by
  refine Met.ofW (cc := cJ13_bitCount_95d88) (maxL := 2) (ret := (some .int)) (by decide) rfl ?_
  intro p e s m args below meth c s₁ B hml hv
  obtain ⟨rfl, hK, hH⟩ := hv
  have hx := B.exec
  have hb := B.bytes
  have hr := B.returns
  have hts := atoms_spec (ws := (wsG yJ13_bitCount_95d88 cJ13_bitCount_95d88 2 (some .int))) B.pre
  have hG : ∀ w ∈ GW, w.before ([.long j0] : List Value).toArray s = true := fun w h => hts w (List.mem_cons_of_mem _ h)
  have hown : s.vm.findClass "java/lang/Long" = some m.cls := findClass_of_methodNamed B.named
  have hlocks := B.notSynchronized
  have hl := lv_entry [.long j0] (n := 2) (Nat.le_of_ble_eq_true rfl)
  rw [lg_entry_eq]
  generalize (lg_sl [.long j0] ++ List.replicate (2 - (lg_sl [.long j0]).length) Slot.unset).toArray = ls at hl ⊢
  have hl : lv_has ls 2 [(0, .long j0)] := hl
  refine lv_lload_n hx hb dJ13_bitCount_95d88_0 rfl (lv_at hl 0 rfl) ?_
  refine lv_lload_n hx hb dJ13_bitCount_95d88_1 rfl (lv_at hl 0 rfl) ?_
  refine lv_iconst (v := 1) hx hb dJ13_bitCount_95d88_2 (by decide) ?_
  refine lv_lushr hx hb dJ13_bitCount_95d88_3 rfl ?_
  refine lv_topl (fun u_1 eu_1 => ?_)
  refine lv_ldc2 (v := 6148914691236517205) hx hb hown (hG _ mw_1093) dJ13_bitCount_95d88_4 ?_
  refine lv_land hx hb dJ13_bitCount_95d88_7 ?_
  refine lv_topl (fun u_2 eu_2 => ?_)
  refine lv_lsub hx hb dJ13_bitCount_95d88_8 ?_
  refine lv_topl (fun u_3 eu_3 => ?_)
  refine lv_lstore_n (lv' := [(0, .long u_3)]) hx hb dJ13_bitCount_95d88_9 rfl hl (by decide) rfl (fun ls hl => ?_)
  refine lv_lload_n hx hb dJ13_bitCount_95d88_10 rfl (lv_at hl 0 rfl) ?_
  refine lv_ldc2 (v := 3689348814741910323) hx hb hown (hG _ mw_1094) dJ13_bitCount_95d88_11 ?_
  refine lv_land hx hb dJ13_bitCount_95d88_14 ?_
  refine lv_topl (fun u_4 eu_4 => ?_)
  refine lv_lload_n hx hb dJ13_bitCount_95d88_15 rfl (lv_at hl 0 rfl) ?_
  refine lv_iconst (v := 2) hx hb dJ13_bitCount_95d88_16 (by decide) ?_
  refine lv_lushr hx hb dJ13_bitCount_95d88_17 rfl ?_
  refine lv_topl (fun u_5 eu_5 => ?_)
  refine lv_ldc2 (v := 3689348814741910323) hx hb hown (hG _ mw_1094) dJ13_bitCount_95d88_18 ?_
  refine lv_land hx hb dJ13_bitCount_95d88_21 ?_
  refine lv_topl (fun u_6 eu_6 => ?_)
  refine lv_ladd hx hb dJ13_bitCount_95d88_22 ?_
  refine lv_topl (fun u_7 eu_7 => ?_)
  refine lv_lstore_n (lv' := [(0, .long u_7)]) hx hb dJ13_bitCount_95d88_23 rfl hl (by decide) rfl (fun ls hl => ?_)
  refine lv_lload_n hx hb dJ13_bitCount_95d88_24 rfl (lv_at hl 0 rfl) ?_
  refine lv_lload_n hx hb dJ13_bitCount_95d88_25 rfl (lv_at hl 0 rfl) ?_
  refine lv_iconst (v := 4) hx hb dJ13_bitCount_95d88_26 (by decide) ?_
  refine lv_lushr hx hb dJ13_bitCount_95d88_27 rfl ?_
  refine lv_topl (fun u_8 eu_8 => ?_)
  refine lv_ladd hx hb dJ13_bitCount_95d88_28 ?_
  refine lv_topl (fun u_9 eu_9 => ?_)
  refine lv_ldc2 (v := 1085102592571150095) hx hb hown (hG _ mw_1095) dJ13_bitCount_95d88_29 ?_
  refine lv_land hx hb dJ13_bitCount_95d88_32 ?_
  refine lv_topl (fun u_10 eu_10 => ?_)
  refine lv_lstore_n (lv' := [(0, .long u_10)]) hx hb dJ13_bitCount_95d88_33 rfl hl (by decide) rfl (fun ls hl => ?_)
  refine lv_lload_n hx hb dJ13_bitCount_95d88_34 rfl (lv_at hl 0 rfl) ?_
  refine lv_lload_n hx hb dJ13_bitCount_95d88_35 rfl (lv_at hl 0 rfl) ?_
  refine lv_bipush (v := 8) hx hb dJ13_bitCount_95d88_36 (by decide) ?_
  refine lv_lushr hx hb dJ13_bitCount_95d88_38 rfl ?_
  refine lv_topl (fun u_11 eu_11 => ?_)
  refine lv_ladd hx hb dJ13_bitCount_95d88_39 ?_
  refine lv_topl (fun u_12 eu_12 => ?_)
  refine lv_lstore_n (lv' := [(0, .long u_12)]) hx hb dJ13_bitCount_95d88_40 rfl hl (by decide) rfl (fun ls hl => ?_)
  refine lv_lload_n hx hb dJ13_bitCount_95d88_41 rfl (lv_at hl 0 rfl) ?_
  refine lv_lload_n hx hb dJ13_bitCount_95d88_42 rfl (lv_at hl 0 rfl) ?_
  refine lv_bipush (v := 16) hx hb dJ13_bitCount_95d88_43 (by decide) ?_
  refine lv_lushr hx hb dJ13_bitCount_95d88_45 rfl ?_
  refine lv_topl (fun u_13 eu_13 => ?_)
  refine lv_ladd hx hb dJ13_bitCount_95d88_46 ?_
  refine lv_topl (fun u_14 eu_14 => ?_)
  refine lv_lstore_n (lv' := [(0, .long u_14)]) hx hb dJ13_bitCount_95d88_47 rfl hl (by decide) rfl (fun ls hl => ?_)
  refine lv_lload_n hx hb dJ13_bitCount_95d88_48 rfl (lv_at hl 0 rfl) ?_
  refine lv_lload_n hx hb dJ13_bitCount_95d88_49 rfl (lv_at hl 0 rfl) ?_
  refine lv_bipush (v := 32) hx hb dJ13_bitCount_95d88_50 (by decide) ?_
  refine lv_lushr hx hb dJ13_bitCount_95d88_52 rfl ?_
  refine lv_topl (fun u_15 eu_15 => ?_)
  refine lv_ladd hx hb dJ13_bitCount_95d88_53 ?_
  refine lv_topl (fun u_16 eu_16 => ?_)
  refine lv_lstore_n (lv' := [(0, .long u_16)]) hx hb dJ13_bitCount_95d88_54 rfl hl (by decide) rfl (fun ls hl => ?_)
  refine lv_lload_n hx hb dJ13_bitCount_95d88_55 rfl (lv_at hl 0 rfl) ?_
  refine lv_l2i hx hb dJ13_bitCount_95d88_56 rfl ?_
  refine lv_topi (fun x_17 ex_17 => ?_)
  refine lv_bipush (v := 127) hx hb dJ13_bitCount_95d88_57 (by decide) ?_
  refine lv_iand hx hb dJ13_bitCount_95d88_59 ?_
  refine lv_topi (fun x_18 ex_18 => ?_)
  exact W.iret hx hb hr (fun t ht hW => ⟨x_18, rfl, trivial, ht⟩) (fun q h => by cases h) dJ13_bitCount_95d88_60

set_option maxHeartbeats 4000000 in
set_option maxRecDepth 100000 in
theorem c_X5_farthest (l : Launch) (g : Gx) (Ty : TyM) (G : Gh) (a0 : Int32) : Met l yX5_farthest (wsG yX5_farthest cX5_farthest 1 (some .int)) ({ frames := 0, cells := 0, slots := 0, locals := 0 }) (PcH g Ty G [.int a0]) (vp_Si (fun r => True)) 0 0 (fun _ => False) := by
  refine Met.ofW (cc := cX5_farthest) (maxL := 1) (ret := (some .int)) (by decide) rfl ?_
  intro p e s m args below meth c s₁ B hml hv
  obtain ⟨rfl, hK, hH⟩ := hv
  have hx := B.exec
  have hb := B.bytes
  have hr := B.returns
  have hts := atoms_spec (ws := (wsG yX5_farthest cX5_farthest 1 (some .int))) B.pre
  have hG : ∀ w ∈ GW, w.before ([.int a0] : List Value).toArray s = true := fun w h => hts w (List.mem_cons_of_mem _ h)
  have hown : s.vm.findClass RX5 = some m.cls := findClass_of_methodNamed B.named
  have hlocks := B.notSynchronized
  have hl := lv_entry [.int a0] (n := 1) (Nat.le_of_ble_eq_true rfl)
  rw [lg_entry_eq]
  generalize (lg_sl [.int a0] ++ List.replicate (1 - (lg_sl [.int a0]).length) Slot.unset).toArray = ls at hl ⊢
  have hl : lv_has ls 1 [(0, .int a0)] := hl
  refine lv_iload_n hx hb dX5_farthest_0 rfl (lv_at hl 0 rfl) ?_
  refine lv_iconst (v := 5) hx hb dX5_farthest_1 (by decide) ?_
  refine lv_idiv hx hb dX5_farthest_2 (by decide) ?_
  refine lv_topi (fun x_1 ex_1 => ?_)
  exact W.iret hx hb hr (fun t ht hW => ⟨x_1, rfl, trivial, ht⟩) (fun q h => by cases h) dX5_farthest_3

set_option maxHeartbeats 4000000 in
set_option maxRecDepth 100000 in
theorem c_X5_fewest (l : Launch) (g : Gx) (Ty : TyM) (G : Gh) (a0 : Int32) : Met l yX5_fewest (wsG yX5_fewest cX5_fewest 1 (some .int)) ({ frames := 0, cells := 0, slots := 0, locals := 0 }) (PcH g Ty G [.int a0]) (vp_Si (fun r => True)) 0 0 (fun _ => False) := by
  refine Met.ofW (cc := cX5_fewest) (maxL := 1) (ret := (some .int)) (by decide) rfl ?_
  intro p e s m args below meth c s₁ B hml hv
  obtain ⟨rfl, hK, hH⟩ := hv
  have hx := B.exec
  have hb := B.bytes
  have hr := B.returns
  have hts := atoms_spec (ws := (wsG yX5_fewest cX5_fewest 1 (some .int))) B.pre
  have hG : ∀ w ∈ GW, w.before ([.int a0] : List Value).toArray s = true := fun w h => hts w (List.mem_cons_of_mem _ h)
  have hown : s.vm.findClass RX5 = some m.cls := findClass_of_methodNamed B.named
  have hlocks := B.notSynchronized
  have hl := lv_entry [.int a0] (n := 1) (Nat.le_of_ble_eq_true rfl)
  rw [lg_entry_eq]
  generalize (lg_sl [.int a0] ++ List.replicate (1 - (lg_sl [.int a0]).length) Slot.unset).toArray = ls at hl ⊢
  have hl : lv_has ls 1 [(0, .int a0)] := hl
  refine lv_iload_n hx hb dX5_fewest_0 rfl (lv_at hl 0 rfl) ?_
  refine lv_iconst (v := 5) hx hb dX5_fewest_1 (by decide) ?_
  refine lv_irem hx hb dX5_fewest_2 (by decide) ?_
  refine lv_topi (fun x_1 ex_1 => ?_)
  exact W.iret hx hb hr (fun t ht hW => ⟨x_1, rfl, trivial, ht⟩) (fun q h => by cases h) dX5_fewest_3

set_option maxHeartbeats 4000000 in
set_option maxRecDepth 100000 in
theorem c_X5_bringing (l : Launch) (g : Gx) (Ty : TyM) (G : Gh) (a0 : Int32) (a1 : Int32) : Met l yX5_bringing (wsG yX5_bringing cX5_bringing 5 (some .long)) ({ frames := 1, cells := 0, slots := 0, locals := 20 }) (PcH g Ty G [.int a0, .int a1]) (vp_Sl (fun _ => True)) 0 0 (fun _ => False) := by
  refine Met.ofW (cc := cX5_bringing) (maxL := 5) (ret := (some .long)) (by decide) rfl ?_
  intro p e s m args below meth c s₁ B hml hv
  obtain ⟨rfl, hK, hH⟩ := hv
  have hx := B.exec
  have hb := B.bytes
  have hr := B.returns
  have hts := atoms_spec (ws := (wsG yX5_bringing cX5_bringing 5 (some .long))) B.pre
  have hG : ∀ w ∈ GW, w.before ([.int a0, .int a1] : List Value).toArray s = true := fun w h => hts w (List.mem_cons_of_mem _ h)
  have hown : s.vm.findClass RX5 = some m.cls := findClass_of_methodNamed B.named
  have hlocks := B.notSynchronized
  have hl := lv_entry [.int a0, .int a1] (n := 5) (Nat.le_of_ble_eq_true rfl)
  rw [lg_entry_eq]
  generalize (lg_sl [.int a0, .int a1] ++ List.replicate (5 - (lg_sl [.int a0, .int a1]).length) Slot.unset).toArray = ls at hl ⊢
  have hl : lv_has ls 5 [(0, .int a0), (1, .int a1)] := hl
  have L_5 : ∀ (n : Nat) (y2_5 : Int64) (y4_5 : Int32) (ls : Array Slot), rgI (0) (35) y4_5 → (35 - (y4_5).toInt).toNat < n → lv_has ls 5 [(0, .int a0), (1, .int a1), (2, .long y2_5), (4, .int y4_5)] → Wm p l e (wsG yX5_bringing cX5_bringing 5 (some .long)) ({ frames := 1, cells := 0, slots := 0, locals := 20 }) s m [.int a0, .int a1] below meth c s.heap [] (0) (0) (vp_Sl (fun _ => True)) 0 0 (fun _ => False) (F0 m 5 ls []) := by
    intro n
    induction n with
    | zero => intro y2_5 y4_5 ls ry4_5 hm; exact absurd hm (Nat.not_lt_zero _)
    | succ n ih_5 =>
      intro y2_5 y4_5 ls ry4_5 hm_5 hl
      have L_37 : ∀ (y2_37 : Int64) (ls : Array Slot), rgI (0) (34) y4_5 → lv_has ls 5 [(0, .int a0), (1, .int a1), (2, .long y2_37), (4, .int y4_5)] → Wm p l e (wsG yX5_bringing cX5_bringing 5 (some .long)) ({ frames := 1, cells := 0, slots := 0, locals := 20 }) s m [.int a0, .int a1] below meth c s.heap [] (0) (0) (vp_Sl (fun _ => True)) 0 0 (fun _ => False) (F0 m 37 ls []) := by
        intro y2_37 ls ry4_37 hl
        obtain ⟨x_1, ex_1⟩ : ∃ y : Int32, y = y4_5 + 1 := ⟨_, rfl⟩
        have rx_1 : rgI (1) (35) x_1 := by rw [ex_1]; exact rg_w (rg_add ry4_37 rl_1 (by decide) (by decide)) (by decide) (by decide)
        have qx_1 : x_1.toInt = (y4_5 : Int32).toInt + 1 := by rw [ex_1]; exact rg_addE ry4_37 rl_1 (by decide) (by decide)
        refine lv_iinc (v := x_1) (lv' := [(4, .int x_1), (0, .int a0), (1, .int a1), (2, .long y2_37)]) hx hb dX5_bringing_37 hl (k := 3) rfl (by rw [ex_1]; rfl) (by decide) rfl (fun ls hl => ?_)
        refine lv_goto (tgt := 5) hx hb dX5_bringing_40 (by decide) ?_
        exact ih_5 y2_37 x_1 ls (rg_w rx_1 (by decide) (by decide)) (by have h1 := qx_1; have h2 := ry4_37.1; have h3 := ry4_37.2; have h4 := hm_5; omega) (lv_sub hl [1, 2, 3, 0] rfl)
      refine lv_iload hx hb dX5_bringing_5 (lv_at hl 3 rfl) ?_
      refine lv_bipush (v := 35) hx hb dX5_bringing_7 (by decide) ?_
      refine lv_icmp_ge (tgt := 43) hx hb dX5_bringing_9 (by decide) (fun c_2 => ?_) (fun c_2 => ?_)
      · have r_3 : rgI (35) (35) y4_5 := rg_w (rg_leR rl_35 ry4_5 c_2) (by decide) (by decide)
        refine lv_lload_n hx hb dX5_bringing_43 rfl (lv_at hl 2 rfl) ?_
        exact W.lret hx hb hr (fun t ht hW => ⟨y2_5, rfl, trivial, ht⟩) (fun q h => by cases h) dX5_bringing_44
      · have r_4 : rgI (0) (34) y4_5 := rg_w (rg_ltL ry4_5 rl_35 (nle_lt c_2)) (by decide) (by decide)
        refine lv_iload_n hx hb dX5_bringing_12 rfl (lv_at hl 0 rfl) ?_
        refine lv_iload hx hb dX5_bringing_13 (lv_at hl 3 rfl) ?_
        refine vp_callSi (W.runS (As := [.int y4_5]) (rest := [.int a0]) ⟨hx, hb, hml, hown, hts⟩ (c_X5_farthest l g Ty G y4_5 ) (cwSx 1 hts hG (gwC mw_1083) mw_86 mw_1081 mw_1082 rfl rfl rfl hd_X5_farthest ⟨Nat.le_of_ble_eq_true rfl, Nat.le_of_ble_eq_true rfl⟩) ⟨PcH_blind, PcH_pre hK hH⟩ rfl rfl hl.1 rfl (lv_room (Nat.le_of_ble_eq_true rfl)) dX5_bringing_15 ⟨Nat.zero_le _, Nat.zero_le _⟩) (fun x_5 hx_5 => ?_)
        refine lv_icmp_gt (tgt := 37) hx hb dX5_bringing_18 (by decide) (fun c_6 => ?_) (fun c_6 => ?_)
        · have r_7 : rgI (-2147483648) (2147483646) x_5 := rg_w (rg_ltL (rg_top x_5) (rg_top a0) c_6) (by decide) (by decide)
          have r_8 : rgI (-2147483647) (2147483647) a0 := rg_w (rg_ltR (rg_top x_5) (rg_top a0) c_6) (by decide) (by decide)
          exact L_37 y2_5 ls r_4 (lv_sub hl [0, 1, 2, 3] rfl)
        · refine lv_iload_n hx hb dX5_bringing_21 rfl (lv_at hl 1 rfl) ?_
          refine lv_iload hx hb dX5_bringing_22 (lv_at hl 3 rfl) ?_
          refine vp_callSi (W.runS (As := [.int y4_5]) (rest := [.int a1]) ⟨hx, hb, hml, hown, hts⟩ (c_X5_fewest l g Ty G y4_5 ) (cwSx 1 hts hG (gwC mw_1086) mw_86 mw_1084 mw_1085 rfl rfl rfl hd_X5_fewest ⟨Nat.le_of_ble_eq_true rfl, Nat.le_of_ble_eq_true rfl⟩) ⟨PcH_blind, PcH_pre hK hH⟩ rfl rfl hl.1 rfl (lv_room (Nat.le_of_ble_eq_true rfl)) dX5_bringing_24 ⟨Nat.zero_le _, Nat.zero_le _⟩) (fun x_9 hx_9 => ?_)
          refine lv_icmp_lt (tgt := 37) hx hb dX5_bringing_27 (by decide) (fun c_10 => ?_) (fun c_10 => ?_)
          · have r_11 : rgI (-2147483648) (2147483646) a1 := rg_w (rg_ltL (rg_top a1) (rg_top x_9) c_10) (by decide) (by decide)
            have r_12 : rgI (-2147483647) (2147483647) x_9 := rg_w (rg_ltR (rg_top a1) (rg_top x_9) c_10) (by decide) (by decide)
            exact L_37 y2_5 ls r_4 (lv_sub hl [0, 1, 2, 3] rfl)
          · refine lv_lload_n hx hb dX5_bringing_30 rfl (lv_at hl 2 rfl) ?_
            refine lv_lconst (v := 1) hx hb dX5_bringing_31 (by decide) ?_
            refine lv_iload hx hb dX5_bringing_32 (lv_at hl 3 rfl) ?_
            refine lv_lshl hx hb dX5_bringing_34 rfl ?_
            refine lv_topl (fun u_13 eu_13 => ?_)
            refine lv_lor hx hb dX5_bringing_35 ?_
            refine lv_topl (fun u_14 eu_14 => ?_)
            refine lv_lstore_n (lv' := [(2, .long u_14), (0, .int a0), (1, .int a1), (4, .int y4_5)]) hx hb dX5_bringing_36 rfl hl (by decide) rfl (fun ls hl => ?_)
            exact L_37 u_14 ls r_4 (lv_sub hl [1, 2, 0, 3] rfl)
  refine lv_lconst (v := 0) hx hb dX5_bringing_0 (by decide) ?_
  refine lv_lstore_n (lv' := [(2, .long 0), (0, .int a0), (1, .int a1)]) hx hb dX5_bringing_1 rfl hl (by decide) rfl (fun ls hl => ?_)
  refine lv_iconst (v := 0) hx hb dX5_bringing_2 (by decide) ?_
  refine lv_istore (lv' := [(4, .int 0), (2, .long 0), (0, .int a0), (1, .int a1)]) hx hb dX5_bringing_3 hl (by decide) rfl (fun ls hl => ?_)
  exact L_5 _ 0 0 ls (rg_w rl_0 (by decide) (by decide)) (Nat.lt_succ_self _) (lv_sub hl [2, 3, 1, 0] rfl)

set_option maxHeartbeats 4000000 in
set_option maxRecDepth 100000 in
theorem c_X5_fitting (l : Launch) (g : Gx) (Ty : TyM) (G : Gh) (h0 : Nat) (k_h0 : Ty h0 = some (15, 0)) : Met l yX5_fitting (wsG yX5_fitting cX5_fitting 8 (some .long)) ({ frames := 2, cells := 0, slots := 0, locals := 44 }) (PcH g Ty G [.ref h0]) (vp_Sl (fun _ => True)) 0 0 (fun _ => False) := by
  refine Met.ofW (cc := cX5_fitting) (maxL := 8) (ret := (some .long)) (by decide) rfl ?_
  intro p e s m args below meth c s₁ B hml hv
  obtain ⟨rfl, hK, hH⟩ := hv
  have hx := B.exec
  have hb := B.bytes
  have hr := B.returns
  have hts := atoms_spec (ws := (wsG yX5_fitting cX5_fitting 8 (some .long))) B.pre
  have hG : ∀ w ∈ GW, w.before ([.ref h0] : List Value).toArray s = true := fun w h => hts w (List.mem_cons_of_mem _ h)
  have hown : s.vm.findClass RX5 = some m.cls := findClass_of_methodNamed B.named
  have hlocks := B.notSynchronized
  have hl := lv_entry [.ref h0] (n := 8) (Nat.le_of_ble_eq_true rfl)
  rw [lg_entry_eq]
  generalize (lg_sl [.ref h0] ++ List.replicate (8 - (lg_sl [.ref h0]).length) Slot.unset).toArray = ls at hl ⊢
  have hl : lv_has ls 8 [(0, .ref h0)] := hl
  have L_77 : ∀ (y3_77 : Int64) (ls : Array Slot), lv_has ls 8 [(3, .long y3_77)] → Wm p l e (wsG yX5_fitting cX5_fitting 8 (some .long)) ({ frames := 2, cells := 0, slots := 0, locals := 44 }) s m [.ref h0] below meth c s.heap [] (0) (0) (vp_Sl (fun _ => True)) 0 0 (fun _ => False) (F0 m 77 ls []) := by
    intro y3_77 ls hl
    refine lv_lload_n hx hb dX5_fitting_77 rfl (lv_at hl 0 rfl) ?_
    exact W.lret hx hb hr (fun t ht hW => ⟨y3_77, rfl, trivial, ht⟩) (fun q h => by cases h) dX5_fitting_78
  have L_9 : ∀ (n : Nat) (y1_9 : Int64) (y3_9 : Int64) (y5_9 : Int32) (ls : Array Slot), rgI (0) (10) y5_9 → (10 - (y5_9).toInt).toNat < n → lv_has ls 8 [(0, .ref h0), (1, .long y1_9), (3, .long y3_9), (5, .int y5_9)] → Wm p l e (wsG yX5_fitting cX5_fitting 8 (some .long)) ({ frames := 2, cells := 0, slots := 0, locals := 44 }) s m [.ref h0] below meth c s.heap [] (0) (0) (vp_Sl (fun _ => True)) 0 0 (fun _ => False) (F0 m 9 ls []) := by
    intro n
    induction n with
    | zero => intro y1_9 y3_9 y5_9 ls ry5_9 hm; exact absurd hm (Nat.not_lt_zero _)
    | succ n ih_9 =>
      intro y1_9 y3_9 y5_9 ls ry5_9 hm_9 hl
      have L_69 : ∀ (z0_69 : Int64) (ls : Array Slot), rgI (0) (9) y5_9 → lv_has ls 8 [(0, .ref h0), (1, .long y1_9), (5, .int y5_9)] → Wm p l e (wsG yX5_fitting cX5_fitting 8 (some .long)) ({ frames := 2, cells := 0, slots := 0, locals := 44 }) s m [.ref h0] below meth c s.heap [] (0) (0) (vp_Sl (fun _ => True)) 0 0 (fun _ => False) (F0 m 69 ls [.long z0_69, .long y3_9]) := by
        intro z0_69 ls ry5_69 hl
        refine lv_land hx hb dX5_fitting_69 ?_
        refine lv_topl (fun u_1 eu_1 => ?_)
        refine lv_lstore_n (lv' := [(3, .long u_1), (0, .ref h0), (1, .long y1_9), (5, .int y5_9)]) hx hb dX5_fitting_70 rfl hl (by decide) rfl (fun ls hl => ?_)
        obtain ⟨x_2, ex_2⟩ : ∃ y : Int32, y = y5_9 + 1 := ⟨_, rfl⟩
        have rx_2 : rgI (1) (10) x_2 := by rw [ex_2]; exact rg_w (rg_add ry5_69 rl_1 (by decide) (by decide)) (by decide) (by decide)
        have qx_2 : x_2.toInt = (y5_9 : Int32).toInt + 1 := by rw [ex_2]; exact rg_addE ry5_69 rl_1 (by decide) (by decide)
        refine lv_iinc (v := x_2) (lv' := [(5, .int x_2), (3, .long u_1), (0, .ref h0), (1, .long y1_9)]) hx hb dX5_fitting_71 hl (k := 3) rfl (by rw [ex_2]; rfl) (by decide) rfl (fun ls hl => ?_)
        refine lv_goto (tgt := 9) hx hb dX5_fitting_74 (by decide) ?_
        exact ih_9 y1_9 u_1 x_2 ls (rg_w rx_2 (by decide) (by decide)) (by have h1 := qx_2; have h2 := ry5_69.1; have h3 := ry5_69.2; have h4 := hm_9; omega) (lv_sub hl [2, 3, 1, 0] rfl)
      refine lv_iload hx hb dX5_fitting_9 (lv_at hl 3 rfl) ?_
      refine lv_aload_n hx hb dX5_fitting_11 rfl (lv_at hl 0 rfl) ?_
      obtain ⟨_, ⟨q_4, q_5, q_6, q_8, rfl, kq_4, kq_5, kq_6, rq_7, t_9⟩, o_c_3⟩ := hH h0 _ k_h0
      refine hg_get hx hb hG igX5 hown hK o_c_3 rfl 3 (by decide) (hG _ mw_324) rfl dX5_fitting_12 ?_
      refine lv_icmp_ge (tgt := 77) hx hb dX5_fitting_15 (by decide) (fun c_10 => ?_) (fun c_10 => ?_)
      · exact L_77 y3_9 ls (lv_sub hl [2] rfl)
      · have r_11 : rgI (0) (9) y5_9 := rg_w (rg_ltL ry5_9 rq_7 (nle_lt c_10)) (by decide) (by decide)
        have r_12 : rgI (1) (10) (G.1 2) := rg_w (rg_ltR ry5_9 rq_7 (nle_lt c_10)) (by decide) (by decide)
        refine lv_iload hx hb dX5_fitting_18 (lv_at hl 3 rfl) ?_
        refine lv_bipush (v := 10) hx hb dX5_fitting_20 (by decide) ?_
        refine lv_icmp_ge (tgt := 77) hx hb dX5_fitting_22 (by decide) (fun c_13 => ?_) (fun c_13 => ?_)
        · exact rg_no2 rl_10 r_11 c_13 (by decide)
        · refine lv_aload_n hx hb dX5_fitting_25 rfl (lv_at hl 0 rfl) ?_
          refine hg_get hx hb hG igX5 hown hK o_c_3 rfl 0 (by decide) (hG _ mw_321) rfl dX5_fitting_26 ?_
          refine lv_iload hx hb dX5_fitting_29 (lv_at hl 3 rfl) ?_
          obtain ⟨_, rfl, o_c_14⟩ := hH q_4 _ kq_4
          have o_c_14 : va_at g.1 vwCl (q_4, .inl (g.2.1 1, 10, .inl (G.2.1 q_4))) s.heap := o_c_14
          refine hg_iald hx hb hK o_c_14 (rg_in (n := 10) r_11 (by decide) (by decide)) dX5_fitting_31 ?_
          refine lv_topi (fun x_16 ex_16 => ?_)
          refine lv_aload_n hx hb dX5_fitting_32 rfl (lv_at hl 0 rfl) ?_
          refine hg_get hx hb hG igX5 hown hK o_c_3 rfl 1 (by decide) (hG _ mw_322) rfl dX5_fitting_33 ?_
          refine lv_iload hx hb dX5_fitting_36 (lv_at hl 3 rfl) ?_
          obtain ⟨_, rfl, o_c_17⟩ := hH q_5 _ kq_5
          have o_c_17 : va_at g.1 vwCl (q_5, .inl (g.2.1 1, 10, .inl (G.2.1 q_5))) s.heap := o_c_17
          refine hg_iald hx hb hK o_c_17 (rg_in (n := 10) r_11 (by decide) (by decide)) dX5_fitting_38 ?_
          refine lv_topi (fun x_19 ex_19 => ?_)
          refine vp_callSl (W.runS (As := [.int x_16, .int x_19]) (rest := []) ⟨hx, hb, hml, hown, hts⟩ (c_X5_bringing l g Ty G x_16 x_19 ) (cwSx 2 hts hG (gwC mw_1080) mw_86 mw_1078 mw_1079 rfl rfl rfl hd_X5_bringing ⟨Nat.le_of_ble_eq_true rfl, Nat.le_of_ble_eq_true rfl⟩) ⟨PcH_blind, PcH_pre hK hH⟩ rfl rfl hl.1 rfl (lv_room (Nat.le_of_ble_eq_true rfl)) dX5_fitting_39 ⟨Nat.zero_le _, Nat.zero_le _⟩) (fun x_20 hx_20 => ?_)
          refine lv_lstore (lv' := [(6, .long x_20), (0, .ref h0), (1, .long y1_9), (3, .long y3_9), (5, .int y5_9)]) hx hb dX5_fitting_42 hl (by decide) rfl (fun ls hl => ?_)
          refine lv_lload_n hx hb dX5_fitting_44 rfl (lv_at hl 3 rfl) ?_
          refine lv_aload_n hx hb dX5_fitting_45 rfl (lv_at hl 1 rfl) ?_
          refine hg_get hx hb hG igX5 hown hK o_c_3 rfl 2 (by decide) (hG _ mw_323) rfl dX5_fitting_46 ?_
          refine lv_iload hx hb dX5_fitting_49 (lv_at hl 4 rfl) ?_
          obtain ⟨_, rfl, o_c_21⟩ := hH q_6 _ kq_6
          have o_c_21 : va_at g.1 vwCl (q_6, .inl (g.2.1 1, 10, .inl (G.2.1 q_6))) s.heap := o_c_21
          refine hg_iald hx hb hK o_c_21 (rg_in (n := 10) r_11 (by decide) (by decide)) dX5_fitting_51 ?_
          refine lv_topi (fun x_23 ex_23 => ?_)
          refine lv_iconst (v := 1) hx hb dX5_fitting_52 (by decide) ?_
          refine lv_icmp_ne (tgt := 61) hx hb dX5_fitting_53 (by decide) (fun c_24 => ?_) (fun c_24 => ?_)
          · refine lv_lload_n hx hb dX5_fitting_61 rfl (lv_at hl 2 rfl) ?_
            refine lv_lload hx hb dX5_fitting_62 (lv_at hl 0 rfl) ?_
            refine lv_ldc2 (v := -1) hx hb hown (hG _ mw_1087) dX5_fitting_64 ?_
            refine lv_lxor hx hb dX5_fitting_67 ?_
            refine lv_topl (fun u_25 eu_25 => ?_)
            refine lv_land hx hb dX5_fitting_68 ?_
            refine lv_topl (fun u_26 eu_26 => ?_)
            exact L_69 u_26 ls r_11 (lv_sub hl [1, 2, 4] rfl)
          · have r_27 : rgI (1) (1) x_23 := rg_w (rg_eq rl_1 c_24) (by decide) (by decide)
            refine lv_lload hx hb dX5_fitting_56 (lv_at hl 0 rfl) ?_
            refine lv_goto (tgt := 69) hx hb dX5_fitting_58 (by decide) ?_
            exact L_69 x_20 ls r_11 (lv_sub hl [1, 2, 4] rfl)
  refine lv_ldc2 (v := 34359738367) hx hb hown (hG _ mw_1077) dX5_fitting_0 ?_
  refine lv_lstore_n (lv' := [(1, .long (34359738367)), (0, .ref h0)]) hx hb dX5_fitting_3 rfl hl (by decide) rfl (fun ls hl => ?_)
  refine lv_lload_n hx hb dX5_fitting_4 rfl (lv_at hl 0 rfl) ?_
  refine lv_lstore_n (lv' := [(3, .long (34359738367)), (1, .long (34359738367)), (0, .ref h0)]) hx hb dX5_fitting_5 rfl hl (by decide) rfl (fun ls hl => ?_)
  refine lv_iconst (v := 0) hx hb dX5_fitting_6 (by decide) ?_
  refine lv_istore (lv' := [(5, .int 0), (3, .long (34359738367)), (1, .long (34359738367)), (0, .ref h0)]) hx hb dX5_fitting_7 hl (by decide) rfl (fun ls hl => ?_)
  exact L_9 _ (34359738367) (34359738367) 0 ls (rg_w rl_0 (by decide) (by decide)) (Nat.lt_succ_self _) (lv_sub hl [3, 2, 1, 0] rfl)

set_option maxHeartbeats 4000000 in
set_option maxRecDepth 100000 in
theorem c_X5_bestLook (l : Launch) (g : Gx) (Ty : TyM) (G : Gh) (sz : Nat) (h0 : Nat) (k_h0 : Ty h0 = some (15, 0)) : Met l yX5_bestLook (wsG yX5_bestLook cX5_bestLook 8 (some .int)) ({ frames := 3, cells := 0, slots := 0, locals := 71 }) (PcT g Ty G sz [.ref h0]) (QwI g Ty sz (fun r u => u = (Ty, G))) 0 0 (AF Ty sz) := by
  refine Met.ofW (cc := cX5_bestLook) (maxL := 8) (ret := (some .int)) (by decide) rfl ?_
  intro p e s m args below meth c s₁ B hml hv
  obtain ⟨rfl, hsz, hK, hH⟩ := hv
  subst hsz
  have hx := B.exec
  have hb := B.bytes
  have hr := B.returns
  have hts := atoms_spec (ws := (wsG yX5_bestLook cX5_bestLook 8 (some .int))) B.pre
  have hG : ∀ w ∈ GW, w.before ([.ref h0] : List Value).toArray s = true := fun w h => hts w (List.mem_cons_of_mem _ h)
  have hown : s.vm.findClass RX5 = some m.cls := findClass_of_methodNamed B.named
  have hlocks := B.notSynchronized
  have hl := lv_entry [.ref h0] (n := 8) (Nat.le_of_ble_eq_true rfl)
  rw [lg_entry_eq]
  generalize (lg_sl [.ref h0] ++ List.replicate (8 - (lg_sl [.ref h0]).length) Slot.unset).toArray = ls at hl ⊢
  have hl : lv_has ls 8 [(0, .ref h0)] := hl
  have hS : va_S (AF Ty s.heap.size) s.heap s.heap [] := va_S.rf
  have L_101 : ∀ (H : Heap) (locs : List Loc) (y3_101 : Int32) (ls : Array Slot), rgI (-1) (2147483647) y3_101 → lv_has ls 8 [(3, .int y3_101)] → HT g Ty G H → va_S (AF Ty s.heap.size) s.heap H locs → Wm p l e (wsG yX5_bestLook cX5_bestLook 8 (some .int)) ({ frames := 3, cells := 0, slots := 0, locals := 71 }) s m [.ref h0] below meth c H locs (0) (0) (QwI g Ty s.heap.size (fun r u => u = (Ty, G))) 0 0 (AF Ty s.heap.size) (F0 m 101 ls []) := by
    intro H locs y3_101 ls ry3_101 hl hH hS
    refine lv_iload_n hx hb dX5_bestLook_101 rfl (lv_at hl 0 rfl) ?_
    exact W.iret hx hb hr (fun t ht hWm => ⟨⟨y3_101, (Ty, G), rfl, rfl, by show HT g Ty G t.heap; rw [ht]; exact hH⟩, hS.F ht⟩) hS.2.2 dX5_bestLook_102
  have L_10 : ∀ (n : Nat) (H : Heap) (locs : List Loc) (y1_10 : Int64) (y3_10 : Int32) (y4_10 : Int32) (ls : Array Slot), rgI (-1) (2147483647) y3_10 → rgI (0) (10) y4_10 → (10 - (y4_10).toInt).toNat < n → lv_has ls 8 [(0, .ref h0), (1, .long y1_10), (3, .int y3_10), (4, .int y4_10)] → HT g Ty G H → va_S (AF Ty s.heap.size) s.heap H locs → Wm p l e (wsG yX5_bestLook cX5_bestLook 8 (some .int)) ({ frames := 3, cells := 0, slots := 0, locals := 71 }) s m [.ref h0] below meth c H locs (0) (0) (QwI g Ty s.heap.size (fun r u => u = (Ty, G))) 0 0 (AF Ty s.heap.size) (F0 m 10 ls []) := by
    intro n
    induction n with
    | zero => intro H locs y1_10 y3_10 y4_10 ls ry3_10 ry4_10 hm; exact absurd hm (Nat.not_lt_zero _)
    | succ n ih_10 =>
      intro H locs y1_10 y3_10 y4_10 ls ry3_10 ry4_10 hm_10 hl hH hS
      have L_26 : ∀ (n : Nat) (H : Heap) (locs : List Loc) (y3_26 : Int32) (y5_26 : Int32) (ls : Array Slot), rgI (-1) (2147483647) y3_26 → rgI (0) (9) y4_10 → rgI (0) (5) y5_26 → (5 - (y5_26).toInt).toNat < n → lv_has ls 8 [(0, .ref h0), (1, .long y1_10), (3, .int y3_26), (4, .int y4_10), (5, .int y5_26)] → HT g Ty G H → va_S (AF Ty s.heap.size) s.heap H locs → Wm p l e (wsG yX5_bestLook cX5_bestLook 8 (some .int)) ({ frames := 3, cells := 0, slots := 0, locals := 71 }) s m [.ref h0] below meth c H locs (0) (0) (QwI g Ty s.heap.size (fun r u => u = (Ty, G))) 0 0 (AF Ty s.heap.size) (F0 m 26 ls []) := by
        intro n
        induction n with
        | zero => intro H locs y3_26 y5_26 ls ry3_26 ry4_26 ry5_26 hm; exact absurd hm (Nat.not_lt_zero _)
        | succ n ih_26 =>
          intro H locs y3_26 y5_26 ls ry3_26 ry4_26 ry5_26 hm_26 hl hH hS
          have L_89 : ∀ (H : Heap) (locs : List Loc) (y3_89 : Int32) (ls : Array Slot), rgI (0) (2147483647) y3_89 → rgI (0) (9) y4_10 → rgI (0) (4) y5_26 → lv_has ls 8 [(0, .ref h0), (1, .long y1_10), (3, .int y3_89), (4, .int y4_10), (5, .int y5_26)] → HT g Ty G H → va_S (AF Ty s.heap.size) s.heap H locs → Wm p l e (wsG yX5_bestLook cX5_bestLook 8 (some .int)) ({ frames := 3, cells := 0, slots := 0, locals := 71 }) s m [.ref h0] below meth c H locs (0) (0) (QwI g Ty s.heap.size (fun r u => u = (Ty, G))) 0 0 (AF Ty s.heap.size) (F0 m 89 ls []) := by
            intro H locs y3_89 ls ry3_89 ry4_89 ry5_89 hl hH hS
            obtain ⟨x_1, ex_1⟩ : ∃ y : Int32, y = y5_26 + 1 := ⟨_, rfl⟩
            have rx_1 : rgI (1) (5) x_1 := by rw [ex_1]; exact rg_w (rg_add ry5_89 rl_1 (by decide) (by decide)) (by decide) (by decide)
            have qx_1 : x_1.toInt = (y5_26 : Int32).toInt + 1 := by rw [ex_1]; exact rg_addE ry5_89 rl_1 (by decide) (by decide)
            refine lv_iinc (v := x_1) (lv' := [(5, .int x_1), (0, .ref h0), (1, .long y1_10), (3, .int y3_89), (4, .int y4_10)]) hx hb dX5_bestLook_89 hl (k := 4) rfl (by rw [ex_1]; rfl) (by decide) rfl (fun ls hl => ?_)
            refine lv_goto (tgt := 26) hx hb dX5_bestLook_92 (by decide) ?_
            exact ih_26 H locs y3_89 x_1 ls (rg_w ry3_89 (by decide) (by decide)) ry4_89 (rg_w rx_1 (by decide) (by decide)) (by have h1 := qx_1; have h2 := ry5_89.1; have h3 := ry5_89.2; have h4 := hm_26; omega) (lv_sub hl [1, 2, 3, 4, 0] rfl) hH hS
          have L_74 : ∀ (H : Heap) (locs : List Loc) (y7_74 : Int32) (ls : Array Slot), rgI (0) (9) y4_10 → rgI (0) (4) y5_26 → lv_has ls 8 [(0, .ref h0), (1, .long y1_10), (4, .int y4_10), (5, .int y5_26), (7, .int y7_74)] → HT g Ty G H → va_S (AF Ty s.heap.size) s.heap H locs → Wm p l e (wsG yX5_bestLook cX5_bestLook 8 (some .int)) ({ frames := 3, cells := 0, slots := 0, locals := 71 }) s m [.ref h0] below meth c H locs (0) (0) (QwI g Ty s.heap.size (fun r u => u = (Ty, G))) 0 0 (AF Ty s.heap.size) (F0 m 74 ls []) := by
            intro H locs y7_74 ls ry4_74 ry5_74 hl hH hS
            refine lv_bipush (v := 10) hx hb dX5_bestLook_74 (by decide) ?_
            refine lv_iload hx hb dX5_bestLook_76 (lv_at hl 2 rfl) ?_
            refine lv_imul hx hb dX5_bestLook_78 ?_
            refine lv_topi (fun x_2 ex_2 => ?_)
            have rx_2 : rgI (0) (90) x_2 := by rw [ex_2]; exact rg_w (rg_mul rl_10 ry4_74 (by decide) (by decide) (by decide)) (by decide) (by decide)
            refine lv_iload hx hb dX5_bestLook_79 (lv_at hl 3 rfl) ?_
            refine lv_iadd hx hb dX5_bestLook_81 ?_
            refine lv_topi (fun x_3 ex_3 => ?_)
            have rx_3 : rgI (0) (94) x_3 := by rw [ex_3]; exact rg_w (rg_add rx_2 ry5_74 (by decide) (by decide)) (by decide) (by decide)
            refine lv_istore_n (lv' := [(3, .int x_3), (0, .ref h0), (1, .long y1_10), (4, .int y4_10), (5, .int y5_26), (7, .int y7_74)]) hx hb dX5_bestLook_82 rfl hl (by decide) rfl (fun ls hl => ?_)
            refine lv_aload_n hx hb dX5_bestLook_83 rfl (lv_at hl 1 rfl) ?_
            refine lv_iload hx hb dX5_bestLook_84 (lv_at hl 5 rfl) ?_
            obtain ⟨_, ⟨q_5, q_6, q_7, q_9, rfl, kq_5, kq_6, kq_7, rq_8, t_10⟩, o_c_4⟩ := hH h0 _ k_h0
            refine hg_put (ty := .int) hx hb hG igX5 tyX5 tyX5_ok nmX5 hown hK hS o_c_4 (AF.of k_h0) rfl 4 (by decide) (hG _ mw_326) rfl (by decide +kernel) rfl rfl (Nat.le_of_ble_eq_true rfl) dX5_bestLook_86 (fun H locs o_c_4 hz oq hS => ?_)
            have o_c_4 : va_at g.1 vwCl (h0, .inr (5, [.ref q_5, .ref q_6, .ref q_7, .int (G.1 2), .int y7_74])) H := o_c_4
            have hH : HT g Ty G H := hH.put k_h0 ⟨q_5, q_6, q_7, y7_74, rfl, kq_5, kq_6, kq_7, rq_8, t_10⟩ o_c_4 oq
            clear oq hz
            exact L_89 H locs x_3 ls (rg_w rx_3 (by decide) (by decide)) ry4_74 ry5_74 (lv_sub hl [1, 2, 0, 3, 4] rfl) hH hS
          refine lv_iload hx hb dX5_bestLook_26 (lv_at hl 4 rfl) ?_
          refine lv_iconst (v := 4) hx hb dX5_bestLook_28 (by decide) ?_
          refine lv_icmp_gt (tgt := 95) hx hb dX5_bestLook_29 (by decide) (fun c_11 => ?_) (fun c_11 => ?_)
          · have r_12 : rgI (5) (5) y5_26 := rg_w (rg_ltR rl_4 ry5_26 c_11) (by decide) (by decide)
            obtain ⟨x_13, ex_13⟩ : ∃ y : Int32, y = y4_10 + 1 := ⟨_, rfl⟩
            have rx_13 : rgI (1) (10) x_13 := by rw [ex_13]; exact rg_w (rg_add ry4_26 rl_1 (by decide) (by decide)) (by decide) (by decide)
            have qx_13 : x_13.toInt = (y4_10 : Int32).toInt + 1 := by rw [ex_13]; exact rg_addE ry4_26 rl_1 (by decide) (by decide)
            refine lv_iinc (v := x_13) (lv' := [(4, .int x_13), (0, .ref h0), (1, .long y1_10), (3, .int y3_26), (5, .int y5_26)]) hx hb dX5_bestLook_95 hl (k := 3) rfl (by rw [ex_13]; rfl) (by decide) rfl (fun ls hl => ?_)
            refine lv_goto (tgt := 10) hx hb dX5_bestLook_98 (by decide) ?_
            exact ih_10 H locs y1_10 y3_26 x_13 ls ry3_26 (rg_w rx_13 (by decide) (by decide)) (by have h1 := qx_13; have h2 := ry4_26.1; have h3 := ry4_26.2; have h4 := hm_10; omega) (lv_sub hl [1, 2, 3, 0] rfl) hH hS
          · have r_14 : rgI (0) (4) y5_26 := rg_w (rg_leL ry5_26 rl_4 (nlt_le c_11)) (by decide) (by decide)
            refine lv_lload_n hx hb dX5_bestLook_32 rfl (lv_at hl 1 rfl) ?_
            refine lv_iload hx hb dX5_bestLook_33 (lv_at hl 3 rfl) ?_
            refine lv_iload hx hb dX5_bestLook_35 (lv_at hl 4 rfl) ?_
            refine vp_callSl (W.runS (As := [.int y4_10, .int y5_26]) (rest := [.long y1_10]) ⟨hx, hb, hml, hown, hts⟩ (c_X5_bringing l g Ty G y4_10 y5_26 ) (cwSx 2 hts hG (gwC mw_1080) mw_86 mw_1078 mw_1079 rfl rfl rfl hd_X5_bringing ⟨Nat.le_of_ble_eq_true rfl, Nat.le_of_ble_eq_true rfl⟩) ⟨PcH_blind, PcH_pre hK hH⟩ rfl rfl hl.1 rfl (lv_room (Nat.le_of_ble_eq_true rfl)) dX5_bestLook_37 ⟨Nat.zero_le _, Nat.zero_le _⟩) (fun x_15 hx_15 => ?_)
            refine lv_land hx hb dX5_bestLook_40 ?_
            refine lv_topl (fun u_16 eu_16 => ?_)
            refine vp_callSi (W.runS (As := [.long u_16]) (rest := []) ⟨hx, hb, hml, hown, hts⟩ (c_J13_bitCount_95d88 l g Ty G u_16 ) (cwSx 1 hts hG (gwC mw_1092) mw_100 mw_1105 mw_1091 rfl rfl rfl hd_J13_bitCount_95d88 ⟨Nat.le_of_ble_eq_true rfl, Nat.le_of_ble_eq_true rfl⟩) ⟨PcH_blind, PcH_pre hK hH⟩ rfl rfl hl.1 rfl (lv_room (Nat.le_of_ble_eq_true rfl)) dX5_bestLook_41 ⟨Nat.zero_le _, Nat.zero_le _⟩) (fun x_17 hx_17 => ?_)
            refine lv_istore (lv' := [(6, .int x_17), (0, .ref h0), (1, .long y1_10), (3, .int y3_26), (4, .int y4_10), (5, .int y5_26)]) hx hb dX5_bestLook_44 hl (by decide) rfl (fun ls hl => ?_)
            refine lv_iload hx hb dX5_bestLook_46 (lv_at hl 0 rfl) ?_
            refine lv_lload_n hx hb dX5_bestLook_48 rfl (lv_at hl 2 rfl) ?_
            refine vp_callSi (W.runS (As := [.long y1_10]) (rest := [.int x_17]) ⟨hx, hb, hml, hown, hts⟩ (c_J13_bitCount_95d88 l g Ty G y1_10 ) (cwSx 1 hts hG (gwC mw_1092) mw_100 mw_1105 mw_1091 rfl rfl rfl hd_J13_bitCount_95d88 ⟨Nat.le_of_ble_eq_true rfl, Nat.le_of_ble_eq_true rfl⟩) ⟨PcH_blind, PcH_pre hK hH⟩ rfl rfl hl.1 rfl (lv_room (Nat.le_of_ble_eq_true rfl)) dX5_bestLook_49 ⟨Nat.zero_le _, Nat.zero_le _⟩) (fun x_18 hx_18 => ?_)
            refine lv_iload hx hb dX5_bestLook_52 (lv_at hl 0 rfl) ?_
            refine lv_isub hx hb dX5_bestLook_54 ?_
            refine lv_topi (fun x_19 ex_19 => ?_)
            refine va_mmax hx hb (by rw [hml]; exact hl.1.symm) hown (hG _ mw_1106) (hG _ mw_473) (hG _ mw_91) (hG _ mw_474) (Nat.le_of_ble_eq_true rfl) (Nat.le_of_ble_eq_true rfl) (Nat.le_of_ble_eq_true rfl) (Nat.le_of_ble_eq_true rfl) dX5_bestLook_55 ?_
            refine lv_topi (fun x_20 ex_20 => ?_)
            refine lv_istore (lv' := [(7, .int x_20), (6, .int x_17), (0, .ref h0), (1, .long y1_10), (3, .int y3_26), (4, .int y4_10), (5, .int y5_26)]) hx hb dX5_bestLook_58 hl (by decide) rfl (fun ls hl => ?_)
            refine lv_iload_n hx hb dX5_bestLook_60 rfl (lv_at hl 4 rfl) ?_
            refine lv_iconst (v := (-1)) hx hb dX5_bestLook_61 (by decide) ?_
            refine lv_icmp_eq (tgt := 74) hx hb dX5_bestLook_62 (by decide) (fun c_21 => ?_) (fun c_21 => ?_)
            · have r_22 : rgI (-1) (-1) y3_26 := rg_w (rg_eq rl_m1 c_21) (by decide) (by decide)
              exact L_74 H locs x_20 ls ry4_26 r_14 (lv_sub hl [2, 3, 5, 6, 0] rfl) hH hS
            · have r_23 : rgI (0) (2147483647) y3_26 := rg_w (rg_neL ry3_26 rl_m1 c_21) (by decide) (by decide)
              refine lv_iload hx hb dX5_bestLook_65 (lv_at hl 0 rfl) ?_
              refine lv_aload_n hx hb dX5_bestLook_67 rfl (lv_at hl 2 rfl) ?_
              obtain ⟨_, ⟨q_25, q_26, q_27, q_29, rfl, kq_25, kq_26, kq_27, rq_28, t_30⟩, o_c_24⟩ := hH h0 _ k_h0
              refine hg_get hx hb hG igX5 hown hK o_c_24 rfl 4 (by decide) (hG _ mw_326) rfl dX5_bestLook_68 ?_
              refine lv_icmp_ge (tgt := 89) hx hb dX5_bestLook_71 (by decide) (fun c_31 => ?_) (fun c_31 => ?_)
              · exact L_89 H locs y3_26 ls r_23 ry4_26 r_14 (lv_sub hl [2, 3, 4, 5, 6] rfl) hH hS
              · have r_32 : rgI (-2147483648) (2147483646) x_20 := rg_w (rg_ltL (rg_top x_20) (rg_top q_29) (nle_lt c_31)) (by decide) (by decide)
                have r_33 : rgI (-2147483647) (2147483647) q_29 := rg_w (rg_ltR (rg_top x_20) (rg_top q_29) (nle_lt c_31)) (by decide) (by decide)
                exact L_74 H locs x_20 ls ry4_26 r_14 (lv_sub hl [2, 3, 5, 6, 0] rfl) hH hS
      refine lv_iload hx hb dX5_bestLook_10 (lv_at hl 3 rfl) ?_
      refine lv_bipush (v := 9) hx hb dX5_bestLook_12 (by decide) ?_
      refine lv_icmp_gt (tgt := 101) hx hb dX5_bestLook_14 (by decide) (fun c_34 => ?_) (fun c_34 => ?_)
      · have r_35 : rgI (10) (10) y4_10 := rg_w (rg_ltR rl_9 ry4_10 c_34) (by decide) (by decide)
        exact L_101 H locs y3_10 ls ry3_10 (lv_sub hl [2] rfl) hH hS
      · have r_36 : rgI (0) (9) y4_10 := rg_w (rg_leL ry4_10 rl_9 (nlt_le c_34)) (by decide) (by decide)
        refine lv_lload_n hx hb dX5_bestLook_17 rfl (lv_at hl 1 rfl) ?_
        refine lv_lconst (v := 0) hx hb dX5_bestLook_18 (by decide) ?_
        refine W.lcmp hx hb dX5_bestLook_19 ?_
        refine lv_topi (fun x_37 ex_37 => ?_)
        refine lv_if_eq (tgt := 101) hx hb dX5_bestLook_20 (by decide) (fun c_38 => ?_) (fun c_38 => ?_)
        · have r_39 : rgI (0) (0) x_37 := rg_w (rg_eq rl_0 c_38) (by decide) (by decide)
          exact L_101 H locs y3_10 ls ry3_10 (lv_sub hl [2] rfl) hH hS
        · refine lv_iconst (v := 0) hx hb dX5_bestLook_23 (by decide) ?_
          refine lv_istore (lv' := [(5, .int 0), (0, .ref h0), (1, .long y1_10), (3, .int y3_10), (4, .int y4_10)]) hx hb dX5_bestLook_24 hl (by decide) rfl (fun ls hl => ?_)
          exact L_26 _ H locs y3_10 0 ls ry3_10 r_36 (rg_w rl_0 (by decide) (by decide)) (Nat.lt_succ_self _) (lv_sub hl [1, 2, 3, 4, 0] rfl) hH hS
  refine lv_aload_n hx hb dX5_bestLook_0 rfl (lv_at hl 0 rfl) ?_
  obtain ⟨_, ⟨q_41, q_42, q_43, q_45, rfl, kq_41, kq_42, kq_43, rq_44, t_46⟩, o_c_40⟩ := hH h0 _ k_h0
  refine vp_callSl (W.runV (As := []) (rest := []) ⟨hx, hb, hml, hown, hts⟩ (c_X5_fitting l g Ty G h0 k_h0) (cwV 0 hts (gwV mw_1104 mw_1074 mw_1075 mw_86 mw_1076) rfl rfl rfl hv_X5_fitting ⟨Nat.le_of_ble_eq_true rfl, Nat.le_of_ble_eq_true rfl⟩) ⟨PcH_blind, hg_recv hK o_c_40 rfl, PcH_pre hK hH⟩ rfl rfl hl.1 rfl (lv_room (Nat.le_of_ble_eq_true rfl)) dX5_bestLook_1 ⟨Nat.zero_le _, Nat.zero_le _⟩) (fun x_47 hx_47 => ?_)
  refine lv_lstore_n (lv' := [(1, .long x_47), (0, .ref h0)]) hx hb dX5_bestLook_4 rfl hl (by decide) rfl (fun ls hl => ?_)
  refine lv_iconst (v := (-1)) hx hb dX5_bestLook_5 (by decide) ?_
  refine lv_istore_n (lv' := [(3, .int (-1)), (1, .long x_47), (0, .ref h0)]) hx hb dX5_bestLook_6 rfl hl (by decide) rfl (fun ls hl => ?_)
  refine lv_iconst (v := 0) hx hb dX5_bestLook_7 (by decide) ?_
  refine lv_istore (lv' := [(4, .int 0), (3, .int (-1)), (1, .long x_47), (0, .ref h0)]) hx hb dX5_bestLook_8 hl (by decide) rfl (fun ls hl => ?_)
  exact L_10 _ s.heap [] x_47 (-1) 0 ls (rg_w rl_m1 (by decide) (by decide)) (rg_w rl_0 (by decide) (by decide)) (Nat.lt_succ_self _) (lv_sub hl [3, 2, 1, 0] rfl) hH hS

set_option maxHeartbeats 4000000 in
set_option maxRecDepth 100000 in
theorem c_X1_countCases (l : Launch) (g : Gx) (Ty : TyM) (G : Gh) (sz : Nat) (h0 : Nat) (a0 : Int32) (a1 : Int32) (k_h0 : Ty h0 = some (11, 0)) : Met l yX1_countCases (wsG yX1_countCases cX1_countCases 5 none) ({ frames := 0, cells := 0, slots := 0, locals := 0 }) (PcT g Ty G sz [.ref h0, .int a0, .int a1]) (QwV g Ty sz (fun u => u = (Ty, G))) 0 0 (AF Ty sz) := by
  refine Met.ofW (cc := cX1_countCases) (maxL := 5) (ret := none) (by decide) rfl ?_
  intro p e s m args below meth c s₁ B hml hv
  obtain ⟨rfl, hsz, hK, hH⟩ := hv
  subst hsz
  have hx := B.exec
  have hb := B.bytes
  have hr := B.returns
  have hts := atoms_spec (ws := (wsG yX1_countCases cX1_countCases 5 none)) B.pre
  have hG : ∀ w ∈ GW, w.before ([.ref h0, .int a0, .int a1] : List Value).toArray s = true := fun w h => hts w (List.mem_cons_of_mem _ h)
  have hown : s.vm.findClass RX1 = some m.cls := findClass_of_methodNamed B.named
  have hlocks := B.notSynchronized
  have hl := lv_entry [.ref h0, .int a0, .int a1] (n := 5) (Nat.le_of_ble_eq_true rfl)
  rw [lg_entry_eq]
  generalize (lg_sl [.ref h0, .int a0, .int a1] ++ List.replicate (5 - (lg_sl [.ref h0, .int a0, .int a1]).length) Slot.unset).toArray = ls at hl ⊢
  have hl : lv_has ls 5 [(0, .ref h0), (1, .int a0), (2, .int a1)] := hl
  have hS : va_S (AF Ty s.heap.size) s.heap s.heap [] := va_S.rf
  have L_36 : ∀ (n : Nat) (H : Heap) (locs : List Loc) (y3_36 : Int32) (ls : Array Slot), rgI (0) (16) y3_36 → (16 - (y3_36).toInt).toNat < n → lv_has ls 5 [(0, .ref h0), (1, .int a0), (2, .int a1), (3, .int y3_36)] → HT g Ty G H → va_S (AF Ty s.heap.size) s.heap H locs → Wm p l e (wsG yX1_countCases cX1_countCases 5 none) ({ frames := 0, cells := 0, slots := 0, locals := 0 }) s m [.ref h0, .int a0, .int a1] below meth c H locs (0) (0) (QwV g Ty s.heap.size (fun u => u = (Ty, G))) 0 0 (AF Ty s.heap.size) (F0 m 36 ls []) := by
    intro n
    induction n with
    | zero => intro H locs y3_36 ls ry3_36 hm; exact absurd hm (Nat.not_lt_zero _)
    | succ n ih_36 =>
      intro H locs y3_36 ls ry3_36 hm_36 hl hH hS
      have L_51 : ∀ (n : Nat) (H : Heap) (locs : List Loc) (y4_51 : Int32) (ls : Array Slot), rgI (1) (2147483647) a0 → rgI (0) (15) y3_36 → rgI (0) (16) y4_51 → ((y4_51).toInt - (0)).toNat < n → lv_has ls 5 [(0, .ref h0), (1, .int a0), (2, .int a1), (3, .int y3_36), (4, .int y4_51)] → HT g Ty G H → va_S (AF Ty s.heap.size) s.heap H locs → Wm p l e (wsG yX1_countCases cX1_countCases 5 none) ({ frames := 0, cells := 0, slots := 0, locals := 0 }) s m [.ref h0, .int a0, .int a1] below meth c H locs (0) (0) (QwV g Ty s.heap.size (fun u => u = (Ty, G))) 0 0 (AF Ty s.heap.size) (F0 m 51 ls []) := by
        intro n
        induction n with
        | zero => intro H locs y4_51 ls ry1_51 ry3_51 ry4_51 hm; exact absurd hm (Nat.not_lt_zero _)
        | succ n ih_51 =>
          intro H locs y4_51 ls ry1_51 ry3_51 ry4_51 hm_51 hl hH hS
          refine lv_iload hx hb dX1_countCases_51 (lv_at hl 4 rfl) ?_
          refine lv_if_le (tgt := 95) hx hb dX1_countCases_53 (by decide) (fun c_1 => ?_) (fun c_1 => ?_)
          · have r_2 : rgI (0) (0) y4_51 := rg_w (rg_leL ry4_51 rl_0 c_1) (by decide) (by decide)
            refine lv_aload_n hx hb dX1_countCases_95 rfl (lv_at hl 0 rfl) ?_
            obtain ⟨_, ⟨q_4, q_5, q_6, rfl, kq_4⟩, o_c_3⟩ := hH h0 _ k_h0
            refine hg_get hx hb hG igX1 hown hK o_c_3 rfl 0 (by decide) (hG _ mw_345) rfl dX1_countCases_96 ?_
            refine lv_iconst (v := 0) hx hb dX1_countCases_99 (by decide) ?_
            refine lv_dup2_11 hx hb dX1_countCases_100 rfl rfl ?_
            obtain ⟨_, ⟨f_8, rfl⟩, o_c_7⟩ := hH q_4 _ kq_4
            refine hg_lald hx hb hK o_c_7 (rg_in (n := 17) rl_0 (by decide) (by decide)) dX1_countCases_101 ?_
            refine lv_topl (fun u_9 eu_9 => ?_)
            refine lv_bipush (v := 10) hx hb dX1_countCases_102 (by decide) ?_
            refine lv_iload_n hx hb dX1_countCases_104 rfl (lv_at hl 2 rfl) ?_
            refine lv_isub hx hb dX1_countCases_105 ?_
            refine lv_topi (fun x_10 ex_10 => ?_)
            refine lv_i2l hx hb dX1_countCases_106 rfl ?_
            refine lv_topl (fun u_11 eu_11 => ?_)
            refine lv_lmul hx hb dX1_countCases_107 ?_
            refine lv_topl (fun u_12 eu_12 => ?_)
            refine hg_last hx hb hK hS o_c_7 (AF.of kq_4) (rg_in (n := 17) rl_0 (by decide) (by decide)) dX1_countCases_108 (fun H locs o_c_7 hz oq hS => ?_)
            generalize hff_13 : vp_updL f_8 _ u_12 = f_13 at o_c_7
            have hH : HT g Ty G H := hH.put kq_4 ⟨_, rfl⟩ o_c_7 oq
            have o_c_3 := o_c_3.kept (oq _ (ne_kd k_h0 kq_4 (by decide)))
            clear oq hz
            refine lv_aload_n hx hb dX1_countCases_109 rfl (lv_at hl 0 rfl) ?_
            refine lv_dup hx hb dX1_countCases_110 rfl ?_
            refine hg_get hx hb hG igX1 hown hK o_c_3 rfl 2 (by decide) (hG _ mw_348) rfl dX1_countCases_111 ?_
            refine lv_ldc2 (v := 10) hx hb hown (hG _ mw_1119) dX1_countCases_114 ?_
            refine lv_lmul hx hb dX1_countCases_117 ?_
            refine lv_topl (fun u_14 eu_14 => ?_)
            refine hg_put (ty := .long) hx hb hG igX1 tyX1 tyX1_ok nmX1 hown hK hS o_c_3 (AF.of k_h0) rfl 2 (by decide) (hG _ mw_348) rfl (by decide +kernel) rfl rfl (Nat.le_of_ble_eq_true rfl) dX1_countCases_118 (fun H locs o_c_3 hz oq hS => ?_)
            have o_c_3 : va_at g.1 vwCl (h0, .inr (1, [.ref q_4, .long q_5, .long u_14])) H := o_c_3
            have hH : HT g Ty G H := hH.put k_h0 ⟨q_4, q_5, u_14, rfl, kq_4⟩ o_c_3 oq
            have o_c_7 := o_c_7.kept (oq _ (ne_kd kq_4 k_h0 (by decide)))
            clear oq hz
            obtain ⟨x_15, ex_15⟩ : ∃ y : Int32, y = y3_36 + 1 := ⟨_, rfl⟩
            have rx_15 : rgI (1) (16) x_15 := by rw [ex_15]; exact rg_w (rg_add ry3_51 rl_1 (by decide) (by decide)) (by decide) (by decide)
            have qx_15 : x_15.toInt = (y3_36 : Int32).toInt + 1 := by rw [ex_15]; exact rg_addE ry3_51 rl_1 (by decide) (by decide)
            refine lv_iinc (v := x_15) (lv' := [(3, .int x_15), (0, .ref h0), (1, .int a0), (2, .int a1), (4, .int y4_51)]) hx hb dX1_countCases_121 hl (k := 3) rfl (by rw [ex_15]; rfl) (by decide) rfl (fun ls hl => ?_)
            refine lv_goto (tgt := 36) hx hb dX1_countCases_124 (by decide) ?_
            exact ih_36 H locs x_15 ls (rg_w rx_15 (by decide) (by decide)) (by have h1 := qx_15; have h2 := ry3_51.1; have h3 := ry3_51.2; have h4 := hm_36; omega) (lv_sub hl [1, 2, 3, 0] rfl) hH hS
          · have r_16 : rgI (1) (16) y4_51 := rg_w (rg_ltR rl_0 ry4_51 (nle_lt c_1)) (by decide) (by decide)
            refine lv_aload_n hx hb dX1_countCases_56 rfl (lv_at hl 0 rfl) ?_
            obtain ⟨_, ⟨q_18, q_19, q_20, rfl, kq_18⟩, o_c_17⟩ := hH h0 _ k_h0
            refine hg_get hx hb hG igX1 hown hK o_c_17 rfl 0 (by decide) (hG _ mw_345) rfl dX1_countCases_57 ?_
            refine lv_iload hx hb dX1_countCases_60 (lv_at hl 4 rfl) ?_
            refine lv_aload_n hx hb dX1_countCases_62 rfl (lv_at hl 0 rfl) ?_
            refine hg_get hx hb hG igX1 hown hK o_c_17 rfl 0 (by decide) (hG _ mw_345) rfl dX1_countCases_63 ?_
            refine lv_iload hx hb dX1_countCases_66 (lv_at hl 4 rfl) ?_
            obtain ⟨_, ⟨f_22, rfl⟩, o_c_21⟩ := hH q_18 _ kq_18
            refine hg_lald hx hb hK o_c_21 (rg_in (n := 17) r_16 (by decide) (by decide)) dX1_countCases_68 ?_
            refine lv_topl (fun u_23 eu_23 => ?_)
            refine lv_bipush (v := 10) hx hb dX1_countCases_69 (by decide) ?_
            refine lv_iload_n hx hb dX1_countCases_71 rfl (lv_at hl 2 rfl) ?_
            refine lv_isub hx hb dX1_countCases_72 ?_
            refine lv_topi (fun x_24 ex_24 => ?_)
            refine lv_i2l hx hb dX1_countCases_73 rfl ?_
            refine lv_topl (fun u_25 eu_25 => ?_)
            refine lv_lmul hx hb dX1_countCases_74 ?_
            refine lv_topl (fun u_26 eu_26 => ?_)
            refine lv_aload_n hx hb dX1_countCases_75 rfl (lv_at hl 0 rfl) ?_
            refine hg_get hx hb hG igX1 hown hK o_c_17 rfl 0 (by decide) (hG _ mw_345) rfl dX1_countCases_76 ?_
            refine lv_iload hx hb dX1_countCases_79 (lv_at hl 4 rfl) ?_
            refine lv_iconst (v := 1) hx hb dX1_countCases_81 (by decide) ?_
            refine lv_isub hx hb dX1_countCases_82 ?_
            refine lv_topi (fun x_27 ex_27 => ?_)
            have rx_27 : rgI (0) (15) x_27 := by rw [ex_27]; exact rg_w (rg_sub r_16 rl_1 (by decide) (by decide)) (by decide) (by decide)
            refine hg_lald hx hb hK o_c_21 (rg_in (n := 17) rx_27 (by decide) (by decide)) dX1_countCases_83 ?_
            refine lv_topl (fun u_28 eu_28 => ?_)
            refine lv_iload_n hx hb dX1_countCases_84 rfl (lv_at hl 2 rfl) ?_
            refine lv_i2l hx hb dX1_countCases_85 rfl ?_
            refine lv_topl (fun u_29 eu_29 => ?_)
            refine lv_lmul hx hb dX1_countCases_86 ?_
            refine lv_topl (fun u_30 eu_30 => ?_)
            refine lv_ladd hx hb dX1_countCases_87 ?_
            refine lv_topl (fun u_31 eu_31 => ?_)
            refine hg_last hx hb hK hS o_c_21 (AF.of kq_18) (rg_in (n := 17) r_16 (by decide) (by decide)) dX1_countCases_88 (fun H locs o_c_21 hz oq hS => ?_)
            generalize hff_32 : vp_updL f_22 _ u_31 = f_32 at o_c_21
            have hH : HT g Ty G H := hH.put kq_18 ⟨_, rfl⟩ o_c_21 oq
            have o_c_17 := o_c_17.kept (oq _ (ne_kd k_h0 kq_18 (by decide)))
            clear oq hz
            obtain ⟨x_33, ex_33⟩ : ∃ y : Int32, y = y4_51 + (-1) := ⟨_, rfl⟩
            have rx_33 : rgI (0) (15) x_33 := by rw [ex_33]; exact rg_w (rg_add r_16 rl_m1 (by decide) (by decide)) (by decide) (by decide)
            have qx_33 : x_33.toInt = (y4_51 : Int32).toInt + (-1) := by rw [ex_33]; exact rg_addE r_16 rl_m1 (by decide) (by decide)
            refine lv_iinc (v := x_33) (lv' := [(4, .int x_33), (0, .ref h0), (1, .int a0), (2, .int a1), (3, .int y3_36)]) hx hb dX1_countCases_89 hl (k := 4) rfl (by rw [ex_33]; rfl) (by decide) rfl (fun ls hl => ?_)
            refine lv_goto (tgt := 51) hx hb dX1_countCases_92 (by decide) ?_
            exact ih_51 H locs x_33 ls ry1_51 ry3_51 (rg_w rx_33 (by decide) (by decide)) (by have h1 := qx_33; have h2 := r_16.1; have h3 := r_16.2; have h4 := hm_51; omega) (lv_sub hl [1, 2, 3, 4, 0] rfl) hH hS
      refine lv_iload_n hx hb dX1_countCases_36 rfl (lv_at hl 3 rfl) ?_
      refine lv_iload_n hx hb dX1_countCases_37 rfl (lv_at hl 1 rfl) ?_
      refine lv_icmp_ge (tgt := 127) hx hb dX1_countCases_38 (by decide) (fun c_34 => ?_) (fun c_34 => ?_)
      · have r_35 : rgI (-2147483648) (16) a0 := rg_w (rg_leL (rg_top a0) ry3_36 c_34) (by decide) (by decide)
        exact W.vret hx hb hr (fun t ht hWm => ⟨⟨(Ty, G), rfl, rfl, by show HT g Ty G t.heap; rw [ht]; exact hH⟩, hS.F ht⟩) hS.2.2 dX1_countCases_127
      · have r_36 : rgI (1) (2147483647) a0 := rg_w (rg_ltR ry3_36 (rg_top a0) (nle_lt c_34)) (by decide) (by decide)
        refine lv_iload_n hx hb dX1_countCases_41 rfl (lv_at hl 3 rfl) ?_
        refine lv_bipush (v := 16) hx hb dX1_countCases_42 (by decide) ?_
        refine lv_icmp_ge (tgt := 127) hx hb dX1_countCases_44 (by decide) (fun c_37 => ?_) (fun c_37 => ?_)
        · have r_38 : rgI (16) (16) y3_36 := rg_w (rg_leR rl_16 ry3_36 c_37) (by decide) (by decide)
          exact W.vret hx hb hr (fun t ht hWm => ⟨⟨(Ty, G), rfl, rfl, by show HT g Ty G t.heap; rw [ht]; exact hH⟩, hS.F ht⟩) hS.2.2 dX1_countCases_127
        · have r_39 : rgI (0) (15) y3_36 := rg_w (rg_ltL ry3_36 rl_16 (nle_lt c_37)) (by decide) (by decide)
          refine lv_bipush (v := 16) hx hb dX1_countCases_47 (by decide) ?_
          refine lv_istore (lv' := [(4, .int 16), (0, .ref h0), (1, .int a0), (2, .int a1), (3, .int y3_36)]) hx hb dX1_countCases_49 hl (by decide) rfl (fun ls hl => ?_)
          exact L_51 _ H locs 16 ls r_36 r_39 (rg_w rl_16 (by decide) (by decide)) (Nat.lt_succ_self _) (lv_sub hl [1, 2, 3, 4, 0] rfl) hH hS
  have L_2 : ∀ (n : Nat) (H : Heap) (locs : List Loc) (y3_2 : Int32) (ls : Array Slot), rgI (0) (17) y3_2 → (17 - (y3_2).toInt).toNat < n → lv_has ls 5 [(0, .ref h0), (1, .int a0), (2, .int a1), (3, .int y3_2)] → HT g Ty G H → va_S (AF Ty s.heap.size) s.heap H locs → Wm p l e (wsG yX1_countCases cX1_countCases 5 none) ({ frames := 0, cells := 0, slots := 0, locals := 0 }) s m [.ref h0, .int a0, .int a1] below meth c H locs (0) (0) (QwV g Ty s.heap.size (fun u => u = (Ty, G))) 0 0 (AF Ty s.heap.size) (F0 m 2 ls []) := by
    intro n
    induction n with
    | zero => intro H locs y3_2 ls ry3_2 hm; exact absurd hm (Nat.not_lt_zero _)
    | succ n ih_2 =>
      intro H locs y3_2 ls ry3_2 hm_2 hl hH hS
      have L_22 : ∀ (H : Heap) (locs : List Loc) (z0_22 : Int64) (z2_22 : Nat) (ls : Array Slot), rgI (0) (16) y3_2 → rgI (0) (16) y3_2 → Ty z2_22 = some (1, 17) → lv_has ls 5 [(0, .ref h0), (1, .int a0), (2, .int a1), (3, .int y3_2)] → HT g Ty G H → va_S (AF Ty s.heap.size) s.heap H locs → Wm p l e (wsG yX1_countCases cX1_countCases 5 none) ({ frames := 0, cells := 0, slots := 0, locals := 0 }) s m [.ref h0, .int a0, .int a1] below meth c H locs (0) (0) (QwV g Ty s.heap.size (fun u => u = (Ty, G))) 0 0 (AF Ty s.heap.size) (F0 m 22 ls [.long z0_22, .int y3_2, .ref z2_22]) := by
        intro H locs z0_22 z2_22 ls ry3_22 rz1_22 kz2_22 hl hH hS
        obtain ⟨_, ⟨f_41, rfl⟩, o_c_40⟩ := hH z2_22 _ kz2_22
        refine hg_last hx hb hK hS o_c_40 (AF.of kz2_22) (rg_in (n := 17) rz1_22 (by decide) (by decide)) dX1_countCases_22 (fun H locs o_c_40 hz oq hS => ?_)
        generalize hff_42 : vp_updL f_41 _ z0_22 = f_42 at o_c_40
        have hH : HT g Ty G H := hH.put kz2_22 ⟨_, rfl⟩ o_c_40 oq
        clear oq hz
        obtain ⟨x_43, ex_43⟩ : ∃ y : Int32, y = y3_2 + 1 := ⟨_, rfl⟩
        have rx_43 : rgI (1) (17) x_43 := by rw [ex_43]; exact rg_w (rg_add ry3_22 rl_1 (by decide) (by decide)) (by decide) (by decide)
        have qx_43 : x_43.toInt = (y3_2 : Int32).toInt + 1 := by rw [ex_43]; exact rg_addE ry3_22 rl_1 (by decide) (by decide)
        refine lv_iinc (v := x_43) (lv' := [(3, .int x_43), (0, .ref h0), (1, .int a0), (2, .int a1)]) hx hb dX1_countCases_23 hl (k := 3) rfl (by rw [ex_43]; rfl) (by decide) rfl (fun ls hl => ?_)
        refine lv_goto (tgt := 2) hx hb dX1_countCases_26 (by decide) ?_
        exact ih_2 H locs x_43 ls (rg_w rx_43 (by decide) (by decide)) (by have h1 := qx_43; have h2 := ry3_22.1; have h3 := ry3_22.2; have h4 := hm_2; omega) (lv_sub hl [1, 2, 3, 0] rfl) hH hS
      refine lv_iload_n hx hb dX1_countCases_2 rfl (lv_at hl 3 rfl) ?_
      refine lv_bipush (v := 16) hx hb dX1_countCases_3 (by decide) ?_
      refine lv_icmp_gt (tgt := 29) hx hb dX1_countCases_5 (by decide) (fun c_44 => ?_) (fun c_44 => ?_)
      · have r_45 : rgI (17) (17) y3_2 := rg_w (rg_ltR rl_16 ry3_2 c_44) (by decide) (by decide)
        refine lv_aload_n hx hb dX1_countCases_29 rfl (lv_at hl 0 rfl) ?_
        refine lv_lconst (v := 1) hx hb dX1_countCases_30 (by decide) ?_
        obtain ⟨_, ⟨q_47, q_48, q_49, rfl, kq_47⟩, o_c_46⟩ := hH h0 _ k_h0
        refine hg_put (ty := .long) hx hb hG igX1 tyX1 tyX1_ok nmX1 hown hK hS o_c_46 (AF.of k_h0) rfl 2 (by decide) (hG _ mw_348) rfl (by decide +kernel) rfl rfl (Nat.le_of_ble_eq_true rfl) dX1_countCases_31 (fun H locs o_c_46 hz oq hS => ?_)
        have o_c_46 : va_at g.1 vwCl (h0, .inr (1, [.ref q_47, .long q_48, .long 1])) H := o_c_46
        have hH : HT g Ty G H := hH.put k_h0 ⟨q_47, q_48, 1, rfl, kq_47⟩ o_c_46 oq
        clear oq hz
        refine lv_iconst (v := 0) hx hb dX1_countCases_34 (by decide) ?_
        refine lv_istore_n (lv' := [(3, .int 0), (0, .ref h0), (1, .int a0), (2, .int a1)]) hx hb dX1_countCases_35 rfl hl (by decide) rfl (fun ls hl => ?_)
        exact L_36 _ H locs 0 ls (rg_w rl_0 (by decide) (by decide)) (Nat.lt_succ_self _) (lv_sub hl [1, 2, 3, 0] rfl) hH hS
      · have r_50 : rgI (0) (16) y3_2 := rg_w (rg_leL ry3_2 rl_16 (nlt_le c_44)) (by decide) (by decide)
        refine lv_aload_n hx hb dX1_countCases_8 rfl (lv_at hl 0 rfl) ?_
        obtain ⟨_, ⟨q_52, q_53, q_54, rfl, kq_52⟩, o_c_51⟩ := hH h0 _ k_h0
        refine hg_get hx hb hG igX1 hown hK o_c_51 rfl 0 (by decide) (hG _ mw_345) rfl dX1_countCases_9 ?_
        refine lv_iload_n hx hb dX1_countCases_12 rfl (lv_at hl 3 rfl) ?_
        refine lv_iload_n hx hb dX1_countCases_13 rfl (lv_at hl 3 rfl) ?_
        refine lv_if_ne (tgt := 21) hx hb dX1_countCases_14 (by decide) (fun c_55 => ?_) (fun c_55 => ?_)
        · have r_56 : rgI (1) (16) y3_2 := rg_w (rg_neL r_50 rl_0 c_55) (by decide) (by decide)
          refine lv_lconst (v := 0) hx hb dX1_countCases_21 (by decide) ?_
          exact L_22 H locs 0 q_52 ls (rg_w r_56 (by decide) (by decide)) (rg_w r_56 (by decide) (by decide)) kq_52 (lv_sub hl [0, 1, 2, 3] rfl) hH hS
        · have r_57 : rgI (0) (0) y3_2 := rg_w (rg_eq rl_0 c_55) (by decide) (by decide)
          refine lv_lconst (v := 1) hx hb dX1_countCases_17 (by decide) ?_
          refine lv_goto (tgt := 22) hx hb dX1_countCases_18 (by decide) ?_
          exact L_22 H locs 1 q_52 ls (rg_w r_57 (by decide) (by decide)) (rg_w r_57 (by decide) (by decide)) kq_52 (lv_sub hl [0, 1, 2, 3] rfl) hH hS
  refine lv_iconst (v := 0) hx hb dX1_countCases_0 (by decide) ?_
  refine lv_istore_n (lv' := [(3, .int 0), (0, .ref h0), (1, .int a0), (2, .int a1)]) hx hb dX1_countCases_1 rfl hl (by decide) rfl (fun ls hl => ?_)
  exact L_2 _ s.heap [] 0 ls (rg_w rl_0 (by decide) (by decide)) (Nat.lt_succ_self _) (lv_sub hl [1, 2, 3, 0] rfl) hH hS

set_option maxHeartbeats 4000000 in
set_option maxRecDepth 100000 in
theorem c_X1_commonDivisor (l : Launch) (g : Gx) (Ty : TyM) (G : Gh) (j0 : Int64) (j1 : Int64) : Met l yX1_commonDivisor (wsG yX1_commonDivisor cX1_commonDivisor 11 (some .long)) ({ frames := 0, cells := 0, slots := 0, locals := 0 }) (PcH g Ty G [.long j0, .long j1]) (vp_Sl (fun _ => True)) 0 0 (fun _ => False) := by
  refine Met.ofW (cc := cX1_commonDivisor) (maxL := 11) (ret := (some .long)) (by decide) rfl ?_
  intro p e s m args below meth c s₁ B hml hv
  obtain ⟨rfl, hK, hH⟩ := hv
  have hx := B.exec
  have hb := B.bytes
  have hr := B.returns
  have hts := atoms_spec (ws := (wsG yX1_commonDivisor cX1_commonDivisor 11 (some .long))) B.pre
  have hG : ∀ w ∈ GW, w.before ([.long j0, .long j1] : List Value).toArray s = true := fun w h => hts w (List.mem_cons_of_mem _ h)
  have hown : s.vm.findClass RX1 = some m.cls := findClass_of_methodNamed B.named
  have hlocks := B.notSynchronized
  have hl := lv_entry [.long j0, .long j1] (n := 11) (Nat.le_of_ble_eq_true rfl)
  rw [lg_entry_eq]
  generalize (lg_sl [.long j0, .long j1] ++ List.replicate (11 - (lg_sl [.long j0, .long j1]).length) Slot.unset).toArray = ls at hl ⊢
  have hl : lv_has ls 11 [(0, .long j0), (2, .long j1)] := hl
  have L_45 : ∀ (y4_45 : Int64) (ls : Array Slot), lv_has ls 11 [(4, .long y4_45)] → Wm p l e (wsG yX1_commonDivisor cX1_commonDivisor 11 (some .long)) ({ frames := 0, cells := 0, slots := 0, locals := 0 }) s m [.long j0, .long j1] below meth c s.heap [] (0) (0) (vp_Sl (fun _ => True)) 0 0 (fun _ => False) (F0 m 45 ls []) := by
    intro y4_45 ls hl
    refine lv_lload hx hb dX1_commonDivisor_45 (lv_at hl 0 rfl) ?_
    exact W.lret hx hb hr (fun t ht hW => ⟨y4_45, rfl, trivial, ht⟩) (fun q h => by cases h) dX1_commonDivisor_47
  have L_9 : ∀ (n : Nat) (y4_9 : Int64) (y6_9 : Int64) (y8_9 : Int32) (ls : Array Slot), rgI (0) (200) y8_9 → (200 - (y8_9).toInt).toNat < n → lv_has ls 11 [(4, .long y4_9), (6, .long y6_9), (8, .int y8_9)] → Wm p l e (wsG yX1_commonDivisor cX1_commonDivisor 11 (some .long)) ({ frames := 0, cells := 0, slots := 0, locals := 0 }) s m [.long j0, .long j1] below meth c s.heap [] (0) (0) (vp_Sl (fun _ => True)) 0 0 (fun _ => False) (F0 m 9 ls []) := by
    intro n
    induction n with
    | zero => intro y4_9 y6_9 y8_9 ls ry8_9 hm; exact absurd hm (Nat.not_lt_zero _)
    | succ n ih_9 =>
      intro y4_9 y6_9 y8_9 ls ry8_9 hm_9 hl
      refine lv_iload hx hb dX1_commonDivisor_9 (lv_at hl 2 rfl) ?_
      refine lv_sipush (v := 200) hx hb dX1_commonDivisor_11 (by decide) ?_
      refine lv_icmp_ge (tgt := 45) hx hb dX1_commonDivisor_14 (by decide) (fun c_1 => ?_) (fun c_1 => ?_)
      · have r_2 : rgI (200) (200) y8_9 := rg_w (rg_leR rl_200 ry8_9 c_1) (by decide) (by decide)
        exact L_45 y4_9 ls (lv_sub hl [0] rfl)
      · have r_3 : rgI (0) (199) y8_9 := rg_w (rg_ltL ry8_9 rl_200 (nle_lt c_1)) (by decide) (by decide)
        refine lv_lload hx hb dX1_commonDivisor_17 (lv_at hl 1 rfl) ?_
        refine lv_lconst (v := 0) hx hb dX1_commonDivisor_19 (by decide) ?_
        refine W.lcmp hx hb dX1_commonDivisor_20 ?_
        refine lv_topi (fun x_4 ex_4 => ?_)
        refine lv_if_eq (tgt := 45) hx hb dX1_commonDivisor_21 (by decide) (fun c_5 => ?_) (fun c_5 => ?_)
        · have r_6 : rgI (0) (0) x_4 := rg_w (rg_eq rl_0 c_5) (by decide) (by decide)
          exact L_45 y4_9 ls (lv_sub hl [0] rfl)
        · refine lv_lload hx hb dX1_commonDivisor_24 (lv_at hl 0 rfl) ?_
          refine lv_lload hx hb dX1_commonDivisor_26 (lv_at hl 1 rfl) ?_
          refine lv_lrem hx hb dX1_commonDivisor_28 (lc_ne ex_4 c_5) ?_
          refine lv_topl (fun u_7 eu_7 => ?_)
          refine lv_lstore (lv' := [(9, .long u_7), (4, .long y4_9), (6, .long y6_9), (8, .int y8_9)]) hx hb dX1_commonDivisor_29 hl (by decide) rfl (fun ls hl => ?_)
          refine lv_lload hx hb dX1_commonDivisor_31 (lv_at hl 2 rfl) ?_
          refine lv_lstore (lv' := [(4, .long y6_9), (9, .long u_7), (6, .long y6_9), (8, .int y8_9)]) hx hb dX1_commonDivisor_33 hl (by decide) rfl (fun ls hl => ?_)
          refine lv_lload hx hb dX1_commonDivisor_35 (lv_at hl 1 rfl) ?_
          refine lv_lstore (lv' := [(6, .long u_7), (4, .long y6_9), (9, .long u_7), (8, .int y8_9)]) hx hb dX1_commonDivisor_37 hl (by decide) rfl (fun ls hl => ?_)
          obtain ⟨x_8, ex_8⟩ : ∃ y : Int32, y = y8_9 + 1 := ⟨_, rfl⟩
          have rx_8 : rgI (1) (200) x_8 := by rw [ex_8]; exact rg_w (rg_add r_3 rl_1 (by decide) (by decide)) (by decide) (by decide)
          have qx_8 : x_8.toInt = (y8_9 : Int32).toInt + 1 := by rw [ex_8]; exact rg_addE r_3 rl_1 (by decide) (by decide)
          refine lv_iinc (v := x_8) (lv' := [(8, .int x_8), (6, .long u_7), (4, .long y6_9), (9, .long u_7)]) hx hb dX1_commonDivisor_39 hl (k := 3) rfl (by rw [ex_8]; rfl) (by decide) rfl (fun ls hl => ?_)
          refine lv_goto (tgt := 9) hx hb dX1_commonDivisor_42 (by decide) ?_
          exact ih_9 y6_9 u_7 x_8 ls (rg_w rx_8 (by decide) (by decide)) (by have h1 := qx_8; have h2 := r_3.1; have h3 := r_3.2; have h4 := hm_9; omega) (lv_sub hl [2, 1, 0] rfl)
  refine lv_lload_n hx hb dX1_commonDivisor_0 rfl (lv_at hl 0 rfl) ?_
  refine lv_lstore (lv' := [(4, .long j0), (0, .long j0), (2, .long j1)]) hx hb dX1_commonDivisor_1 hl (by decide) rfl (fun ls hl => ?_)
  refine lv_lload_n hx hb dX1_commonDivisor_3 rfl (lv_at hl 2 rfl) ?_
  refine lv_lstore (lv' := [(6, .long j1), (4, .long j0), (0, .long j0), (2, .long j1)]) hx hb dX1_commonDivisor_4 hl (by decide) rfl (fun ls hl => ?_)
  refine lv_iconst (v := 0) hx hb dX1_commonDivisor_6 (by decide) ?_
  refine lv_istore (lv' := [(8, .int 0), (6, .long j1), (4, .long j0), (0, .long j0), (2, .long j1)]) hx hb dX1_commonDivisor_7 hl (by decide) rfl (fun ls hl => ?_)
  exact L_9 _ j0 j1 0 ls (rg_w rl_0 (by decide) (by decide)) (Nat.lt_succ_self _) (lv_sub hl [2, 1, 0] rfl)

set_option maxHeartbeats 4000000 in
set_option maxRecDepth 100000 in
theorem c_X1_reckon (l : Launch) (g : Gx) (Ty : TyM) (G : Gh) (sz : Nat) (h0 : Nat) (a0 : Int32) (a1 : Int32) (a2 : Int32) (k_h0 : Ty h0 = some (11, 0)) : Met l yX1_reckon (wsG yX1_reckon cX1_reckon 6 none) ({ frames := 1, cells := 0, slots := 0, locals := 30 }) (PcT g Ty G sz [.ref h0, .int a0, .int a1, .int a2]) (QwV g Ty sz (fun u => u = (Ty, G))) 0 0 (AF Ty sz) := by
  refine Met.ofW (cc := cX1_reckon) (maxL := 6) (ret := none) (by decide) rfl ?_
  intro p e s m args below meth c s₁ B hml hv
  obtain ⟨rfl, hsz, hK, hH⟩ := hv
  subst hsz
  have hx := B.exec
  have hb := B.bytes
  have hr := B.returns
  have hts := atoms_spec (ws := (wsG yX1_reckon cX1_reckon 6 none)) B.pre
  have hG : ∀ w ∈ GW, w.before ([.ref h0, .int a0, .int a1, .int a2] : List Value).toArray s = true := fun w h => hts w (List.mem_cons_of_mem _ h)
  have hown : s.vm.findClass RX1 = some m.cls := findClass_of_methodNamed B.named
  have hlocks := B.notSynchronized
  have hl := lv_entry [.ref h0, .int a0, .int a1, .int a2] (n := 6) (Nat.le_of_ble_eq_true rfl)
  rw [lg_entry_eq]
  generalize (lg_sl [.ref h0, .int a0, .int a1, .int a2] ++ List.replicate (6 - (lg_sl [.ref h0, .int a0, .int a1, .int a2]).length) Slot.unset).toArray = ls at hl ⊢
  have hl : lv_has ls 6 [(0, .ref h0), (1, .int a0), (2, .int a1), (3, .int a2)] := hl
  have hS : va_S (AF Ty s.heap.size) s.heap s.heap [] := va_S.rf
  have L_53 : ∀ (H : Heap) (locs : List Loc) (ls : Array Slot), lv_has ls 6 [(0, .ref h0)] → HT g Ty G H → va_S (AF Ty s.heap.size) s.heap H locs → Wm p l e (wsG yX1_reckon cX1_reckon 6 none) ({ frames := 1, cells := 0, slots := 0, locals := 30 }) s m [.ref h0, .int a0, .int a1, .int a2] below meth c H locs (0) (0) (QwV g Ty s.heap.size (fun u => u = (Ty, G))) 0 0 (AF Ty s.heap.size) (F0 m 53 ls []) := by
    intro H locs ls hl hH hS
    refine lv_aload_n hx hb dX1_reckon_53 rfl (lv_at hl 0 rfl) ?_
    obtain ⟨_, ⟨q_2, q_3, q_4, rfl, kq_2⟩, o_c_1⟩ := hH h0 _ k_h0
    refine hg_get hx hb hG igX1 hown hK o_c_1 rfl 1 (by decide) (hG _ mw_346) rfl dX1_reckon_54 ?_
    refine lv_aload_n hx hb dX1_reckon_57 rfl (lv_at hl 0 rfl) ?_
    refine hg_get hx hb hG igX1 hown hK o_c_1 rfl 2 (by decide) (hG _ mw_348) rfl dX1_reckon_58 ?_
    refine vp_callSl (W.runS (As := [.long q_3, .long q_4]) (rest := []) ⟨hx, hb, hml, hown, hts⟩ (c_X1_commonDivisor l g Ty G q_3 q_4 ) (cwSx 2 hts hG (gwC mw_1123) mw_87 mw_1121 mw_1122 rfl rfl rfl hd_X1_commonDivisor ⟨Nat.le_of_ble_eq_true rfl, Nat.le_of_ble_eq_true rfl⟩) ⟨PcH_blind, PcH_pre hK hH⟩ rfl rfl hl.1 rfl (lv_room (Nat.le_of_ble_eq_true rfl)) dX1_reckon_61 ⟨Nat.zero_le _, Nat.zero_le _⟩) (fun x_5 hx_5 => ?_)
    refine lv_lstore (lv' := [(4, .long x_5), (0, .ref h0)]) hx hb dX1_reckon_64 hl (by decide) rfl (fun ls hl => ?_)
    refine lv_lload hx hb dX1_reckon_66 (lv_at hl 0 rfl) ?_
    refine lv_lconst (v := 0) hx hb dX1_reckon_68 (by decide) ?_
    refine W.lcmp hx hb dX1_reckon_69 ?_
    refine lv_topi (fun x_6 ex_6 => ?_)
    refine lv_if_le (tgt := 95) hx hb dX1_reckon_70 (by decide) (fun c_7 => ?_) (fun c_7 => ?_)
    · have r_8 : rgI (-2147483648) (0) x_6 := rg_w (rg_leL (rg_top x_6) rl_0 c_7) (by decide) (by decide)
      exact W.vret hx hb hr (fun t ht hWm => ⟨⟨(Ty, G), rfl, rfl, by show HT g Ty G t.heap; rw [ht]; exact hH⟩, hS.F ht⟩) hS.2.2 dX1_reckon_95
    · have r_9 : rgI (1) (2147483647) x_6 := rg_w (rg_ltR rl_0 (rg_top x_6) (nle_lt c_7)) (by decide) (by decide)
      refine lv_aload_n hx hb dX1_reckon_73 rfl (lv_at hl 1 rfl) ?_
      refine lv_dup hx hb dX1_reckon_74 rfl ?_
      refine hg_get hx hb hG igX1 hown hK o_c_1 rfl 1 (by decide) (hG _ mw_346) rfl dX1_reckon_75 ?_
      refine lv_lload hx hb dX1_reckon_78 (lv_at hl 0 rfl) ?_
      refine lv_ldiv hx hb dX1_reckon_80 (lc_pos ex_6 c_7) ?_
      refine lv_topl (fun u_10 eu_10 => ?_)
      refine hg_put (ty := .long) hx hb hG igX1 tyX1 tyX1_ok nmX1 hown hK hS o_c_1 (AF.of k_h0) rfl 1 (by decide) (hG _ mw_346) rfl (by decide +kernel) rfl rfl (Nat.le_of_ble_eq_true rfl) dX1_reckon_81 (fun H locs o_c_1 hz oq hS => ?_)
      have o_c_1 : va_at g.1 vwCl (h0, .inr (1, [.ref q_2, .long u_10, .long q_4])) H := o_c_1
      have hH : HT g Ty G H := hH.put k_h0 ⟨q_2, u_10, q_4, rfl, kq_2⟩ o_c_1 oq
      clear oq hz
      refine lv_aload_n hx hb dX1_reckon_84 rfl (lv_at hl 1 rfl) ?_
      refine lv_dup hx hb dX1_reckon_85 rfl ?_
      refine hg_get hx hb hG igX1 hown hK o_c_1 rfl 2 (by decide) (hG _ mw_348) rfl dX1_reckon_86 ?_
      refine lv_lload hx hb dX1_reckon_89 (lv_at hl 0 rfl) ?_
      refine lv_ldiv hx hb dX1_reckon_91 (lc_pos ex_6 c_7) ?_
      refine lv_topl (fun u_11 eu_11 => ?_)
      refine hg_put (ty := .long) hx hb hG igX1 tyX1 tyX1_ok nmX1 hown hK hS o_c_1 (AF.of k_h0) rfl 2 (by decide) (hG _ mw_348) rfl (by decide +kernel) rfl rfl (Nat.le_of_ble_eq_true rfl) dX1_reckon_92 (fun H locs o_c_1 hz oq hS => ?_)
      have o_c_1 : va_at g.1 vwCl (h0, .inr (1, [.ref q_2, .long u_10, .long u_11])) H := o_c_1
      have hH : HT g Ty G H := hH.put k_h0 ⟨q_2, u_10, u_11, rfl, kq_2⟩ o_c_1 oq
      clear oq hz
      exact W.vret hx hb hr (fun t ht hWm => ⟨⟨(Ty, G), rfl, rfl, by show HT g Ty G t.heap; rw [ht]; exact hH⟩, hS.F ht⟩) hS.2.2 dX1_reckon_95
  have L_18 : ∀ (n : Nat) (H : Heap) (locs : List Loc) (y4_18 : Int32) (ls : Array Slot), rgI (0) (2147483647) y4_18 → (17 - (y4_18).toInt).toNat < n → lv_has ls 6 [(0, .ref h0), (1, .int a0), (4, .int y4_18)] → HT g Ty G H → va_S (AF Ty s.heap.size) s.heap H locs → Wm p l e (wsG yX1_reckon cX1_reckon 6 none) ({ frames := 1, cells := 0, slots := 0, locals := 30 }) s m [.ref h0, .int a0, .int a1, .int a2] below meth c H locs (0) (0) (QwV g Ty s.heap.size (fun u => u = (Ty, G))) 0 0 (AF Ty s.heap.size) (F0 m 18 ls []) := by
    intro n
    induction n with
    | zero => intro H locs y4_18 ls ry4_18 hm; exact absurd hm (Nat.not_lt_zero _)
    | succ n ih_18 =>
      intro H locs y4_18 ls ry4_18 hm_18 hl hH hS
      refine lv_iload hx hb dX1_reckon_18 (lv_at hl 2 rfl) ?_
      refine lv_iload_n hx hb dX1_reckon_20 rfl (lv_at hl 1 rfl) ?_
      refine lv_icmp_gt (tgt := 53) hx hb dX1_reckon_21 (by decide) (fun c_12 => ?_) (fun c_12 => ?_)
      · have r_13 : rgI (-2147483648) (2147483646) a0 := rg_w (rg_ltL (rg_top a0) ry4_18 c_12) (by decide) (by decide)
        exact L_53 H locs ls (lv_sub hl [0] rfl) hH hS
      · have r_14 : rgI (0) (2147483647) a0 := rg_w (rg_leR ry4_18 (rg_top a0) (nlt_le c_12)) (by decide) (by decide)
        refine lv_iload hx hb dX1_reckon_24 (lv_at hl 2 rfl) ?_
        refine lv_bipush (v := 16) hx hb dX1_reckon_26 (by decide) ?_
        refine lv_icmp_gt (tgt := 53) hx hb dX1_reckon_28 (by decide) (fun c_15 => ?_) (fun c_15 => ?_)
        · have r_16 : rgI (17) (2147483647) y4_18 := rg_w (rg_ltR rl_16 ry4_18 c_15) (by decide) (by decide)
          exact L_53 H locs ls (lv_sub hl [0] rfl) hH hS
        · have r_17 : rgI (0) (16) y4_18 := rg_w (rg_leL ry4_18 rl_16 (nlt_le c_15)) (by decide) (by decide)
          refine lv_aload_n hx hb dX1_reckon_31 rfl (lv_at hl 0 rfl) ?_
          refine lv_dup hx hb dX1_reckon_32 rfl ?_
          obtain ⟨_, ⟨q_19, q_20, q_21, rfl, kq_19⟩, o_c_18⟩ := hH h0 _ k_h0
          refine hg_get hx hb hG igX1 hown hK o_c_18 rfl 1 (by decide) (hG _ mw_346) rfl dX1_reckon_33 ?_
          refine lv_aload_n hx hb dX1_reckon_36 rfl (lv_at hl 0 rfl) ?_
          refine hg_get hx hb hG igX1 hown hK o_c_18 rfl 0 (by decide) (hG _ mw_345) rfl dX1_reckon_37 ?_
          refine lv_iload hx hb dX1_reckon_40 (lv_at hl 2 rfl) ?_
          obtain ⟨_, ⟨f_23, rfl⟩, o_c_22⟩ := hH q_19 _ kq_19
          refine hg_lald hx hb hK o_c_22 (rg_in (n := 17) r_17 (by decide) (by decide)) dX1_reckon_42 ?_
          refine lv_topl (fun u_24 eu_24 => ?_)
          refine lv_ladd hx hb dX1_reckon_43 ?_
          refine lv_topl (fun u_25 eu_25 => ?_)
          refine hg_put (ty := .long) hx hb hG igX1 tyX1 tyX1_ok nmX1 hown hK hS o_c_18 (AF.of k_h0) rfl 1 (by decide) (hG _ mw_346) rfl (by decide +kernel) rfl rfl (Nat.le_of_ble_eq_true rfl) dX1_reckon_44 (fun H locs o_c_18 hz oq hS => ?_)
          have o_c_18 : va_at g.1 vwCl (h0, .inr (1, [.ref q_19, .long u_25, .long q_21])) H := o_c_18
          have hH : HT g Ty G H := hH.put k_h0 ⟨q_19, u_25, q_21, rfl, kq_19⟩ o_c_18 oq
          have o_c_22 := o_c_22.kept (oq _ (ne_kd kq_19 k_h0 (by decide)))
          clear oq hz
          obtain ⟨x_26, ex_26⟩ : ∃ y : Int32, y = y4_18 + 1 := ⟨_, rfl⟩
          have rx_26 : rgI (1) (17) x_26 := by rw [ex_26]; exact rg_w (rg_add r_17 rl_1 (by decide) (by decide)) (by decide) (by decide)
          have qx_26 : x_26.toInt = (y4_18 : Int32).toInt + 1 := by rw [ex_26]; exact rg_addE r_17 rl_1 (by decide) (by decide)
          refine lv_iinc (v := x_26) (lv' := [(4, .int x_26), (0, .ref h0), (1, .int a0)]) hx hb dX1_reckon_47 hl (k := 2) rfl (by rw [ex_26]; rfl) (by decide) rfl (fun ls hl => ?_)
          refine lv_goto (tgt := 18) hx hb dX1_reckon_50 (by decide) ?_
          exact ih_18 H locs x_26 ls (rg_w rx_26 (by decide) (by decide)) (by have h1 := qx_26; have h2 := r_17.1; have h3 := r_17.2; have h4 := hm_18; omega) (lv_sub hl [1, 2, 0] rfl) hH hS
  refine lv_aload_n hx hb dX1_reckon_0 rfl (lv_at hl 0 rfl) ?_
  refine lv_iload_n hx hb dX1_reckon_1 rfl (lv_at hl 1 rfl) ?_
  refine lv_iload_n hx hb dX1_reckon_2 rfl (lv_at hl 3 rfl) ?_
  obtain ⟨_, ⟨q_28, q_29, q_30, rfl, kq_28⟩, o_c_27⟩ := hH h0 _ k_h0
  refine va_callv (va_runV (As := [.int a0, .int a2]) (rest := []) ⟨hx, hb, hml, hown, hts⟩ (c_X1_countCases l g Ty G s.heap.size h0 a0 a2 k_h0) (cwV 2 hts (gwV mw_1115 mw_1117 mw_27 mw_87 mw_1118) rfl rfl rfl hv_X1_countCases ⟨Nat.le_of_ble_eq_true rfl, Nat.le_of_ble_eq_true rfl⟩) ⟨PcT_blind, hg_recv hK o_c_27 rfl, PcT_pre hK hH⟩ rfl rfl hl.1 rfl (lv_room (Nat.le_of_ble_eq_true rfl)) dX1_reckon_3 ⟨Nat.zero_le _, Nat.zero_le _⟩) hS (fun q _ h => AF.mono hS.1 h) (fun q h => AF.mono hS.1 h) (fun ux_31 t H locs ht hvm hx_31 hB hz hk hS => ?_)
  have hH : HT g Ty G H := by rw [← ht]; rw [hx_31] at hB; exact hB
  refine lv_aload_n hx hb dX1_reckon_6 rfl (lv_at hl 0 rfl) ?_
  refine lv_lconst (v := 0) hx hb dX1_reckon_7 (by decide) ?_
  obtain ⟨_, ⟨q_33, q_34, q_35, rfl, kq_33⟩, o_c_32⟩ := hH h0 _ k_h0
  refine hg_put (ty := .long) hx hb hG igX1 tyX1 tyX1_ok nmX1 hown hK hS o_c_32 (AF.of k_h0) rfl 1 (by decide) (hG _ mw_346) rfl (by decide +kernel) rfl rfl (Nat.le_of_ble_eq_true rfl) dX1_reckon_8 (fun H locs o_c_32 hz oq hS => ?_)
  have o_c_32 : va_at g.1 vwCl (h0, .inr (1, [.ref q_33, .long 0, .long q_35])) H := o_c_32
  have hH : HT g Ty G H := hH.put k_h0 ⟨q_33, 0, q_35, rfl, kq_33⟩ o_c_32 oq
  clear oq hz
  refine lv_iload_n hx hb dX1_reckon_11 rfl (lv_at hl 2 rfl) ?_
  refine lv_iconst (v := 0) hx hb dX1_reckon_12 (by decide) ?_
  refine va_mmax hx hb (by rw [hml]; exact hl.1.symm) hown (hG _ mw_1120) (hG _ mw_473) (hG _ mw_91) (hG _ mw_474) (Nat.le_of_ble_eq_true rfl) (Nat.le_of_ble_eq_true rfl) (Nat.le_of_ble_eq_true rfl) (Nat.le_of_ble_eq_true rfl) dX1_reckon_13 ?_
  refine lv_topi (fun x_36 ex_36 => ?_)
  have rx_36 : rgI (0) (2147483647) x_36 := by rw [ex_36]; exact rg_w (show rgI (0) (2147483647) _ from rg_mx (rg_top a1) rl_0 (by decide) (by decide) (by decide) (by decide)) (by decide) (by decide)
  refine lv_istore (lv' := [(4, .int x_36), (0, .ref h0), (1, .int a0), (2, .int a1), (3, .int a2)]) hx hb dX1_reckon_16 hl (by decide) rfl (fun ls hl => ?_)
  exact L_18 _ H locs x_36 ls rx_36 (Nat.lt_succ_self _) (lv_sub hl [1, 2, 0] rfl) hH hS
