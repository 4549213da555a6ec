set_option maxHeartbeats 4000000 in
set_option maxRecDepth 100000 in
theorem c_X11_toldWithSize (l : Launch) (g : Gx) (Ty : TyM) (G : Gh) (sz : Nat) (h0 : Nat) (a0 : Int32) (k_h0 : Ty h0 = some (21, 0)) : Met l yX11_toldWithSize (wsG yX11_toldWithSize cX11_toldWithSize 2 (some .int)) ({ frames := 2, cells := 0, slots := 0, locals := 44 }) (PcT g Ty G sz [.ref h0, .int a0]) (QwI g Ty sz (fun r u => u = (Ty, G))) 0 0 (AF Ty sz) := by
  refine Met.ofW (cc := cX11_toldWithSize) (maxL := 2) (ret := (some .int)) (by decide) rfl ?_
  intro p e s m args below meth c s₁ B hml hv
  obtain ⟨rfl, hsz, hK, hH⟩ := hv
  subst hsz
  have hx := B.exec
  have hb := B.bytes
  have hr := B.returns
  have hts := atoms_spec (ws := (wsG yX11_toldWithSize cX11_toldWithSize 2 (some .int))) B.pre
  have hG : ∀ w ∈ GW, w.before ([.ref h0, .int a0] : List Value).toArray s = true := fun w h => hts w (List.mem_cons_of_mem _ h)
  have hown : s.vm.findClass RX11 = some m.cls := findClass_of_methodNamed B.named
  have hlocks := B.notSynchronized
  have hl := lv_entry [.ref h0, .int a0] (n := 2) (Nat.le_of_ble_eq_true rfl)
  rw [lg_entry_eq]
  generalize (lg_sl [.ref h0, .int a0] ++ List.replicate (2 - (lg_sl [.ref h0, .int a0]).length) Slot.unset).toArray = ls at hl ⊢
  have hl : lv_has ls 2 [(0, .ref h0), (1, .int a0)] := hl
  have hS : va_S (AF Ty s.heap.size) s.heap s.heap [] := va_S.rf
  refine lv_aload_n hx hb dX11_toldWithSize_0 rfl (lv_at hl 0 rfl) ?_
  obtain ⟨_, ⟨q_16, rfl, kq_2, kq_3, kq_4, kq_5, kq_6, kq_7, kq_8, kq_9, kq_10, kq_11, kq_12, kq_13, kq_14, kq_15⟩, o_c_1⟩ := hH h0 _ k_h0
  refine hg_get hx hb hG igX11 hown hK o_c_1 rfl 5 (by decide) (hG _ mw_362) rfl dX11_toldWithSize_1 ?_
  refine lv_iload_n hx hb dX11_toldWithSize_4 rfl (lv_at hl 1 rfl) ?_
  refine vp_callSi (W.runS (As := [.int a0]) (rest := [.ref (g.2.2 5)]) ⟨hx, hb, hml, hown, hts⟩ (c_J6_bitCount_0f7a4 l g Ty G a0 ) (cwSx 1 hts hG (gwC mw_620) mw_99 mw_618 mw_619 rfl rfl rfl hd_J6_bitCount_0f7a4 ⟨Nat.le_of_ble_eq_true rfl, Nat.le_of_ble_eq_true rfl⟩) ⟨PcH_blind, PcH_pre hK hH⟩ rfl rfl hl.1 rfl (lv_room (Nat.le_of_ble_eq_true rfl)) dX11_toldWithSize_5 ⟨Nat.zero_le _, Nat.zero_le _⟩) (fun x_17 hx_17 => ?_)
  refine lv_i2l hx hb dX11_toldWithSize_8 rfl ?_
  refine lv_topl (fun u_18 eu_18 => ?_)
  obtain ⟨_, ⟨q_20, q_21, rfl, kq_20, rq_21⟩, o_c_19⟩ := hH (g.2.2 5) _ kq_7
  refine va_callv (va_runV (As := [.long u_18]) (rest := []) ⟨hx, hb, hml, hown, hts⟩ (c_X7_tell l g Ty G s.heap.size (g.2.2 5) u_18 kq_7) (cwV 1 hts (gwV mw_583 mw_584 mw_585 mw_80 mw_586) rfl rfl rfl hv_X7_tell ⟨Nat.le_of_ble_eq_true rfl, Nat.le_of_ble_eq_true rfl⟩) ⟨PcT_blind, hg_recv hK o_c_19 rfl, PcT_pre hK hH⟩ rfl rfl hl.1 rfl (lv_room (Nat.le_of_ble_eq_true rfl)) dX11_toldWithSize_9 ⟨Nat.zero_le _, Nat.zero_le _⟩) hS (fun q _ h => AF.mono hS.1 h) (fun q h => AF.mono hS.1 h) (fun ux_22 t H locs ht hvm hx_22 hB hz hk hS => ?_)
  have hH : HT g Ty G H := by rw [← ht]; rw [hx_22] at hB; exact hB
  refine lv_iload_n hx hb dX11_toldWithSize_12 rfl (lv_at hl 1 rfl) ?_
  exact W.iret hx hb hr (fun t ht hWm => ⟨⟨a0, (Ty, G), rfl, rfl, by show HT g Ty G t.heap; rw [ht]; exact hH⟩, hS.F ht⟩) hS.2.2 dX11_toldWithSize_13

set_option maxHeartbeats 4000000 in
set_option maxRecDepth 100000 in
theorem c_X11_asWide (l : Launch) (g : Gx) (Ty : TyM) (G : Gh) (a0 : Int32) (a1 : Int32) : Met l yX11_asWide (wsG yX11_asWide cX11_asWide 2 (some .int)) ({ frames := 0, cells := 0, slots := 0, locals := 0 }) (PcH g Ty G [.int a0, .int a1]) (vp_Si (fun r => True)) 0 0 (fun _ => False) := by
  refine Met.ofW (cc := cX11_asWide) (maxL := 2) (ret := (some .int)) (by decide) rfl ?_
  intro p e s m args below meth c s₁ B hml hv
  obtain ⟨rfl, hK, hH⟩ := hv
  have hx := B.exec
  have hb := B.bytes
  have hr := B.returns
  have hts := atoms_spec (ws := (wsG yX11_asWide cX11_asWide 2 (some .int))) B.pre
  have hG : ∀ w ∈ GW, w.before ([.int a0, .int a1] : List Value).toArray s = true := fun w h => hts w (List.mem_cons_of_mem _ h)
  have hown : s.vm.findClass RX11 = some m.cls := findClass_of_methodNamed B.named
  have hlocks := B.notSynchronized
  have hl := lv_entry [.int a0, .int a1] (n := 2) (Nat.le_of_ble_eq_true rfl)
  rw [lg_entry_eq]
  generalize (lg_sl [.int a0, .int a1] ++ List.replicate (2 - (lg_sl [.int a0, .int a1]).length) Slot.unset).toArray = ls at hl ⊢
  have hl : lv_has ls 2 [(0, .int a0), (1, .int a1)] := hl
  refine lv_iload_n hx hb dX11_asWide_0 rfl (lv_at hl 0 rfl) ?_
  refine lv_if_ne (tgt := 9) hx hb dX11_asWide_1 (by decide) (fun c_1 => ?_) (fun c_1 => ?_)
  · refine lv_iload_n hx hb dX11_asWide_9 rfl (lv_at hl 0 rfl) ?_
    refine lv_iconst (v := 1) hx hb dX11_asWide_10 (by decide) ?_
    refine lv_icmp_ne (tgt := 19) hx hb dX11_asWide_11 (by decide) (fun c_2 => ?_) (fun c_2 => ?_)
    · refine lv_iload_n hx hb dX11_asWide_19 rfl (lv_at hl 1 rfl) ?_
      exact W.iret hx hb hr (fun t ht hW => ⟨a1, rfl, trivial, ht⟩) (fun q h => by cases h) dX11_asWide_20
    · have r_3 : rgI (1) (1) a0 := rg_w (rg_eq rl_1 c_2) (by decide) (by decide)
      refine lv_iload_n hx hb dX11_asWide_14 rfl (lv_at hl 1 rfl) ?_
      refine lv_i2s hx hb dX11_asWide_15 rfl ?_
      refine lv_topi (fun x_4 ex_4 => ?_)
      refine lv_goto (tgt := 20) hx hb dX11_asWide_16 (by decide) ?_
      exact W.iret hx hb hr (fun t ht hW => ⟨x_4, rfl, trivial, ht⟩) (fun q h => by cases h) dX11_asWide_20
  · have r_5 : rgI (0) (0) a0 := rg_w (rg_eq rl_0 c_1) (by decide) (by decide)
    refine lv_iload_n hx hb dX11_asWide_4 rfl (lv_at hl 1 rfl) ?_
    refine lv_i2b hx hb dX11_asWide_5 rfl ?_
    refine lv_topi (fun x_6 ex_6 => ?_)
    refine lv_goto (tgt := 20) hx hb dX11_asWide_6 (by decide) ?_
    exact W.iret hx hb hr (fun t ht hW => ⟨x_6, rfl, trivial, ht⟩) (fun q h => by cases h) dX11_asWide_20

set_option maxHeartbeats 4000000 in
set_option maxRecDepth 100000 in
theorem c_X11_toldBySheet (l : Launch) (g : Gx) (Ty : TyM) (G : Gh) (h0 : Nat) (a0 : Int32) (a1 : Int32) (a2 : Int32) (a3 : Int32) (k_h0 : Ty h0 = some (21, 0)) : Met l yX11_toldBySheet (wsG yX11_toldBySheet cX11_toldBySheet 9 (some .int)) ({ frames := 1, cells := 0, slots := 0, locals := 21 }) (PcH g Ty G [.ref h0, .int a0, .int a1, .int a2, .int a3]) (vp_Si (fun r => True)) 0 0 (fun _ => False) := by
  refine Met.ofW (cc := cX11_toldBySheet) (maxL := 9) (ret := (some .int)) (by decide) rfl ?_
  intro p e s m args below meth c s₁ B hml hv
  obtain ⟨rfl, hK, hH⟩ := hv
  have hx := B.exec
  have hb := B.bytes
  have hr := B.returns
  have hts := atoms_spec (ws := (wsG yX11_toldBySheet cX11_toldBySheet 9 (some .int))) B.pre
  have hG : ∀ w ∈ GW, w.before ([.ref h0, .int a0, .int a1, .int a2, .int a3] : List Value).toArray s = true := fun w h => hts w (List.mem_cons_of_mem _ h)
  have hown : s.vm.findClass RX11 = some m.cls := findClass_of_methodNamed B.named
  have hlocks := B.notSynchronized
  have hl := lv_entry [.ref h0, .int a0, .int a1, .int a2, .int a3] (n := 9) (Nat.le_of_ble_eq_true rfl)
  rw [lg_entry_eq]
  generalize (lg_sl [.ref h0, .int a0, .int a1, .int a2, .int a3] ++ List.replicate (9 - (lg_sl [.ref h0, .int a0, .int a1, .int a2, .int a3]).length) Slot.unset).toArray = ls at hl ⊢
  have hl : lv_has ls 9 [(0, .ref h0), (1, .int a0), (2, .int a1), (3, .int a2), (4, .int a3)] := hl
  have L_94 : ∀ (y5_94 : Int32) (ls : Array Slot), lv_has ls 9 [(5, .int y5_94)] → Wm p l e (wsG yX11_toldBySheet cX11_toldBySheet 9 (some .int)) ({ frames := 1, cells := 0, slots := 0, locals := 21 }) s m [.ref h0, .int a0, .int a1, .int a2, .int a3] below meth c s.heap [] (0) (0) (vp_Si (fun r => True)) 0 0 (fun _ => False) (F0 m 94 ls []) := by
    intro y5_94 ls hl
    refine lv_iload hx hb dX11_toldBySheet_94 (lv_at hl 0 rfl) ?_
    exact W.iret hx hb hr (fun t ht hW => ⟨y5_94, rfl, trivial, ht⟩) (fun q h => by cases h) dX11_toldBySheet_96
  have L_9 : ∀ (n : Nat) (y5_9 : Int32) (y6_9 : Int32) (y7_9 : Int32) (ls : Array Slot), rgI (0) (2147483647) y6_9 → rgI (0) (24) y7_9 → (24 - (y7_9).toInt).toNat < n → lv_has ls 9 [(0, .ref h0), (1, .int a0), (2, .int a1), (3, .int a2), (4, .int a3), (5, .int y5_9), (6, .int y6_9), (7, .int y7_9)] → Wm p l e (wsG yX11_toldBySheet cX11_toldBySheet 9 (some .int)) ({ frames := 1, cells := 0, slots := 0, locals := 21 }) s m [.ref h0, .int a0, .int a1, .int a2, .int a3] below meth c s.heap [] (0) (0) (vp_Si (fun r => True)) 0 0 (fun _ => False) (F0 m 9 ls []) := by
    intro n
    induction n with
    | zero => intro y5_9 y6_9 y7_9 ls ry6_9 ry7_9 hm; exact absurd hm (Nat.not_lt_zero _)
    | succ n ih_9 =>
      intro y5_9 y6_9 y7_9 ls ry6_9 ry7_9 hm_9 hl
      have L_88 : ∀ (y5_88 : Int32) (y6_88 : Int32) (ls : Array Slot), rgI (1) (2147483647) a1 → rgI (0) (2147483647) y6_88 → rgI (0) (23) y7_9 → lv_has ls 9 [(0, .ref h0), (1, .int a0), (2, .int a1), (3, .int a2), (4, .int a3), (5, .int y5_88), (6, .int y6_88), (7, .int y7_9)] → Wm p l e (wsG yX11_toldBySheet cX11_toldBySheet 9 (some .int)) ({ frames := 1, cells := 0, slots := 0, locals := 21 }) s m [.ref h0, .int a0, .int a1, .int a2, .int a3] below meth c s.heap [] (0) (0) (vp_Si (fun r => True)) 0 0 (fun _ => False) (F0 m 88 ls []) := by
        intro y5_88 y6_88 ls ry2_88 ry6_88 ry7_88 hl
        obtain ⟨x_1, ex_1⟩ : ∃ y : Int32, y = y7_9 + 1 := ⟨_, rfl⟩
        have rx_1 : rgI (1) (24) x_1 := by rw [ex_1]; exact rg_w (rg_add ry7_88 rl_1 (by decide) (by decide)) (by decide) (by decide)
        have qx_1 : x_1.toInt = (y7_9 : Int32).toInt + 1 := by rw [ex_1]; exact rg_addE ry7_88 rl_1 (by decide) (by decide)
        refine lv_iinc (v := x_1) (lv' := [(7, .int x_1), (0, .ref h0), (1, .int a0), (2, .int a1), (3, .int a2), (4, .int a3), (5, .int y5_88), (6, .int y6_88)]) hx hb dX11_toldBySheet_88 hl (k := 7) rfl (by rw [ex_1]; rfl) (by decide) rfl (fun ls hl => ?_)
        refine lv_goto (tgt := 9) hx hb dX11_toldBySheet_91 (by decide) ?_
        exact ih_9 y5_88 y6_88 x_1 ls ry6_88 (rg_w rx_1 (by decide) (by decide)) (by have h1 := qx_1; have h2 := ry7_88.1; have h3 := ry7_88.2; have h4 := hm_9; omega) (lv_sub hl [1, 2, 3, 4, 5, 6, 7, 0] rfl)
      refine lv_iload hx hb dX11_toldBySheet_9 (lv_at hl 7 rfl) ?_
      refine lv_bipush (v := 24) hx hb dX11_toldBySheet_11 (by decide) ?_
      refine lv_icmp_ge (tgt := 94) hx hb dX11_toldBySheet_13 (by decide) (fun c_2 => ?_) (fun c_2 => ?_)
      · have r_3 : rgI (24) (24) y7_9 := rg_w (rg_leR rl_24 ry7_9 c_2) (by decide) (by decide)
        exact L_94 y5_9 ls (lv_sub hl [5] rfl)
      · have r_4 : rgI (0) (23) y7_9 := rg_w (rg_ltL ry7_9 rl_24 (nle_lt c_2)) (by decide) (by decide)
        refine lv_iload hx hb dX11_toldBySheet_16 (lv_at hl 6 rfl) ?_
        refine lv_iload_n hx hb dX11_toldBySheet_18 rfl (lv_at hl 2 rfl) ?_
        refine lv_icmp_ge (tgt := 94) hx hb dX11_toldBySheet_19 (by decide) (fun c_5 => ?_) (fun c_5 => ?_)
        · exact L_94 y5_9 ls (lv_sub hl [5] rfl)
        · have r_6 : rgI (0) (2147483646) y6_9 := rg_w (rg_ltL ry6_9 (rg_top a1) (nle_lt c_5)) (by decide) (by decide)
          have r_7 : rgI (1) (2147483647) a1 := rg_w (rg_ltR ry6_9 (rg_top a1) (nle_lt c_5)) (by decide) (by decide)
          refine lv_aload_n hx hb dX11_toldBySheet_22 rfl (lv_at hl 0 rfl) ?_
          obtain ⟨_, ⟨q_23, rfl, kq_9, kq_10, kq_11, kq_12, kq_13, kq_14, kq_15, kq_16, kq_17, kq_18, kq_19, kq_20, kq_21, kq_22⟩, o_c_8⟩ := hH h0 _ k_h0
          refine hg_get hx hb hG igX11 hown hK o_c_8 rfl 0 (by decide) (hG _ mw_357) rfl dX11_toldBySheet_23 ?_
          refine lv_iload hx hb dX11_toldBySheet_26 (lv_at hl 7 rfl) ?_
          obtain ⟨_, ⟨q_25, q_26, q_27, q_28, q_29, q_30, q_31, rfl, kq_25, kq_26, kq_27⟩, o_c_24⟩ := hH (g.2.2 0) _ kq_9
          refine vp_callSi (W.runV (As := [.int y7_9]) (rest := []) ⟨hx, hb, hml, hown, hts⟩ (c_X10_has l g Ty G (g.2.2 0) y7_9 kq_9) (cwV 1 hts (gwV mw_603 mw_604 mw_605 mw_77 mw_606) rfl rfl rfl hv_X10_has ⟨Nat.le_of_ble_eq_true rfl, Nat.le_of_ble_eq_true rfl⟩) ⟨PcH_blind, hg_recv hK o_c_24 rfl, PcH_pre hK hH⟩ rfl rfl hl.1 rfl (lv_room (Nat.le_of_ble_eq_true rfl)) dX11_toldBySheet_28 ⟨Nat.zero_le _, Nat.zero_le _⟩) (fun x_32 hx_32 => ?_)
          have rx_32 : rgI (0) (1) x_32 := hx_32.1
          refine lv_if_eq (tgt := 88) hx hb dX11_toldBySheet_31 (by decide) (fun c_33 => ?_) (fun c_33 => ?_)
          · have r_34 : rgI (0) (0) x_32 := rg_w (rg_eq rl_0 c_33) (by decide) (by decide)
            exact L_88 y5_9 y6_9 ls r_7 (rg_w r_6 (by decide) (by decide)) r_4 (lv_sub hl [0, 1, 2, 3, 4, 5, 6, 7] rfl)
          · have r_35 : rgI (1) (1) x_32 := rg_w (rg_neL rx_32 rl_0 c_33) (by decide) (by decide)
            refine lv_iload_n hx hb dX11_toldBySheet_34 rfl (lv_at hl 3 rfl) ?_
            refine lv_iload hx hb dX11_toldBySheet_35 (lv_at hl 6 rfl) ?_
            refine lv_iload hx hb dX11_toldBySheet_37 (lv_at hl 4 rfl) ?_
            refine lv_imul hx hb dX11_toldBySheet_39 ?_
            refine lv_topi (fun x_36 ex_36 => ?_)
            refine lv_iadd hx hb dX11_toldBySheet_40 ?_
            refine lv_topi (fun x_37 ex_37 => ?_)
            refine lv_istore (lv' := [(8, .int x_37), (0, .ref h0), (1, .int a0), (2, .int a1), (3, .int a2), (4, .int a3), (5, .int y5_9), (6, .int y6_9), (7, .int y7_9)]) hx hb dX11_toldBySheet_41 hl (by decide) rfl (fun ls hl => ?_)
            obtain ⟨x_38, ex_38⟩ : ∃ y : Int32, y = y6_9 + 1 := ⟨_, rfl⟩
            have rx_38 : rgI (1) (2147483647) x_38 := by rw [ex_38]; exact rg_w (rg_add r_6 rl_1 (by decide) (by decide)) (by decide) (by decide)
            have qx_38 : x_38.toInt = (y6_9 : Int32).toInt + 1 := by rw [ex_38]; exact rg_addE r_6 rl_1 (by decide) (by decide)
            refine lv_iinc (v := x_38) (lv' := [(6, .int x_38), (8, .int x_37), (0, .ref h0), (1, .int a0), (2, .int a1), (3, .int a2), (4, .int a3), (5, .int y5_9), (7, .int y7_9)]) hx hb dX11_toldBySheet_43 hl (k := 7) rfl (by rw [ex_38]; rfl) (by decide) rfl (fun ls hl => ?_)
            refine lv_aload_n hx hb dX11_toldBySheet_46 rfl (lv_at hl 2 rfl) ?_
            refine hg_get hx hb hG igX11 hown hK o_c_8 rfl 0 (by decide) (hG _ mw_357) rfl dX11_toldBySheet_47 ?_
            refine lv_iload hx hb dX11_toldBySheet_50 (lv_at hl 8 rfl) ?_
            refine vp_callSi (W.runV (As := [.int y7_9]) (rest := []) ⟨hx, hb, hml, hown, hts⟩ (c_X10_groupOf l g Ty G (g.2.2 0) y7_9 kq_9) (cwV 1 hts (gwV mw_607 mw_608 mw_609 mw_77 mw_610) rfl rfl rfl hv_X10_groupOf ⟨Nat.le_of_ble_eq_true rfl, Nat.le_of_ble_eq_true rfl⟩) ⟨PcH_blind, hg_recv hK o_c_24 rfl, PcH_pre hK hH⟩ rfl rfl hl.1 rfl (lv_room (Nat.le_of_ble_eq_true rfl)) dX11_toldBySheet_52 ⟨Nat.zero_le _, Nat.zero_le _⟩) (fun x_39 hx_39 => ?_)
            refine lv_if_ne (tgt := 88) hx hb dX11_toldBySheet_55 (by decide) (fun c_40 => ?_) (fun c_40 => ?_)
            · exact L_88 y5_9 x_38 ls r_7 (rg_w rx_38 (by decide) (by decide)) r_4 (lv_sub hl [2, 3, 4, 5, 6, 7, 0, 8] rfl)
            · have r_41 : rgI (0) (0) x_39 := rg_w (rg_eq rl_0 c_40) (by decide) (by decide)
              refine lv_aload_n hx hb dX11_toldBySheet_58 rfl (lv_at hl 2 rfl) ?_
              refine hg_get hx hb hG igX11 hown hK o_c_8 rfl 0 (by decide) (hG _ mw_357) rfl dX11_toldBySheet_59 ?_
              refine lv_iload hx hb dX11_toldBySheet_62 (lv_at hl 8 rfl) ?_
              refine vp_callSi (W.runV (As := [.int y7_9]) (rest := []) ⟨hx, hb, hml, hown, hts⟩ (c_X10_masterOf l g Ty G (g.2.2 0) y7_9 kq_9) (cwV 1 hts (gwV mw_611 mw_612 mw_613 mw_77 mw_614) rfl rfl rfl hv_X10_masterOf ⟨Nat.le_of_ble_eq_true rfl, Nat.le_of_ble_eq_true rfl⟩) ⟨PcH_blind, hg_recv hK o_c_24 rfl, PcH_pre hK hH⟩ rfl rfl hl.1 rfl (lv_room (Nat.le_of_ble_eq_true rfl)) dX11_toldBySheet_64 ⟨Nat.zero_le _, Nat.zero_le _⟩) (fun x_42 hx_42 => ?_)
              refine lv_if_ne (tgt := 88) hx hb dX11_toldBySheet_67 (by decide) (fun c_43 => ?_) (fun c_43 => ?_)
              · exact L_88 y5_9 x_38 ls r_7 (rg_w rx_38 (by decide) (by decide)) r_4 (lv_sub hl [2, 3, 4, 5, 6, 7, 0, 8] rfl)
              · have r_44 : rgI (0) (0) x_42 := rg_w (rg_eq rl_0 c_43) (by decide) (by decide)
                refine lv_iload_n hx hb dX11_toldBySheet_70 rfl (lv_at hl 3 rfl) ?_
                refine lv_iload hx hb dX11_toldBySheet_71 (lv_at hl 1 rfl) ?_
                refine vp_callSi (W.runS (As := [.int a0, .int x_37]) (rest := []) ⟨hx, hb, hml, hown, hts⟩ (c_X11_asWide l g Ty G a0 x_37 ) (cwSx 2 hts hG (gwC mw_617) mw_76 mw_615 mw_616 rfl rfl rfl hd_X11_asWide ⟨Nat.le_of_ble_eq_true rfl, Nat.le_of_ble_eq_true rfl⟩) ⟨PcH_blind, PcH_pre hK hH⟩ rfl rfl hl.1 rfl (lv_room (Nat.le_of_ble_eq_true rfl)) dX11_toldBySheet_73 ⟨Nat.zero_le _, Nat.zero_le _⟩) (fun x_45 hx_45 => ?_)
                refine lv_if_le (tgt := 88) hx hb dX11_toldBySheet_76 (by decide) (fun c_46 => ?_) (fun c_46 => ?_)
                · have r_47 : rgI (-2147483648) (0) x_45 := rg_w (rg_leL (rg_top x_45) rl_0 c_46) (by decide) (by decide)
                  exact L_88 y5_9 x_38 ls r_7 (rg_w rx_38 (by decide) (by decide)) r_4 (lv_sub hl [2, 3, 4, 5, 6, 7, 0, 8] rfl)
                · have r_48 : rgI (1) (2147483647) x_45 := rg_w (rg_ltR rl_0 (rg_top x_45) (nle_lt c_46)) (by decide) (by decide)
                  refine lv_iload hx hb dX11_toldBySheet_79 (lv_at hl 7 rfl) ?_
                  refine lv_iconst (v := 1) hx hb dX11_toldBySheet_81 (by decide) ?_
                  refine lv_iload hx hb dX11_toldBySheet_82 (lv_at hl 8 rfl) ?_
                  refine lv_ishl hx hb dX11_toldBySheet_84 ?_
                  refine lv_topi (fun x_49 ex_49 => ?_)
                  refine lv_ior hx hb dX11_toldBySheet_85 ?_
                  refine lv_topi (fun x_50 ex_50 => ?_)
                  refine lv_istore (lv' := [(5, .int x_50), (6, .int x_38), (8, .int x_37), (0, .ref h0), (1, .int a0), (2, .int a1), (3, .int a2), (4, .int a3), (7, .int y7_9)]) hx hb dX11_toldBySheet_86 hl (by decide) rfl (fun ls hl => ?_)
                  exact L_88 x_50 x_38 ls r_7 (rg_w rx_38 (by decide) (by decide)) r_4 (lv_sub hl [3, 4, 5, 6, 7, 0, 1, 8] rfl)
  refine lv_iconst (v := 0) hx hb dX11_toldBySheet_0 (by decide) ?_
  refine lv_istore (lv' := [(5, .int 0), (0, .ref h0), (1, .int a0), (2, .int a1), (3, .int a2), (4, .int a3)]) hx hb dX11_toldBySheet_1 hl (by decide) rfl (fun ls hl => ?_)
  refine lv_iconst (v := 0) hx hb dX11_toldBySheet_3 (by decide) ?_
  refine lv_istore (lv' := [(6, .int 0), (5, .int 0), (0, .ref h0), (1, .int a0), (2, .int a1), (3, .int a2), (4, .int a3)]) hx hb dX11_toldBySheet_4 hl (by decide) rfl (fun ls hl => ?_)
  refine lv_iconst (v := 0) hx hb dX11_toldBySheet_6 (by decide) ?_
  refine lv_istore (lv' := [(7, .int 0), (6, .int 0), (5, .int 0), (0, .ref h0), (1, .int a0), (2, .int a1), (3, .int a2), (4, .int a3)]) hx hb dX11_toldBySheet_7 hl (by decide) rfl (fun ls hl => ?_)
  exact L_9 _ 0 0 0 ls (rg_w rl_0 (by decide) (by decide)) (rg_w rl_0 (by decide) (by decide)) (Nat.lt_succ_self _) (lv_sub hl [3, 4, 5, 6, 7, 2, 1, 0] rfl)

set_option maxHeartbeats 4000000 in
set_option maxRecDepth 100000 in
theorem c_X11_sheet (l : Launch) (g : Gx) (Ty : TyM) (G : Gh) (sz : Nat) (h0 : Nat) (a0 : Int32) (a1 : Int32) (a2 : Int32) (a3 : Int32) (k_h0 : Ty h0 = some (21, 0)) : Met l yX11_sheet (wsG yX11_sheet cX11_sheet 5 (some .int)) ({ frames := 2, cells := 0, slots := 0, locals := 49 }) (PcT g Ty G sz [.ref h0, .int a0, .int a1, .int a2, .int a3]) (QwI g Ty sz (fun r u => u = (Ty, G))) 0 0 (AF Ty sz) := by
  refine Met.ofW (cc := cX11_sheet) (maxL := 5) (ret := (some .int)) (by decide) rfl ?_
  intro p e s m args below meth c s₁ B hml hv
  obtain ⟨rfl, hsz, hK, hH⟩ := hv
  subst hsz
  have hx := B.exec
  have hb := B.bytes
  have hr := B.returns
  have hts := atoms_spec (ws := (wsG yX11_sheet cX11_sheet 5 (some .int))) B.pre
  have hG : ∀ w ∈ GW, w.before ([.ref h0, .int a0, .int a1, .int a2, .int a3] : List Value).toArray s = true := fun w h => hts w (List.mem_cons_of_mem _ h)
  have hown : s.vm.findClass RX11 = some m.cls := findClass_of_methodNamed B.named
  have hlocks := B.notSynchronized
  have hl := lv_entry [.ref h0, .int a0, .int a1, .int a2, .int a3] (n := 5) (Nat.le_of_ble_eq_true rfl)
  rw [lg_entry_eq]
  generalize (lg_sl [.ref h0, .int a0, .int a1, .int a2, .int a3] ++ List.replicate (5 - (lg_sl [.ref h0, .int a0, .int a1, .int a2, .int a3]).length) Slot.unset).toArray = ls at hl ⊢
  have hl : lv_has ls 5 [(0, .ref h0), (1, .int a0), (2, .int a1), (3, .int a2), (4, .int a3)] := hl
  have hS : va_S (AF Ty s.heap.size) s.heap s.heap [] := va_S.rf
  have L_15 : ∀ (H : Heap) (locs : List Loc) (ls : Array Slot), lv_has ls 5 [] → HT g Ty G H → va_S (AF Ty s.heap.size) s.heap H locs → Wm p l e (wsG yX11_sheet cX11_sheet 5 (some .int)) ({ frames := 2, cells := 0, slots := 0, locals := 49 }) s m [.ref h0, .int a0, .int a1, .int a2, .int a3] below meth c H locs (0) (0) (QwI g Ty s.heap.size (fun r u => u = (Ty, G))) 0 0 (AF Ty s.heap.size) (F0 m 15 ls []) := by
    intro H locs ls hl hH hS
    refine lv_iconst (v := (-1)) hx hb dX11_sheet_15 (by decide) ?_
    exact W.iret hx hb hr (fun t ht hWm => ⟨⟨(-1), (Ty, G), rfl, rfl, by show HT g Ty G t.heap; rw [ht]; exact hH⟩, hS.F ht⟩) hS.2.2 dX11_sheet_16
  refine lv_iload_n hx hb dX11_sheet_0 rfl (lv_at hl 1 rfl) ?_
  refine lv_if_lt (tgt := 15) hx hb dX11_sheet_1 (by decide) (fun c_1 => ?_) (fun c_1 => ?_)
  · have r_2 : rgI (-2147483648) (-1) a0 := rg_w (rg_ltL (rg_top a0) rl_0 c_1) (by decide) (by decide)
    exact L_15 s.heap [] ls (lv_sub hl [] rfl) hH hS
  · have r_3 : rgI (0) (2147483647) a0 := rg_w (rg_leR rl_0 (rg_top a0) (nlt_le c_1)) (by decide) (by decide)
    refine lv_iload_n hx hb dX11_sheet_4 rfl (lv_at hl 1 rfl) ?_
    refine lv_iconst (v := 3) hx hb dX11_sheet_5 (by decide) ?_
    refine lv_icmp_gt (tgt := 15) hx hb dX11_sheet_6 (by decide) (fun c_4 => ?_) (fun c_4 => ?_)
    · have r_5 : rgI (4) (2147483647) a0 := rg_w (rg_ltR rl_3 r_3 c_4) (by decide) (by decide)
      exact L_15 s.heap [] ls (lv_sub hl [] rfl) hH hS
    · have r_6 : rgI (0) (3) a0 := rg_w (rg_leL r_3 rl_3 (nlt_le c_4)) (by decide) (by decide)
      refine lv_iload_n hx hb dX11_sheet_9 rfl (lv_at hl 2 rfl) ?_
      refine lv_bipush (v := 24) hx hb dX11_sheet_10 (by decide) ?_
      refine lv_icmp_le (tgt := 17) hx hb dX11_sheet_12 (by decide) (fun c_7 => ?_) (fun c_7 => ?_)
      · have r_8 : rgI (-2147483648) (24) a1 := rg_w (rg_leL (rg_top a1) rl_24 c_7) (by decide) (by decide)
        refine lv_iload_n hx hb dX11_sheet_17 rfl (lv_at hl 1 rfl) ?_
        refine lv_iconst (v := 3) hx hb dX11_sheet_18 (by decide) ?_
        refine lv_icmp_ne (tgt := 33) hx hb dX11_sheet_19 (by decide) (fun c_9 => ?_) (fun c_9 => ?_)
        · have r_10 : rgI (0) (2) a0 := rg_w (rg_neR r_6 rl_3 c_9) (by decide) (by decide)
          refine lv_iload_n hx hb dX11_sheet_33 rfl (lv_at hl 2 rfl) ?_
          refine lv_if_ge (tgt := 40) hx hb dX11_sheet_34 (by decide) (fun c_11 => ?_) (fun c_11 => ?_)
          · have r_12 : rgI (0) (24) a1 := rg_w (rg_leR rl_0 r_8 c_11) (by decide) (by decide)
            refine lv_aload_n hx hb dX11_sheet_40 rfl (lv_at hl 0 rfl) ?_
            obtain ⟨_, ⟨q_28, rfl, kq_14, kq_15, kq_16, kq_17, kq_18, kq_19, kq_20, kq_21, kq_22, kq_23, kq_24, kq_25, kq_26, kq_27⟩, o_c_13⟩ := hH h0 _ k_h0
            refine hg_get hx hb hG igX11 hown hK o_c_13 rfl 0 (by decide) (hG _ mw_357) rfl dX11_sheet_41 ?_
            refine lv_aload_n hx hb dX11_sheet_44 rfl (lv_at hl 0 rfl) ?_
            refine lv_iload_n hx hb dX11_sheet_45 rfl (lv_at hl 1 rfl) ?_
            refine lv_iload_n hx hb dX11_sheet_46 rfl (lv_at hl 2 rfl) ?_
            refine lv_iload_n hx hb dX11_sheet_47 rfl (lv_at hl 3 rfl) ?_
            refine lv_iload hx hb dX11_sheet_48 (lv_at hl 4 rfl) ?_
            refine vp_callSi (W.runV (As := [.int a0, .int a1, .int a2, .int a3]) (rest := [.ref (g.2.2 0)]) ⟨hx, hb, hml, hown, hts⟩ (c_X11_toldBySheet l g Ty G h0 a0 a1 a2 a3 k_h0) (cwV 4 hts (gwV mw_599 mw_601 mw_8 mw_76 mw_602) rfl rfl rfl hv_X11_toldBySheet ⟨Nat.le_of_ble_eq_true rfl, Nat.le_of_ble_eq_true rfl⟩) ⟨PcH_blind, hg_recv hK o_c_13 rfl, PcH_pre hK hH⟩ rfl rfl hl.1 rfl (lv_room (Nat.le_of_ble_eq_true rfl)) dX11_sheet_50 ⟨Nat.zero_le _, Nat.zero_le _⟩) (fun x_29 hx_29 => ?_)
            obtain ⟨_, ⟨q_31, q_32, q_33, q_34, q_35, q_36, q_37, rfl, kq_31, kq_32, kq_33⟩, o_c_30⟩ := hH (g.2.2 0) _ kq_14
            refine hg_putN (ty := .int) hx hb hG igX10 tyX10 tyX10_ok nmX10 hown hK hS o_c_30 (AF.of kq_14) rfl 4 (by decide) ((hK.2.1 _ nwf_123).use rfl) rfl (by decide +kernel) rfl rfl (Nat.le_of_ble_eq_true rfl) dX11_sheet_53 (fun H locs o_c_30 hz oq hS => ?_)
            have o_c_30 : va_at g.1 vwCl ((g.2.2 0), .inr (10, [.ref q_31, .ref q_32, .ref q_33, .int q_34, .int x_29, .int q_36, .int q_37])) H := o_c_30
            have hH : HT g Ty G H := hH.put kq_14 ⟨q_31, q_32, q_33, q_34, x_29, q_36, q_37, rfl, kq_31, kq_32, kq_33⟩ o_c_30 oq
            have o_c_13 := o_c_13.kept (oq _ (ne_kd k_h0 kq_14 (by decide)))
            clear oq hz
            refine lv_aload_n hx hb dX11_sheet_56 rfl (lv_at hl 0 rfl) ?_
            refine hg_get hx hb hG igX11 hown hK o_c_13 rfl 0 (by decide) (hG _ mw_357) rfl dX11_sheet_57 ?_
            refine hg_getN hx hb hG igX10 hown hK o_c_30 rfl 4 (by decide) ((hK.2.1 _ nwf_123).use rfl) rfl dX11_sheet_60 ?_
            refine vp_callSi (W.runS (As := [.int x_29]) (rest := []) ⟨hx, hb, hml, hown, hts⟩ (c_J6_bitCount_0f7a4 l g Ty G x_29 ) (cwSx 1 hts hG (gwC mw_620) mw_99 mw_618 mw_619 rfl rfl rfl hd_J6_bitCount_0f7a4 ⟨Nat.le_of_ble_eq_true rfl, Nat.le_of_ble_eq_true rfl⟩) ⟨PcH_blind, PcH_pre hK hH⟩ rfl rfl hl.1 rfl (lv_room (Nat.le_of_ble_eq_true rfl)) dX11_sheet_63 ⟨Nat.zero_le _, Nat.zero_le _⟩) (fun x_38 hx_38 => ?_)
            exact W.iret hx hb hr (fun t ht hWm => ⟨⟨x_38, (Ty, G), rfl, rfl, by show HT g Ty G t.heap; rw [ht]; exact hH⟩, hS.F ht⟩) hS.2.2 dX11_sheet_66
          · have r_39 : rgI (-2147483648) (-1) a1 := rg_w (rg_ltL r_8 rl_0 (nle_lt c_11)) (by decide) (by decide)
            refine lv_bipush (v := (-2)) hx hb dX11_sheet_37 (by decide) ?_
            exact W.iret hx hb hr (fun t ht hWm => ⟨⟨(-2), (Ty, G), rfl, rfl, by show HT g Ty G t.heap; rw [ht]; exact hH⟩, hS.F ht⟩) hS.2.2 dX11_sheet_39
        · have r_40 : rgI (3) (3) a0 := rg_w (rg_eq rl_3 c_9) (by decide) (by decide)
          refine lv_aload_n hx hb dX11_sheet_22 rfl (lv_at hl 0 rfl) ?_
          obtain ⟨_, ⟨q_56, rfl, kq_42, kq_43, kq_44, kq_45, kq_46, kq_47, kq_48, kq_49, kq_50, kq_51, kq_52, kq_53, kq_54, kq_55⟩, o_c_41⟩ := hH h0 _ k_h0
          refine hg_get hx hb hG igX11 hown hK o_c_41 rfl 0 (by decide) (hG _ mw_357) rfl dX11_sheet_23 ?_
          refine lv_iconst (v := 0) hx hb dX11_sheet_26 (by decide) ?_
          obtain ⟨_, ⟨q_58, q_59, q_60, q_61, q_62, q_63, q_64, rfl, kq_58, kq_59, kq_60⟩, o_c_57⟩ := hH (g.2.2 0) _ kq_42
          refine hg_putN (ty := .int) hx hb hG igX10 tyX10 tyX10_ok nmX10 hown hK hS o_c_57 (AF.of kq_42) rfl 4 (by decide) ((hK.2.1 _ nwf_123).use rfl) rfl (by decide +kernel) rfl rfl (Nat.le_of_ble_eq_true rfl) dX11_sheet_27 (fun H locs o_c_57 hz oq hS => ?_)
          have o_c_57 : va_at g.1 vwCl ((g.2.2 0), .inr (10, [.ref q_58, .ref q_59, .ref q_60, .int q_61, .int 0, .int q_63, .int q_64])) H := o_c_57
          have hH : HT g Ty G H := hH.put kq_42 ⟨q_58, q_59, q_60, q_61, 0, q_63, q_64, rfl, kq_58, kq_59, kq_60⟩ o_c_57 oq
          have o_c_41 := o_c_41.kept (oq _ (ne_kd k_h0 kq_42 (by decide)))
          clear oq hz
          refine lv_bipush (v := (-3)) hx hb dX11_sheet_30 (by decide) ?_
          exact W.iret hx hb hr (fun t ht hWm => ⟨⟨(-3), (Ty, G), rfl, rfl, by show HT g Ty G t.heap; rw [ht]; exact hH⟩, hS.F ht⟩) hS.2.2 dX11_sheet_32
      · have r_65 : rgI (25) (2147483647) a1 := rg_w (rg_ltR rl_24 (rg_top a1) (nle_lt c_7)) (by decide) (by decide)
        exact L_15 s.heap [] ls (lv_sub hl [] rfl) hH hS

set_option maxHeartbeats 4000000 in
set_option maxRecDepth 100000 in
theorem c_X11_spread (l : Launch) (g : Gx) (Ty : TyM) (G : Gh) (sz : Nat) (h0 : Nat) (a0 : Int32) (k_h0 : Ty h0 = some (21, 0)) : Met l yX11_spread (wsG yX11_spread cX11_spread 2 (some .int)) ({ frames := 3, cells := 0, slots := 0, locals := 71 }) (PcT g Ty G sz [.ref h0, .int a0]) (QwI g Ty sz (fun r u => u = (Ty, G))) 0 0 (AF Ty sz) := by
  refine Met.ofW (cc := cX11_spread) (maxL := 2) (ret := (some .int)) (by decide) rfl ?_
  intro p e s m args below meth c s₁ B hml hv
  obtain ⟨rfl, hsz, hK, hH⟩ := hv
  subst hsz
  have hx := B.exec
  have hb := B.bytes
  have hr := B.returns
  have hts := atoms_spec (ws := (wsG yX11_spread cX11_spread 2 (some .int))) B.pre
  have hG : ∀ w ∈ GW, w.before ([.ref h0, .int a0] : List Value).toArray s = true := fun w h => hts w (List.mem_cons_of_mem _ h)
  have hown : s.vm.findClass RX11 = some m.cls := findClass_of_methodNamed B.named
  have hlocks := B.notSynchronized
  have hl := lv_entry [.ref h0, .int a0] (n := 2) (Nat.le_of_ble_eq_true rfl)
  rw [lg_entry_eq]
  generalize (lg_sl [.ref h0, .int a0] ++ List.replicate (2 - (lg_sl [.ref h0, .int a0]).length) Slot.unset).toArray = ls at hl ⊢
  have hl : lv_has ls 2 [(0, .ref h0), (1, .int a0)] := hl
  have hS : va_S (AF Ty s.heap.size) s.heap s.heap [] := va_S.rf
  refine lv_aload_n hx hb dX11_spread_0 rfl (lv_at hl 0 rfl) ?_
  obtain ⟨_, ⟨q_16, rfl, kq_2, kq_3, kq_4, kq_5, kq_6, kq_7, kq_8, kq_9, kq_10, kq_11, kq_12, kq_13, kq_14, kq_15⟩, o_c_1⟩ := hH h0 _ k_h0
  refine hg_get hx hb hG igX11 hown hK o_c_1 rfl 0 (by decide) (hG _ mw_357) rfl dX11_spread_1 ?_
  refine lv_iload_n hx hb dX11_spread_4 rfl (lv_at hl 1 rfl) ?_
  obtain ⟨_, ⟨q_18, q_19, q_20, q_21, q_22, q_23, q_24, rfl, kq_18, kq_19, kq_20⟩, o_c_17⟩ := hH (g.2.2 0) _ kq_2
  refine vp_callSi (W.runV (As := [.int a0]) (rest := []) ⟨hx, hb, hml, hown, hts⟩ (c_X10_has l g Ty G (g.2.2 0) a0 kq_2) (cwV 1 hts (gwV mw_603 mw_604 mw_605 mw_77 mw_606) rfl rfl rfl hv_X10_has ⟨Nat.le_of_ble_eq_true rfl, Nat.le_of_ble_eq_true rfl⟩) ⟨PcH_blind, hg_recv hK o_c_17 rfl, PcH_pre hK hH⟩ rfl rfl hl.1 rfl (lv_room (Nat.le_of_ble_eq_true rfl)) dX11_spread_5 ⟨Nat.zero_le _, Nat.zero_le _⟩) (fun x_25 hx_25 => ?_)
  have rx_25 : rgI (0) (1) x_25 := hx_25.1
  refine lv_if_ne (tgt := 13) hx hb dX11_spread_8 (by decide) (fun c_26 => ?_) (fun c_26 => ?_)
  · have r_27 : rgI (1) (1) x_25 := rg_w (rg_neL rx_25 rl_0 c_26) (by decide) (by decide)
    have r_28 : rgI (0) (23) a0 := rg_w (hx_25.2.resolve_left c_26) (by decide) (by decide)
    refine lv_aload_n hx hb dX11_spread_13 rfl (lv_at hl 0 rfl) ?_
    refine lv_aload_n hx hb dX11_spread_14 rfl (lv_at hl 0 rfl) ?_
    refine hg_get hx hb hG igX11 hown hK o_c_1 rfl 0 (by decide) (hG _ mw_357) rfl dX11_spread_15 ?_
    refine lv_iload_n hx hb dX11_spread_18 rfl (lv_at hl 1 rfl) ?_
    refine vp_callSi (W.runV (As := [.int a0]) (rest := [.ref h0]) ⟨hx, hb, hml, hown, hts⟩ (c_X10_spreadOf l g Ty G (g.2.2 0) a0 kq_2) (cwV 1 hts (gwV mw_914 mw_650 mw_651 mw_77 mw_652) rfl rfl rfl hv_X10_spreadOf ⟨Nat.le_of_ble_eq_true rfl, Nat.le_of_ble_eq_true rfl⟩) ⟨PcH_blind, hg_recv hK o_c_17 rfl, PcH_pre hK hH⟩ rfl rfl hl.1 rfl (lv_room (Nat.le_of_ble_eq_true rfl)) dX11_spread_19 ⟨Nat.zero_le _, Nat.zero_le _⟩) (fun x_29 hx_29 => ?_)
    refine va_calli (va_runV (As := [.int x_29]) (rest := []) ⟨hx, hb, hml, hown, hts⟩ (c_X11_toldWithSize l g Ty G s.heap.size h0 x_29 k_h0) (cwV 1 hts (gwV mw_915 mw_917 mw_22 mw_76 mw_918) rfl rfl rfl hv_X11_toldWithSize ⟨Nat.le_of_ble_eq_true rfl, Nat.le_of_ble_eq_true rfl⟩) ⟨PcT_blind, hg_recv hK o_c_1 rfl, PcT_pre hK hH⟩ rfl rfl hl.1 rfl (lv_room (Nat.le_of_ble_eq_true rfl)) dX11_spread_22 ⟨Nat.zero_le _, Nat.zero_le _⟩) hS (fun q _ h => AF.mono hS.1 h) (fun q h => AF.mono hS.1 h) (fun x_30 ux_30 t H locs ht hvm hx_30 hB hz hk hS => ?_)
    have hH : HT g Ty G H := by rw [← ht]; rw [hx_30] at hB; exact hB
    exact W.iret hx hb hr (fun t ht hWm => ⟨⟨x_30, (Ty, G), rfl, rfl, by show HT g Ty G t.heap; rw [ht]; exact hH⟩, hS.F ht⟩) hS.2.2 dX11_spread_25
  · have r_31 : rgI (0) (0) x_25 := rg_w (rg_eq rl_0 c_26) (by decide) (by decide)
    refine lv_iconst (v := (-1)) hx hb dX11_spread_11 (by decide) ?_
    exact W.iret hx hb hr (fun t ht hWm => ⟨⟨(-1), (Ty, G), rfl, rfl, by show HT g Ty G t.heap; rw [ht]; exact hH⟩, hS.F ht⟩) hS.2.2 dX11_spread_12

set_option maxHeartbeats 4000000 in
set_option maxRecDepth 100000 in
theorem c_X11_peers (l : Launch) (g : Gx) (Ty : TyM) (G : Gh) (sz : Nat) (h0 : Nat) (a0 : Int32) (k_h0 : Ty h0 = some (21, 0)) : Met l yX11_peers (wsG yX11_peers cX11_peers 3 (some .int)) ({ frames := 3, cells := 0, slots := 0, locals := 65 }) (PcT g Ty G sz [.ref h0, .int a0]) (QwI g Ty sz (fun r u => u = (Ty, G))) 0 0 (AF Ty sz) := by
  refine Met.ofW (cc := cX11_peers) (maxL := 3) (ret := (some .int)) (by decide) rfl ?_
  intro p e s m args below meth c s₁ B hml hv
  obtain ⟨rfl, hsz, hK, hH⟩ := hv
  subst hsz
  have hx := B.exec
  have hb := B.bytes
  have hr := B.returns
  have hts := atoms_spec (ws := (wsG yX11_peers cX11_peers 3 (some .int))) B.pre
  have hG : ∀ w ∈ GW, w.before ([.ref h0, .int a0] : List Value).toArray s = true := fun w h => hts w (List.mem_cons_of_mem _ h)
  have hown : s.vm.findClass RX11 = some m.cls := findClass_of_methodNamed B.named
  have hlocks := B.notSynchronized
  have hl := lv_entry [.ref h0, .int a0] (n := 3) (Nat.le_of_ble_eq_true rfl)
  rw [lg_entry_eq]
  generalize (lg_sl [.ref h0, .int a0] ++ List.replicate (3 - (lg_sl [.ref h0, .int a0]).length) Slot.unset).toArray = ls at hl ⊢
  have hl : lv_has ls 3 [(0, .ref h0), (1, .int a0)] := hl
  have hS : va_S (AF Ty s.heap.size) s.heap s.heap [] := va_S.rf
  refine lv_aload_n hx hb dX11_peers_0 rfl (lv_at hl 0 rfl) ?_
  obtain ⟨_, ⟨q_16, rfl, kq_2, kq_3, kq_4, kq_5, kq_6, kq_7, kq_8, kq_9, kq_10, kq_11, kq_12, kq_13, kq_14, kq_15⟩, o_c_1⟩ := hH h0 _ k_h0
  refine hg_get hx hb hG igX11 hown hK o_c_1 rfl 0 (by decide) (hG _ mw_357) rfl dX11_peers_1 ?_
  refine lv_iload_n hx hb dX11_peers_4 rfl (lv_at hl 1 rfl) ?_
  obtain ⟨_, ⟨q_18, q_19, q_20, q_21, q_22, q_23, q_24, rfl, kq_18, kq_19, kq_20⟩, o_c_17⟩ := hH (g.2.2 0) _ kq_2
  refine vp_callSi (W.runV (As := [.int a0]) (rest := []) ⟨hx, hb, hml, hown, hts⟩ (c_X10_has l g Ty G (g.2.2 0) a0 kq_2) (cwV 1 hts (gwV mw_603 mw_604 mw_605 mw_77 mw_606) rfl rfl rfl hv_X10_has ⟨Nat.le_of_ble_eq_true rfl, Nat.le_of_ble_eq_true rfl⟩) ⟨PcH_blind, hg_recv hK o_c_17 rfl, PcH_pre hK hH⟩ rfl rfl hl.1 rfl (lv_room (Nat.le_of_ble_eq_true rfl)) dX11_peers_5 ⟨Nat.zero_le _, Nat.zero_le _⟩) (fun x_25 hx_25 => ?_)
  have rx_25 : rgI (0) (1) x_25 := hx_25.1
  refine lv_if_ne (tgt := 13) hx hb dX11_peers_8 (by decide) (fun c_26 => ?_) (fun c_26 => ?_)
  · have r_27 : rgI (1) (1) x_25 := rg_w (rg_neL rx_25 rl_0 c_26) (by decide) (by decide)
    have r_28 : rgI (0) (23) a0 := rg_w (hx_25.2.resolve_left c_26) (by decide) (by decide)
    refine lv_aload_n hx hb dX11_peers_13 rfl (lv_at hl 0 rfl) ?_
    refine hg_get hx hb hG igX11 hown hK o_c_1 rfl 0 (by decide) (hG _ mw_357) rfl dX11_peers_14 ?_
    refine lv_iload_n hx hb dX11_peers_17 rfl (lv_at hl 1 rfl) ?_
    refine vp_callSi (W.runV (As := [.int a0]) (rest := []) ⟨hx, hb, hml, hown, hts⟩ (c_X10_peersOf l g Ty G (g.2.2 0) a0 kq_2) (cwV 1 hts (gwV mw_923 mw_924 mw_925 mw_77 mw_926) rfl rfl rfl hv_X10_peersOf ⟨Nat.le_of_ble_eq_true rfl, Nat.le_of_ble_eq_true rfl⟩) ⟨PcH_blind, hg_recv hK o_c_17 rfl, PcH_pre hK hH⟩ rfl rfl hl.1 rfl (lv_room (Nat.le_of_ble_eq_true rfl)) dX11_peers_18 ⟨Nat.zero_le _, Nat.zero_le _⟩) (fun x_29 hx_29 => ?_)
    refine lv_istore_n (lv' := [(2, .int x_29), (0, .ref h0), (1, .int a0)]) hx hb dX11_peers_21 rfl hl (by decide) rfl (fun ls hl => ?_)
    refine lv_aload_n hx hb dX11_peers_22 rfl (lv_at hl 1 rfl) ?_
    refine hg_get hx hb hG igX11 hown hK o_c_1 rfl 5 (by decide) (hG _ mw_362) rfl dX11_peers_23 ?_
    refine lv_iload_n hx hb dX11_peers_26 rfl (lv_at hl 0 rfl) ?_
    refine vp_callSi (W.runS (As := [.int x_29]) (rest := [.ref (g.2.2 5)]) ⟨hx, hb, hml, hown, hts⟩ (c_J6_bitCount_0f7a4 l g Ty G x_29 ) (cwSx 1 hts hG (gwC mw_620) mw_99 mw_618 mw_619 rfl rfl rfl hd_J6_bitCount_0f7a4 ⟨Nat.le_of_ble_eq_true rfl, Nat.le_of_ble_eq_true rfl⟩) ⟨PcH_blind, PcH_pre hK hH⟩ rfl rfl hl.1 rfl (lv_room (Nat.le_of_ble_eq_true rfl)) dX11_peers_27 ⟨Nat.zero_le _, Nat.zero_le _⟩) (fun x_30 hx_30 => ?_)
    refine lv_i2l hx hb dX11_peers_30 rfl ?_
    refine lv_topl (fun u_31 eu_31 => ?_)
    refine lv_aload_n hx hb dX11_peers_31 rfl (lv_at hl 1 rfl) ?_
    refine hg_get hx hb hG igX11 hown hK o_c_1 rfl 0 (by decide) (hG _ mw_357) rfl dX11_peers_32 ?_
    refine lv_aload_n hx hb dX11_peers_35 rfl (lv_at hl 1 rfl) ?_
    refine hg_get hx hb hG igX11 hown hK o_c_1 rfl 0 (by decide) (hG _ mw_357) rfl dX11_peers_36 ?_
    refine lv_iload_n hx hb dX11_peers_39 rfl (lv_at hl 2 rfl) ?_
    refine vp_callSi (W.runV (As := [.int a0]) (rest := [.ref (g.2.2 0), .long u_31, .ref (g.2.2 5)]) ⟨hx, hb, hml, hown, hts⟩ (c_X10_groupOf l g Ty G (g.2.2 0) a0 kq_2) (cwV 1 hts (gwV mw_607 mw_608 mw_609 mw_77 mw_610) rfl rfl rfl hv_X10_groupOf ⟨Nat.le_of_ble_eq_true rfl, Nat.le_of_ble_eq_true rfl⟩) ⟨PcH_blind, hg_recv hK o_c_17 rfl, PcH_pre hK hH⟩ rfl rfl hl.1 rfl (lv_room (Nat.le_of_ble_eq_true rfl)) dX11_peers_40 ⟨Nat.zero_le _, Nat.zero_le _⟩) (fun x_32 hx_32 => ?_)
    refine vp_callSi (W.runV (As := [.int x_32]) (rest := [.long u_31, .ref (g.2.2 5)]) ⟨hx, hb, hml, hown, hts⟩ (c_X10_withMaster l g Ty G (g.2.2 0) x_32 kq_2) (cwV 1 hts (gwV mw_927 mw_666 mw_667 mw_77 mw_668) rfl rfl rfl hv_X10_withMaster ⟨Nat.le_of_ble_eq_true rfl, Nat.le_of_ble_eq_true rfl⟩) ⟨PcH_blind, hg_recv hK o_c_17 rfl, PcH_pre hK hH⟩ rfl rfl hl.1 rfl (lv_room (Nat.le_of_ble_eq_true rfl)) dX11_peers_43 ⟨Nat.zero_le _, Nat.zero_le _⟩) (fun x_33 hx_33 => ?_)
    refine lv_i2l hx hb dX11_peers_46 rfl ?_
    refine lv_topl (fun u_34 eu_34 => ?_)
    obtain ⟨_, ⟨q_36, q_37, rfl, kq_36, rq_37⟩, o_c_35⟩ := hH (g.2.2 5) _ kq_7
    refine va_callv (va_runV (As := [.long u_31, .long u_34]) (rest := []) ⟨hx, hb, hml, hown, hts⟩ (c_X7_tellTwo l g Ty G s.heap.size (g.2.2 5) u_31 u_34 kq_7) (cwV 2 hts (gwV mw_753 mw_754 mw_755 mw_80 mw_756) rfl rfl rfl hv_X7_tellTwo ⟨Nat.le_of_ble_eq_true rfl, Nat.le_of_ble_eq_true rfl⟩) ⟨PcT_blind, hg_recv hK o_c_35 rfl, PcT_pre hK hH⟩ rfl rfl hl.1 rfl (lv_room (Nat.le_of_ble_eq_true rfl)) dX11_peers_47 ⟨Nat.zero_le _, Nat.zero_le _⟩) hS (fun q _ h => AF.mono hS.1 h) (fun q h => AF.mono hS.1 h) (fun ux_38 t H locs ht hvm hx_38 hB hz hk hS => ?_)
    have hH : HT g Ty G H := by rw [← ht]; rw [hx_38] at hB; exact hB
    refine lv_iload_n hx hb dX11_peers_50 rfl (lv_at hl 0 rfl) ?_
    exact W.iret hx hb hr (fun t ht hWm => ⟨⟨x_29, (Ty, G), rfl, rfl, by show HT g Ty G t.heap; rw [ht]; exact hH⟩, hS.F ht⟩) hS.2.2 dX11_peers_51
  · have r_39 : rgI (0) (0) x_25 := rg_w (rg_eq rl_0 c_26) (by decide) (by decide)
    refine lv_iconst (v := (-1)) hx hb dX11_peers_11 (by decide) ?_
    exact W.iret hx hb hr (fun t ht hWm => ⟨⟨(-1), (Ty, G), rfl, rfl, by show HT g Ty G t.heap; rw [ht]; exact hH⟩, hS.F ht⟩) hS.2.2 dX11_peers_12

set_option maxHeartbeats 4000000 in
set_option maxRecDepth 100000 in
theorem c_X11_masters (l : Launch) (g : Gx) (Ty : TyM) (G : Gh) (sz : Nat) (h0 : Nat) (a0 : Int32) (k_h0 : Ty h0 = some (21, 0)) : Met l yX11_masters (wsG yX11_masters cX11_masters 4 (some .int)) ({ frames := 3, cells := 0, slots := 0, locals := 65 }) (PcT g Ty G sz [.ref h0, .int a0]) (QwI g Ty sz (fun r u => u = (Ty, G))) 0 0 (AF Ty sz) := by
  refine Met.ofW (cc := cX11_masters) (maxL := 4) (ret := (some .int)) (by decide) rfl ?_
  intro p e s m args below meth c s₁ B hml hv
  obtain ⟨rfl, hsz, hK, hH⟩ := hv
  subst hsz
  have hx := B.exec
  have hb := B.bytes
  have hr := B.returns
  have hts := atoms_spec (ws := (wsG yX11_masters cX11_masters 4 (some .int))) B.pre
  have hG : ∀ w ∈ GW, w.before ([.ref h0, .int a0] : List Value).toArray s = true := fun w h => hts w (List.mem_cons_of_mem _ h)
  have hown : s.vm.findClass RX11 = some m.cls := findClass_of_methodNamed B.named
  have hlocks := B.notSynchronized
  have hl := lv_entry [.ref h0, .int a0] (n := 4) (Nat.le_of_ble_eq_true rfl)
  rw [lg_entry_eq]
  generalize (lg_sl [.ref h0, .int a0] ++ List.replicate (4 - (lg_sl [.ref h0, .int a0]).length) Slot.unset).toArray = ls at hl ⊢
  have hl : lv_has ls 4 [(0, .ref h0), (1, .int a0)] := hl
  have hS : va_S (AF Ty s.heap.size) s.heap s.heap [] := va_S.rf
  have L_67 : ∀ (H : Heap) (locs : List Loc) (ls : Array Slot), lv_has ls 4 [(0, .ref h0)] → HT g Ty G H → va_S (AF Ty s.heap.size) s.heap H locs → Wm p l e (wsG yX11_masters cX11_masters 4 (some .int)) ({ frames := 3, cells := 0, slots := 0, locals := 65 }) s m [.ref h0, .int a0] below meth c H locs (0) (0) (QwI g Ty s.heap.size (fun r u => u = (Ty, G))) 0 0 (AF Ty s.heap.size) (F0 m 67 ls []) := by
    intro H locs ls hl hH hS
    refine lv_aload_n hx hb dX11_masters_67 rfl (lv_at hl 0 rfl) ?_
    obtain ⟨_, ⟨q_16, rfl, kq_2, kq_3, kq_4, kq_5, kq_6, kq_7, kq_8, kq_9, kq_10, kq_11, kq_12, kq_13, kq_14, kq_15⟩, o_c_1⟩ := hH h0 _ k_h0
    refine hg_get hx hb hG igX11 hown hK o_c_1 rfl 5 (by decide) (hG _ mw_362) rfl dX11_masters_68 ?_
    obtain ⟨_, ⟨q_18, q_19, rfl, kq_18, rq_19⟩, o_c_17⟩ := hH (g.2.2 5) _ kq_7
    refine hg_getN hx hb hG igX7 hown hK o_c_17 rfl 1 (by decide) ((hK.2.1 _ nwf_189).use rfl) rfl dX11_masters_71 ?_
    exact W.iret hx hb hr (fun t ht hWm => ⟨⟨q_19, (Ty, G), rfl, rfl, by show HT g Ty G t.heap; rw [ht]; exact hH⟩, hS.F ht⟩) hS.2.2 dX11_masters_74
  have L_31 : ∀ (n : Nat) (H : Heap) (locs : List Loc) (y2_31 : Int32) (y3_31 : Int32) (ls : Array Slot), rgI (0) (24) y2_31 → rgI (0) (24) y3_31 → (24 - (y3_31).toInt).toNat < n → lv_has ls 4 [(0, .ref h0), (2, .int y2_31), (3, .int y3_31)] → HT g Ty G H → va_S (AF Ty s.heap.size) s.heap H locs → Wm p l e (wsG yX11_masters cX11_masters 4 (some .int)) ({ frames := 3, cells := 0, slots := 0, locals := 65 }) s m [.ref h0, .int a0] below meth c H locs (0) (0) (QwI g Ty s.heap.size (fun r u => u = (Ty, G))) 0 0 (AF Ty s.heap.size) (F0 m 31 ls []) := by
    intro n
    induction n with
    | zero => intro H locs y2_31 y3_31 ls ry2_31 ry3_31 hm; exact absurd hm (Nat.not_lt_zero _)
    | succ n ih_31 =>
      intro H locs y2_31 y3_31 ls ry2_31 ry3_31 hm_31 hl hH hS
      refine lv_iload_n hx hb dX11_masters_31 rfl (lv_at hl 2 rfl) ?_
      refine lv_bipush (v := 24) hx hb dX11_masters_32 (by decide) ?_
      refine lv_icmp_ge (tgt := 67) hx hb dX11_masters_34 (by decide) (fun c_20 => ?_) (fun c_20 => ?_)
      · have r_21 : rgI (24) (24) y3_31 := rg_w (rg_leR rl_24 ry3_31 c_20) (by decide) (by decide)
        exact L_67 H locs ls (lv_sub hl [0] rfl) hH hS
      · have r_22 : rgI (0) (23) y3_31 := rg_w (rg_ltL ry3_31 rl_24 (nle_lt c_20)) (by decide) (by decide)
        refine lv_iload_n hx hb dX11_masters_37 rfl (lv_at hl 1 rfl) ?_
        refine lv_bipush (v := 24) hx hb dX11_masters_38 (by decide) ?_
        refine lv_icmp_eq (tgt := 67) hx hb dX11_masters_40 (by decide) (fun c_23 => ?_) (fun c_23 => ?_)
        · have r_24 : rgI (24) (24) y2_31 := rg_w (rg_eq rl_24 c_23) (by decide) (by decide)
          exact L_67 H locs ls (lv_sub hl [0] rfl) hH hS
        · have r_25 : rgI (0) (23) y2_31 := rg_w (rg_neR ry2_31 rl_24 c_23) (by decide) (by decide)
          refine lv_aload_n hx hb dX11_masters_43 rfl (lv_at hl 0 rfl) ?_
          obtain ⟨_, ⟨q_41, rfl, kq_27, kq_28, kq_29, kq_30, kq_31, kq_32, kq_33, kq_34, kq_35, kq_36, kq_37, kq_38, kq_39, kq_40⟩, o_c_26⟩ := hH h0 _ k_h0
          refine hg_get hx hb hG igX11 hown hK o_c_26 rfl 5 (by decide) (hG _ mw_362) rfl dX11_masters_44 ?_
          refine lv_iload_n hx hb dX11_masters_47 rfl (lv_at hl 1 rfl) ?_
          refine lv_i2l hx hb dX11_masters_48 rfl ?_
          refine lv_topl (fun u_42 eu_42 => ?_)
          obtain ⟨_, ⟨q_44, q_45, rfl, kq_44, rq_45⟩, o_c_43⟩ := hH (g.2.2 5) _ kq_32
          refine va_callv (va_runV (As := [.long u_42]) (rest := []) ⟨hx, hb, hml, hown, hts⟩ (c_X7_add l g Ty G H.size (g.2.2 5) u_42 kq_32) (cwV 1 hts (gwV mw_938 mw_592 mw_593 mw_80 mw_594) rfl rfl rfl hv_X7_add ⟨Nat.le_of_ble_eq_true rfl, Nat.le_of_ble_eq_true rfl⟩) ⟨PcT_blind, hg_recv hK o_c_43 rfl, PcT_pre hK hH⟩ rfl rfl hl.1 rfl (lv_room (Nat.le_of_ble_eq_true rfl)) dX11_masters_49 ⟨Nat.zero_le _, Nat.zero_le _⟩) hS (fun q _ h => AF.mono hS.1 h) (fun q h => AF.mono hS.1 h) (fun ux_46 t H locs ht hvm hx_46 hB hz hk hS => ?_)
          have hH : HT g Ty G H := by rw [← ht]; rw [hx_46] at hB; exact hB
          refine lv_aload_n hx hb dX11_masters_52 rfl (lv_at hl 0 rfl) ?_
          obtain ⟨_, ⟨q_62, rfl, kq_48, kq_49, kq_50, kq_51, kq_52, kq_53, kq_54, kq_55, kq_56, kq_57, kq_58, kq_59, kq_60, kq_61⟩, o_c_47⟩ := hH h0 _ k_h0
          refine hg_get hx hb hG igX11 hown hK o_c_47 rfl 0 (by decide) (hG _ mw_357) rfl dX11_masters_53 ?_
          refine lv_iload_n hx hb dX11_masters_56 rfl (lv_at hl 1 rfl) ?_
          obtain ⟨_, ⟨q_64, q_65, q_66, q_67, q_68, q_69, q_70, rfl, kq_64, kq_65, kq_66⟩, o_c_63⟩ := hH (g.2.2 0) _ kq_48
          refine vp_callSi (W.runV (As := [.int y2_31]) (rest := []) ⟨hx, hb, hml, hown, hts⟩ (c_X10_leastMasterOf l g Ty G (g.2.2 0) y2_31 kq_48) (cwV 1 hts (gwV mw_933 mw_934 mw_935 mw_77 mw_936) rfl rfl rfl hv_X10_leastMasterOf ⟨Nat.le_of_ble_eq_true rfl, Nat.le_of_ble_eq_true rfl⟩) ⟨PcH_blind, hg_recv hK o_c_63 rfl, PcH_pre hK hH⟩ rfl rfl hl.1 rfl (lv_room (Nat.le_of_ble_eq_true rfl)) dX11_masters_57 ⟨Nat.zero_le _, Nat.zero_le _⟩) (fun x_71 hx_71 => ?_)
          have rx_71 : rgI (0) (24) x_71 := hx_71
          refine lv_istore_n (lv' := [(2, .int x_71), (0, .ref h0), (3, .int y3_31)]) hx hb dX11_masters_60 rfl hl (by decide) rfl (fun ls hl => ?_)
          obtain ⟨x_72, ex_72⟩ : ∃ y : Int32, y = y3_31 + 1 := ⟨_, rfl⟩
          have rx_72 : rgI (1) (24) x_72 := by rw [ex_72]; exact rg_w (rg_add r_22 rl_1 (by decide) (by decide)) (by decide) (by decide)
          have qx_72 : x_72.toInt = (y3_31 : Int32).toInt + 1 := by rw [ex_72]; exact rg_addE r_22 rl_1 (by decide) (by decide)
          refine lv_iinc (v := x_72) (lv' := [(3, .int x_72), (2, .int x_71), (0, .ref h0)]) hx hb dX11_masters_61 hl (k := 2) rfl (by rw [ex_72]; rfl) (by decide) rfl (fun ls hl => ?_)
          refine lv_goto (tgt := 31) hx hb dX11_masters_64 (by decide) ?_
          exact ih_31 H locs x_71 x_72 ls rx_71 (rg_w rx_72 (by decide) (by decide)) (by have h1 := qx_72; have h2 := r_22.1; have h3 := r_22.2; have h4 := hm_31; omega) (lv_sub hl [2, 1, 0] rfl) hH hS
  refine lv_aload_n hx hb dX11_masters_0 rfl (lv_at hl 0 rfl) ?_
  obtain ⟨_, ⟨q_88, rfl, kq_74, kq_75, kq_76, kq_77, kq_78, kq_79, kq_80, kq_81, kq_82, kq_83, kq_84, kq_85, kq_86, kq_87⟩, o_c_73⟩ := hH h0 _ k_h0
  refine hg_get hx hb hG igX11 hown hK o_c_73 rfl 0 (by decide) (hG _ mw_357) rfl dX11_masters_1 ?_
  refine lv_iload_n hx hb dX11_masters_4 rfl (lv_at hl 1 rfl) ?_
  obtain ⟨_, ⟨q_90, q_91, q_92, q_93, q_94, q_95, q_96, rfl, kq_90, kq_91, kq_92⟩, o_c_89⟩ := hH (g.2.2 0) _ kq_74
  refine vp_callSi (W.runV (As := [.int a0]) (rest := []) ⟨hx, hb, hml, hown, hts⟩ (c_X10_has l g Ty G (g.2.2 0) a0 kq_74) (cwV 1 hts (gwV mw_603 mw_604 mw_605 mw_77 mw_606) rfl rfl rfl hv_X10_has ⟨Nat.le_of_ble_eq_true rfl, Nat.le_of_ble_eq_true rfl⟩) ⟨PcH_blind, hg_recv hK o_c_89 rfl, PcH_pre hK hH⟩ rfl rfl hl.1 rfl (lv_room (Nat.le_of_ble_eq_true rfl)) dX11_masters_5 ⟨Nat.zero_le _, Nat.zero_le _⟩) (fun x_97 hx_97 => ?_)
  have rx_97 : rgI (0) (1) x_97 := hx_97.1
  refine lv_if_ne (tgt := 13) hx hb dX11_masters_8 (by decide) (fun c_98 => ?_) (fun c_98 => ?_)
  · have r_99 : rgI (1) (1) x_97 := rg_w (rg_neL rx_97 rl_0 c_98) (by decide) (by decide)
    have r_100 : rgI (0) (23) a0 := rg_w (hx_97.2.resolve_left c_98) (by decide) (by decide)
    refine lv_aload_n hx hb dX11_masters_13 rfl (lv_at hl 0 rfl) ?_
    refine hg_get hx hb hG igX11 hown hK o_c_73 rfl 5 (by decide) (hG _ mw_362) rfl dX11_masters_14 ?_
    obtain ⟨_, ⟨q_102, q_103, rfl, kq_102, rq_103⟩, o_c_101⟩ := hH (g.2.2 5) _ kq_79
    refine va_callv (va_runV (As := []) (rest := []) ⟨hx, hb, hml, hown, hts⟩ (c_X7_clear l g Ty G s.heap.size (g.2.2 5) kq_79) (cwV 0 hts (gwV mw_932 mw_588 mw_589 mw_80 mw_590) rfl rfl rfl hv_X7_clear ⟨Nat.le_of_ble_eq_true rfl, Nat.le_of_ble_eq_true rfl⟩) ⟨PcT_blind, hg_recv hK o_c_101 rfl, PcT_pre hK hH⟩ rfl rfl hl.1 rfl (lv_room (Nat.le_of_ble_eq_true rfl)) dX11_masters_17 ⟨Nat.zero_le _, Nat.zero_le _⟩) hS (fun q _ h => AF.mono hS.1 h) (fun q h => AF.mono hS.1 h) (fun ux_104 t H locs ht hvm hx_104 hB hz hk hS => ?_)
    have hH : HT g Ty G H := by rw [← ht]; rw [hx_104] at hB; exact hB
    refine lv_aload_n hx hb dX11_masters_20 rfl (lv_at hl 0 rfl) ?_
    obtain ⟨_, ⟨q_120, rfl, kq_106, kq_107, kq_108, kq_109, kq_110, kq_111, kq_112, kq_113, kq_114, kq_115, kq_116, kq_117, kq_118, kq_119⟩, o_c_105⟩ := hH h0 _ k_h0
    refine hg_get hx hb hG igX11 hown hK o_c_105 rfl 0 (by decide) (hG _ mw_357) rfl dX11_masters_21 ?_
    refine lv_iload_n hx hb dX11_masters_24 rfl (lv_at hl 1 rfl) ?_
    obtain ⟨_, ⟨q_122, q_123, q_124, q_125, q_126, q_127, q_128, rfl, kq_122, kq_123, kq_124⟩, o_c_121⟩ := hH (g.2.2 0) _ kq_106
    refine vp_callSi (W.runV (As := [.int a0]) (rest := []) ⟨hx, hb, hml, hown, hts⟩ (c_X10_leastMasterOf l g Ty G (g.2.2 0) a0 kq_106) (cwV 1 hts (gwV mw_933 mw_934 mw_935 mw_77 mw_936) rfl rfl rfl hv_X10_leastMasterOf ⟨Nat.le_of_ble_eq_true rfl, Nat.le_of_ble_eq_true rfl⟩) ⟨PcH_blind, hg_recv hK o_c_121 rfl, PcH_pre hK hH⟩ rfl rfl hl.1 rfl (lv_room (Nat.le_of_ble_eq_true rfl)) dX11_masters_25 ⟨Nat.zero_le _, Nat.zero_le _⟩) (fun x_129 hx_129 => ?_)
    have rx_129 : rgI (0) (24) x_129 := hx_129
    refine lv_istore_n (lv' := [(2, .int x_129), (0, .ref h0), (1, .int a0)]) hx hb dX11_masters_28 rfl hl (by decide) rfl (fun ls hl => ?_)
    refine lv_iconst (v := 0) hx hb dX11_masters_29 (by decide) ?_
    refine lv_istore_n (lv' := [(3, .int 0), (2, .int x_129), (0, .ref h0), (1, .int a0)]) hx hb dX11_masters_30 rfl hl (by decide) rfl (fun ls hl => ?_)
    exact L_31 _ H locs x_129 0 ls rx_129 (rg_w rl_0 (by decide) (by decide)) (Nat.lt_succ_self _) (lv_sub hl [2, 1, 0] rfl) hH hS
  · have r_130 : rgI (0) (0) x_97 := rg_w (rg_eq rl_0 c_98) (by decide) (by decide)
    refine lv_iconst (v := (-1)) hx hb dX11_masters_11 (by decide) ?_
    exact W.iret hx hb hr (fun t ht hWm => ⟨⟨(-1), (Ty, G), rfl, rfl, by show HT g Ty G t.heap; rw [ht]; exact hH⟩, hS.F ht⟩) hS.2.2 dX11_masters_12

set_option maxHeartbeats 4000000 in
set_option maxRecDepth 100000 in
theorem c_X11_groups (l : Launch) (g : Gx) (Ty : TyM) (G : Gh) (sz : Nat) (h0 : Nat) (k_h0 : Ty h0 = some (21, 0)) : Met l yX11_groups (wsG yX11_groups cX11_groups 4 (some .int)) ({ frames := 3, cells := 0, slots := 0, locals := 66 }) (PcT g Ty G sz [.ref h0]) (QwI g Ty sz (fun r u => u = (Ty, G))) 0 0 (AF Ty sz) := by
  refine Met.ofW (cc := cX11_groups) (maxL := 4) (ret := (some .int)) (by decide) rfl ?_
  intro p e s m args below meth c s₁ B hml hv
  obtain ⟨rfl, hsz, hK, hH⟩ := hv
  subst hsz
  have hx := B.exec
  have hb := B.bytes
  have hr := B.returns
  have hts := atoms_spec (ws := (wsG yX11_groups cX11_groups 4 (some .int))) B.pre
  have hG : ∀ w ∈ GW, w.before ([.ref h0] : List Value).toArray s = true := fun w h => hts w (List.mem_cons_of_mem _ h)
  have hown : s.vm.findClass RX11 = some m.cls := findClass_of_methodNamed B.named
  have hlocks := B.notSynchronized
  have hl := lv_entry [.ref h0] (n := 4) (Nat.le_of_ble_eq_true rfl)
  rw [lg_entry_eq]
  generalize (lg_sl [.ref h0] ++ List.replicate (4 - (lg_sl [.ref h0]).length) Slot.unset).toArray = ls at hl ⊢
  have hl : lv_has ls 4 [(0, .ref h0)] := hl
  have hS : va_S (AF Ty s.heap.size) s.heap s.heap [] := va_S.rf
  have L_11 : ∀ (n : Nat) (H : Heap) (locs : List Loc) (y1_11 : Int32) (y2_11 : Int32) (ls : Array Slot), rgI (0) (2147483647) y1_11 → rgI (0) (24) y2_11 → (24 - (y2_11).toInt).toNat < n → lv_has ls 4 [(0, .ref h0), (1, .int y1_11), (2, .int y2_11)] → HT g Ty G H → va_S (AF Ty s.heap.size) s.heap H locs → Wm p l e (wsG yX11_groups cX11_groups 4 (some .int)) ({ frames := 3, cells := 0, slots := 0, locals := 66 }) s m [.ref h0] below meth c H locs (0) (0) (QwI g Ty s.heap.size (fun r u => u = (Ty, G))) 0 0 (AF Ty s.heap.size) (F0 m 11 ls []) := by
    intro n
    induction n with
    | zero => intro H locs y1_11 y2_11 ls ry1_11 ry2_11 hm; exact absurd hm (Nat.not_lt_zero _)
    | succ n ih_11 =>
      intro H locs y1_11 y2_11 ls ry1_11 ry2_11 hm_11 hl hH hS
      have L_65 : ∀ (H : Heap) (locs : List Loc) (y1_65 : Int32) (ls : Array Slot), rgI (0) (2147483647) y1_65 → rgI (0) (23) y2_11 → lv_has ls 4 [(0, .ref h0), (1, .int y1_65), (2, .int y2_11)] → HT g Ty G H → va_S (AF Ty s.heap.size) s.heap H locs → Wm p l e (wsG yX11_groups cX11_groups 4 (some .int)) ({ frames := 3, cells := 0, slots := 0, locals := 66 }) s m [.ref h0] below meth c H locs (0) (0) (QwI g Ty s.heap.size (fun r u => u = (Ty, G))) 0 0 (AF Ty s.heap.size) (F0 m 65 ls []) := by
        intro H locs y1_65 ls ry1_65 ry2_65 hl hH hS
        obtain ⟨x_1, ex_1⟩ : ∃ y : Int32, y = y2_11 + 1 := ⟨_, rfl⟩
        have rx_1 : rgI (1) (24) x_1 := by rw [ex_1]; exact rg_w (rg_add ry2_65 rl_1 (by decide) (by decide)) (by decide) (by decide)
        have qx_1 : x_1.toInt = (y2_11 : Int32).toInt + 1 := by rw [ex_1]; exact rg_addE ry2_65 rl_1 (by decide) (by decide)
        refine lv_iinc (v := x_1) (lv' := [(2, .int x_1), (0, .ref h0), (1, .int y1_65)]) hx hb dX11_groups_65 hl (k := 2) rfl (by rw [ex_1]; rfl) (by decide) rfl (fun ls hl => ?_)
        refine lv_goto (tgt := 11) hx hb dX11_groups_68 (by decide) ?_
        exact ih_11 H locs y1_65 x_1 ls ry1_65 (rg_w rx_1 (by decide) (by decide)) (by have h1 := qx_1; have h2 := ry2_65.1; have h3 := ry2_65.2; have h4 := hm_11; omega) (lv_sub hl [1, 2, 0] rfl) hH hS
      refine lv_iload_n hx hb dX11_groups_11 rfl (lv_at hl 2 rfl) ?_
      refine lv_bipush (v := 24) hx hb dX11_groups_12 (by decide) ?_
      refine lv_icmp_ge (tgt := 71) hx hb dX11_groups_14 (by decide) (fun c_2 => ?_) (fun c_2 => ?_)
      · have r_3 : rgI (24) (24) y2_11 := rg_w (rg_leR rl_24 ry2_11 c_2) (by decide) (by decide)
        refine lv_aload_n hx hb dX11_groups_71 rfl (lv_at hl 0 rfl) ?_
        obtain ⟨_, ⟨q_19, rfl, kq_5, kq_6, kq_7, kq_8, kq_9, kq_10, kq_11, kq_12, kq_13, kq_14, kq_15, kq_16, kq_17, kq_18⟩, o_c_4⟩ := hH h0 _ k_h0
        refine hg_get hx hb hG igX11 hown hK o_c_4 rfl 0 (by decide) (hG _ mw_357) rfl dX11_groups_72 ?_
        obtain ⟨_, ⟨q_21, q_22, q_23, q_24, q_25, q_26, q_27, rfl, kq_21, kq_22, kq_23⟩, o_c_20⟩ := hH (g.2.2 0) _ kq_5
        refine vp_callSi (W.runV (As := []) (rest := []) ⟨hx, hb, hml, hown, hts⟩ (c_X10_groupCount l g Ty G (g.2.2 0) kq_5) (cwV 0 hts (gwV mw_944 mw_945 mw_946 mw_77 mw_947) rfl rfl rfl hv_X10_groupCount ⟨Nat.le_of_ble_eq_true rfl, Nat.le_of_ble_eq_true rfl⟩) ⟨PcH_blind, hg_recv hK o_c_20 rfl, PcH_pre hK hH⟩ rfl rfl hl.1 rfl (lv_room (Nat.le_of_ble_eq_true rfl)) dX11_groups_75 ⟨Nat.zero_le _, Nat.zero_le _⟩) (fun x_28 hx_28 => ?_)
        exact W.iret hx hb hr (fun t ht hWm => ⟨⟨x_28, (Ty, G), rfl, rfl, by show HT g Ty G t.heap; rw [ht]; exact hH⟩, hS.F ht⟩) hS.2.2 dX11_groups_78
      · have r_29 : rgI (0) (23) y2_11 := rg_w (rg_ltL ry2_11 rl_24 (nle_lt c_2)) (by decide) (by decide)
        refine lv_aload_n hx hb dX11_groups_17 rfl (lv_at hl 0 rfl) ?_
        obtain ⟨_, ⟨q_45, rfl, kq_31, kq_32, kq_33, kq_34, kq_35, kq_36, kq_37, kq_38, kq_39, kq_40, kq_41, kq_42, kq_43, kq_44⟩, o_c_30⟩ := hH h0 _ k_h0
        refine hg_get hx hb hG igX11 hown hK o_c_30 rfl 0 (by decide) (hG _ mw_357) rfl dX11_groups_18 ?_
        refine lv_aload_n hx hb dX11_groups_21 rfl (lv_at hl 0 rfl) ?_
        refine hg_get hx hb hG igX11 hown hK o_c_30 rfl 0 (by decide) (hG _ mw_357) rfl dX11_groups_22 ?_
        refine lv_iload_n hx hb dX11_groups_25 rfl (lv_at hl 2 rfl) ?_
        obtain ⟨_, ⟨q_47, q_48, q_49, q_50, q_51, q_52, q_53, rfl, kq_47, kq_48, kq_49⟩, o_c_46⟩ := hH (g.2.2 0) _ kq_31
        refine vp_callSi (W.runV (As := [.int y2_11]) (rest := [.ref (g.2.2 0)]) ⟨hx, hb, hml, hown, hts⟩ (c_X10_groupOf l g Ty G (g.2.2 0) y2_11 kq_31) (cwV 1 hts (gwV mw_607 mw_608 mw_609 mw_77 mw_610) rfl rfl rfl hv_X10_groupOf ⟨Nat.le_of_ble_eq_true rfl, Nat.le_of_ble_eq_true rfl⟩) ⟨PcH_blind, hg_recv hK o_c_46 rfl, PcH_pre hK hH⟩ rfl rfl hl.1 rfl (lv_room (Nat.le_of_ble_eq_true rfl)) dX11_groups_26 ⟨Nat.zero_le _, Nat.zero_le _⟩) (fun x_54 hx_54 => ?_)
        refine vp_callSi (W.runV (As := [.int x_54]) (rest := []) ⟨hx, hb, hml, hown, hts⟩ (c_X10_withGroup l g Ty G (g.2.2 0) x_54 kq_31) (cwV 1 hts (gwV mw_943 mw_659 mw_660 mw_77 mw_661) rfl rfl rfl hv_X10_withGroup ⟨Nat.le_of_ble_eq_true rfl, Nat.le_of_ble_eq_true rfl⟩) ⟨PcH_blind, hg_recv hK o_c_46 rfl, PcH_pre hK hH⟩ rfl rfl hl.1 rfl (lv_room (Nat.le_of_ble_eq_true rfl)) dX11_groups_29 ⟨Nat.zero_le _, Nat.zero_le _⟩) (fun x_55 hx_55 => ?_)
        refine vp_callSi (W.runS (As := [.int x_55]) (rest := []) ⟨hx, hb, hml, hown, hts⟩ (c_J6_bitCount_0f7a4 l g Ty G x_55 ) (cwSx 1 hts hG (gwC mw_620) mw_99 mw_618 mw_619 rfl rfl rfl hd_J6_bitCount_0f7a4 ⟨Nat.le_of_ble_eq_true rfl, Nat.le_of_ble_eq_true rfl⟩) ⟨PcH_blind, PcH_pre hK hH⟩ rfl rfl hl.1 rfl (lv_room (Nat.le_of_ble_eq_true rfl)) dX11_groups_32 ⟨Nat.zero_le _, Nat.zero_le _⟩) (fun x_56 hx_56 => ?_)
        refine lv_istore_n (lv' := [(3, .int x_56), (0, .ref h0), (1, .int y1_11), (2, .int y2_11)]) hx hb dX11_groups_35 rfl hl (by decide) rfl (fun ls hl => ?_)
        refine lv_aload_n hx hb dX11_groups_36 rfl (lv_at hl 1 rfl) ?_
        refine hg_get hx hb hG igX11 hown hK o_c_30 rfl 0 (by decide) (hG _ mw_357) rfl dX11_groups_37 ?_
        refine lv_iload_n hx hb dX11_groups_40 rfl (lv_at hl 3 rfl) ?_
        refine vp_callSi (W.runV (As := [.int y2_11]) (rest := []) ⟨hx, hb, hml, hown, hts⟩ (c_X10_has l g Ty G (g.2.2 0) y2_11 kq_31) (cwV 1 hts (gwV mw_603 mw_604 mw_605 mw_77 mw_606) rfl rfl rfl hv_X10_has ⟨Nat.le_of_ble_eq_true rfl, Nat.le_of_ble_eq_true rfl⟩) ⟨PcH_blind, hg_recv hK o_c_46 rfl, PcH_pre hK hH⟩ rfl rfl hl.1 rfl (lv_room (Nat.le_of_ble_eq_true rfl)) dX11_groups_41 ⟨Nat.zero_le _, Nat.zero_le _⟩) (fun x_57 hx_57 => ?_)
        have rx_57 : rgI (0) (1) x_57 := hx_57.1
        refine lv_if_eq (tgt := 65) hx hb dX11_groups_44 (by decide) (fun c_58 => ?_) (fun c_58 => ?_)
        · have r_59 : rgI (0) (0) x_57 := rg_w (rg_eq rl_0 c_58) (by decide) (by decide)
          exact L_65 H locs y1_11 ls ry1_11 r_29 (lv_sub hl [1, 2, 3] rfl) hH hS
        · have r_60 : rgI (1) (1) x_57 := rg_w (rg_neL rx_57 rl_0 c_58) (by decide) (by decide)
          refine lv_iload_n hx hb dX11_groups_47 rfl (lv_at hl 0 rfl) ?_
          refine lv_iload_n hx hb dX11_groups_48 rfl (lv_at hl 2 rfl) ?_
          refine lv_icmp_le (tgt := 65) hx hb dX11_groups_49 (by decide) (fun c_61 => ?_) (fun c_61 => ?_)
          · exact L_65 H locs y1_11 ls ry1_11 r_29 (lv_sub hl [1, 2, 3] rfl) hH hS
          · have r_62 : rgI (0) (2147483646) y1_11 := rg_w (rg_ltL ry1_11 (rg_top x_56) (nle_lt c_61)) (by decide) (by decide)
            have r_63 : rgI (1) (2147483647) x_56 := rg_w (rg_ltR ry1_11 (rg_top x_56) (nle_lt c_61)) (by decide) (by decide)
            refine lv_iload_n hx hb dX11_groups_52 rfl (lv_at hl 0 rfl) ?_
            refine lv_istore_n (lv' := [(1, .int x_56), (3, .int x_56), (0, .ref h0), (2, .int y2_11)]) hx hb dX11_groups_53 rfl hl (by decide) rfl (fun ls hl => ?_)
            refine lv_aload_n hx hb dX11_groups_54 rfl (lv_at hl 2 rfl) ?_
            refine hg_get hx hb hG igX11 hown hK o_c_30 rfl 5 (by decide) (hG _ mw_362) rfl dX11_groups_55 ?_
            refine lv_iload_n hx hb dX11_groups_58 rfl (lv_at hl 1 rfl) ?_
            refine lv_i2l hx hb dX11_groups_59 rfl ?_
            refine lv_topl (fun u_64 eu_64 => ?_)
            refine lv_iload_n hx hb dX11_groups_60 rfl (lv_at hl 3 rfl) ?_
            refine lv_i2l hx hb dX11_groups_61 rfl ?_
            refine lv_topl (fun u_65 eu_65 => ?_)
            obtain ⟨_, ⟨q_67, q_68, rfl, kq_67, rq_68⟩, o_c_66⟩ := hH (g.2.2 5) _ kq_36
            refine va_callv (va_runV (As := [.long u_64, .long u_65]) (rest := []) ⟨hx, hb, hml, hown, hts⟩ (c_X7_tellTwo l g Ty G H.size (g.2.2 5) u_64 u_65 kq_36) (cwV 2 hts (gwV mw_753 mw_754 mw_755 mw_80 mw_756) rfl rfl rfl hv_X7_tellTwo ⟨Nat.le_of_ble_eq_true rfl, Nat.le_of_ble_eq_true rfl⟩) ⟨PcT_blind, hg_recv hK o_c_66 rfl, PcT_pre hK hH⟩ rfl rfl hl.1 rfl (lv_room (Nat.le_of_ble_eq_true rfl)) dX11_groups_62 ⟨Nat.zero_le _, Nat.zero_le _⟩) hS (fun q _ h => AF.mono hS.1 h) (fun q h => AF.mono hS.1 h) (fun ux_69 t H locs ht hvm hx_69 hB hz hk hS => ?_)
            have hH : HT g Ty G H := by rw [← ht]; rw [hx_69] at hB; exact hB
            exact L_65 H locs x_56 ls (rg_w r_63 (by decide) (by decide)) r_29 (lv_sub hl [2, 0, 3] rfl) hH hS
  refine lv_iconst (v := 0) hx hb dX11_groups_0 (by decide) ?_
  refine lv_istore_n (lv' := [(1, .int 0), (0, .ref h0)]) hx hb dX11_groups_1 rfl hl (by decide) rfl (fun ls hl => ?_)
  refine lv_aload_n hx hb dX11_groups_2 rfl (lv_at hl 1 rfl) ?_
  obtain ⟨_, ⟨q_85, rfl, kq_71, kq_72, kq_73, kq_74, kq_75, kq_76, kq_77, kq_78, kq_79, kq_80, kq_81, kq_82, kq_83, kq_84⟩, o_c_70⟩ := hH h0 _ k_h0
  refine hg_get hx hb hG igX11 hown hK o_c_70 rfl 5 (by decide) (hG _ mw_362) rfl dX11_groups_3 ?_
  obtain ⟨_, ⟨q_87, q_88, rfl, kq_87, rq_88⟩, o_c_86⟩ := hH (g.2.2 5) _ kq_76
  refine va_callv (va_runV (As := []) (rest := []) ⟨hx, hb, hml, hown, hts⟩ (c_X7_clear l g Ty G s.heap.size (g.2.2 5) kq_76) (cwV 0 hts (gwV mw_932 mw_588 mw_589 mw_80 mw_590) rfl rfl rfl hv_X7_clear ⟨Nat.le_of_ble_eq_true rfl, Nat.le_of_ble_eq_true rfl⟩) ⟨PcT_blind, hg_recv hK o_c_86 rfl, PcT_pre hK hH⟩ rfl rfl hl.1 rfl (lv_room (Nat.le_of_ble_eq_true rfl)) dX11_groups_6 ⟨Nat.zero_le _, Nat.zero_le _⟩) hS (fun q _ h => AF.mono hS.1 h) (fun q h => AF.mono hS.1 h) (fun ux_89 t H locs ht hvm hx_89 hB hz hk hS => ?_)
  have hH : HT g Ty G H := by rw [← ht]; rw [hx_89] at hB; exact hB
  refine lv_iconst (v := 0) hx hb dX11_groups_9 (by decide) ?_
  refine lv_istore_n (lv' := [(2, .int 0), (1, .int 0), (0, .ref h0)]) hx hb dX11_groups_10 rfl hl (by decide) rfl (fun ls hl => ?_)
  exact L_11 _ H locs 0 0 ls (rg_w rl_0 (by decide) (by decide)) (rg_w rl_0 (by decide) (by decide)) (Nat.lt_succ_self _) (lv_sub hl [2, 1, 0] rfl) hH hS

set_option maxHeartbeats 4000000 in
set_option maxRecDepth 100000 in
theorem c_X11_keepers (l : Launch) (g : Gx) (Ty : TyM) (G : Gh) (sz : Nat) (h0 : Nat) (a0 : Int32) (a1 : Int32) (k_h0 : Ty h0 = some (21, 0)) : Met l yX11_keepers (wsG yX11_keepers cX11_keepers 6 (some .int)) ({ frames := 4, cells := 0, slots := 0, locals := 88 }) (PcT g Ty G sz [.ref h0, .int a0, .int a1]) (QwI g Ty sz (fun r u => u = (Ty, G))) 0 0 (AF Ty sz) := by
  refine Met.ofW (cc := cX11_keepers) (maxL := 6) (ret := (some .int)) (by decide) rfl ?_
  intro p e s m args below meth c s₁ B hml hv
  obtain ⟨rfl, hsz, hK, hH⟩ := hv
  subst hsz
  have hx := B.exec
  have hb := B.bytes
  have hr := B.returns
  have hts := atoms_spec (ws := (wsG yX11_keepers cX11_keepers 6 (some .int))) B.pre
  have hG : ∀ w ∈ GW, w.before ([.ref h0, .int a0, .int a1] : List Value).toArray s = true := fun w h => hts w (List.mem_cons_of_mem _ h)
  have hown : s.vm.findClass RX11 = some m.cls := findClass_of_methodNamed B.named
  have hlocks := B.notSynchronized
  have hl := lv_entry [.ref h0, .int a0, .int a1] (n := 6) (Nat.le_of_ble_eq_true rfl)
  rw [lg_entry_eq]
  generalize (lg_sl [.ref h0, .int a0, .int a1] ++ List.replicate (6 - (lg_sl [.ref h0, .int a0, .int a1]).length) Slot.unset).toArray = ls at hl ⊢
  have hl : lv_has ls 6 [(0, .ref h0), (1, .int a0), (2, .int a1)] := hl
  have hS : va_S (AF Ty s.heap.size) s.heap s.heap [] := va_S.rf
  have L_55 : ∀ (n : Nat) (H : Heap) (locs : List Loc) (y3_55 : Int32) (y4_55 : Int32) (y5_55 : Int32) (ls : Array Slot), rgI (0) (23) a0 → rgI (0) (23) a1 → rgI (0) (24) y5_55 → (24 - (y5_55).toInt).toNat < n → lv_has ls 6 [(0, .ref h0), (1, .int a0), (2, .int a1), (3, .int y3_55), (4, .int y4_55), (5, .int y5_55)] → HT g Ty G H → va_S (AF Ty s.heap.size) s.heap H locs → Wm p l e (wsG yX11_keepers cX11_keepers 6 (some .int)) ({ frames := 4, cells := 0, slots := 0, locals := 88 }) s m [.ref h0, .int a0, .int a1] below meth c H locs (0) (0) (QwI g Ty s.heap.size (fun r u => u = (Ty, G))) 0 0 (AF Ty s.heap.size) (F0 m 55 ls []) := by
    intro n
    induction n with
    | zero => intro H locs y3_55 y4_55 y5_55 ls ry1_55 ry2_55 ry5_55 hm; exact absurd hm (Nat.not_lt_zero _)
    | succ n ih_55 =>
      intro H locs y3_55 y4_55 y5_55 ls ry1_55 ry2_55 ry5_55 hm_55 hl hH hS
      have L_128 : ∀ (H : Heap) (locs : List Loc) (y4_128 : Int32) (ls : Array Slot), rgI (0) (23) a0 → rgI (0) (23) a1 → rgI (0) (23) y5_55 → lv_has ls 6 [(0, .ref h0), (1, .int a0), (2, .int a1), (3, .int y3_55), (4, .int y4_128), (5, .int y5_55)] → HT g Ty G H → va_S (AF Ty s.heap.size) s.heap H locs → Wm p l e (wsG yX11_keepers cX11_keepers 6 (some .int)) ({ frames := 4, cells := 0, slots := 0, locals := 88 }) s m [.ref h0, .int a0, .int a1] below meth c H locs (0) (0) (QwI g Ty s.heap.size (fun r u => u = (Ty, G))) 0 0 (AF Ty s.heap.size) (F0 m 128 ls []) := by
        intro H locs y4_128 ls ry1_128 ry2_128 ry5_128 hl hH hS
        obtain ⟨x_1, ex_1⟩ : ∃ y : Int32, y = y5_55 + 1 := ⟨_, rfl⟩
        have rx_1 : rgI (1) (24) x_1 := by rw [ex_1]; exact rg_w (rg_add ry5_128 rl_1 (by decide) (by decide)) (by decide) (by decide)
        have qx_1 : x_1.toInt = (y5_55 : Int32).toInt + 1 := by rw [ex_1]; exact rg_addE ry5_128 rl_1 (by decide) (by decide)
        refine lv_iinc (v := x_1) (lv' := [(5, .int x_1), (0, .ref h0), (1, .int a0), (2, .int a1), (3, .int y3_55), (4, .int y4_128)]) hx hb dX11_keepers_128 hl (k := 5) rfl (by rw [ex_1]; rfl) (by decide) rfl (fun ls hl => ?_)
        refine lv_goto (tgt := 55) hx hb dX11_keepers_131 (by decide) ?_
        exact ih_55 H locs y3_55 y4_128 x_1 ls ry1_128 ry2_128 (rg_w rx_1 (by decide) (by decide)) (by have h1 := qx_1; have h2 := ry5_128.1; have h3 := ry5_128.2; have h4 := hm_55; omega) (lv_sub hl [1, 2, 3, 4, 5, 0] rfl) hH hS
      refine lv_iload hx hb dX11_keepers_55 (lv_at hl 5 rfl) ?_
      refine lv_bipush (v := 24) hx hb dX11_keepers_57 (by decide) ?_
      refine lv_icmp_ge (tgt := 134) hx hb dX11_keepers_59 (by decide) (fun c_2 => ?_) (fun c_2 => ?_)
      · have r_3 : rgI (24) (24) y5_55 := rg_w (rg_leR rl_24 ry5_55 c_2) (by decide) (by decide)
        refine lv_aload_n hx hb dX11_keepers_134 rfl (lv_at hl 0 rfl) ?_
        refine lv_iload hx hb dX11_keepers_135 (lv_at hl 4 rfl) ?_
        obtain ⟨_, ⟨q_19, rfl, kq_5, kq_6, kq_7, kq_8, kq_9, kq_10, kq_11, kq_12, kq_13, kq_14, kq_15, kq_16, kq_17, kq_18⟩, o_c_4⟩ := hH h0 _ k_h0
        refine va_calli (va_runV (As := [.int y4_55]) (rest := []) ⟨hx, hb, hml, hown, hts⟩ (c_X11_toldWithSize l g Ty G H.size h0 y4_55 k_h0) (cwV 1 hts (gwV mw_915 mw_917 mw_22 mw_76 mw_918) rfl rfl rfl hv_X11_toldWithSize ⟨Nat.le_of_ble_eq_true rfl, Nat.le_of_ble_eq_true rfl⟩) ⟨PcT_blind, hg_recv hK o_c_4 rfl, PcT_pre hK hH⟩ rfl rfl hl.1 rfl (lv_room (Nat.le_of_ble_eq_true rfl)) dX11_keepers_137 ⟨Nat.zero_le _, Nat.zero_le _⟩) hS (fun q _ h => AF.mono hS.1 h) (fun q h => AF.mono hS.1 h) (fun x_20 ux_20 t H locs ht hvm hx_20 hB hz hk hS => ?_)
        have hH : HT g Ty G H := by rw [← ht]; rw [hx_20] at hB; exact hB
        exact W.iret hx hb hr (fun t ht hWm => ⟨⟨x_20, (Ty, G), rfl, rfl, by show HT g Ty G t.heap; rw [ht]; exact hH⟩, hS.F ht⟩) hS.2.2 dX11_keepers_140
      · have r_21 : rgI (0) (23) y5_55 := rg_w (rg_ltL ry5_55 rl_24 (nle_lt c_2)) (by decide) (by decide)
        refine lv_aload_n hx hb dX11_keepers_62 rfl (lv_at hl 0 rfl) ?_
        obtain ⟨_, ⟨q_37, rfl, kq_23, kq_24, kq_25, kq_26, kq_27, kq_28, kq_29, kq_30, kq_31, kq_32, kq_33, kq_34, kq_35, kq_36⟩, o_c_22⟩ := hH h0 _ k_h0
        refine hg_get hx hb hG igX11 hown hK o_c_22 rfl 0 (by decide) (hG _ mw_357) rfl dX11_keepers_63 ?_
        refine lv_iload hx hb dX11_keepers_66 (lv_at hl 5 rfl) ?_
        obtain ⟨_, ⟨q_39, q_40, q_41, q_42, q_43, q_44, q_45, rfl, kq_39, kq_40, kq_41⟩, o_c_38⟩ := hH (g.2.2 0) _ kq_23
        refine vp_callSi (W.runV (As := [.int y5_55]) (rest := []) ⟨hx, hb, hml, hown, hts⟩ (c_X10_has l g Ty G (g.2.2 0) y5_55 kq_23) (cwV 1 hts (gwV mw_603 mw_604 mw_605 mw_77 mw_606) rfl rfl rfl hv_X10_has ⟨Nat.le_of_ble_eq_true rfl, Nat.le_of_ble_eq_true rfl⟩) ⟨PcH_blind, hg_recv hK o_c_38 rfl, PcH_pre hK hH⟩ rfl rfl hl.1 rfl (lv_room (Nat.le_of_ble_eq_true rfl)) dX11_keepers_68 ⟨Nat.zero_le _, Nat.zero_le _⟩) (fun x_46 hx_46 => ?_)
        have rx_46 : rgI (0) (1) x_46 := hx_46.1
        refine lv_if_eq (tgt := 128) hx hb dX11_keepers_71 (by decide) (fun c_47 => ?_) (fun c_47 => ?_)
        · have r_48 : rgI (0) (0) x_46 := rg_w (rg_eq rl_0 c_47) (by decide) (by decide)
          exact L_128 H locs y4_55 ls ry1_55 ry2_55 r_21 (lv_sub hl [0, 1, 2, 3, 4, 5] rfl) hH hS
        · have r_49 : rgI (1) (1) x_46 := rg_w (rg_neL rx_46 rl_0 c_47) (by decide) (by decide)
          refine lv_iload hx hb dX11_keepers_74 (lv_at hl 5 rfl) ?_
          refine lv_iload_n hx hb dX11_keepers_76 rfl (lv_at hl 1 rfl) ?_
          refine lv_icmp_eq (tgt := 128) hx hb dX11_keepers_77 (by decide) (fun c_50 => ?_) (fun c_50 => ?_)
          · exact L_128 H locs y4_55 ls ry1_55 ry2_55 r_21 (lv_sub hl [0, 1, 2, 3, 4, 5] rfl) hH hS
          · refine lv_iload hx hb dX11_keepers_80 (lv_at hl 5 rfl) ?_
            refine lv_iload_n hx hb dX11_keepers_82 rfl (lv_at hl 2 rfl) ?_
            refine lv_icmp_eq (tgt := 128) hx hb dX11_keepers_83 (by decide) (fun c_51 => ?_) (fun c_51 => ?_)
            · exact L_128 H locs y4_55 ls ry1_55 ry2_55 r_21 (lv_sub hl [0, 1, 2, 3, 4, 5] rfl) hH hS
            · refine lv_aload_n hx hb dX11_keepers_86 rfl (lv_at hl 0 rfl) ?_
              refine hg_get hx hb hG igX11 hown hK o_c_22 rfl 1 (by decide) (hG _ mw_358) rfl dX11_keepers_87 ?_
              refine lv_aload_n hx hb dX11_keepers_90 rfl (lv_at hl 0 rfl) ?_
              refine hg_get hx hb hG igX11 hown hK o_c_22 rfl 0 (by decide) (hG _ mw_357) rfl dX11_keepers_91 ?_
              obtain ⟨_, ⟨q_53, q_54, q_55, q_56, q_57, q_58, q_59, rfl, kq_53, kq_54, kq_55⟩, o_c_52⟩ := hH (g.2.2 1) _ kq_24
              refine va_callv (va_runV (As := [.ref (g.2.2 0)]) (rest := []) ⟨hx, hb, hml, hown, hts⟩ (c_X10_take l g Ty G H.size (g.2.2 1) (g.2.2 0) kq_24 kq_23) (cwV 1 hts (gwV mw_628 mw_629 mw_630 mw_77 mw_631) rfl rfl rfl hv_X10_take ⟨Nat.le_of_ble_eq_true rfl, Nat.le_of_ble_eq_true rfl⟩) ⟨PcT_blind, hg_recv hK o_c_52 rfl, PcT_pre hK hH⟩ rfl rfl hl.1 rfl (lv_room (Nat.le_of_ble_eq_true rfl)) dX11_keepers_94 ⟨Nat.zero_le _, Nat.zero_le _⟩) hS (fun q _ h => AF.mono hS.1 h) (fun q h => AF.mono hS.1 h) (fun ux_60 t H locs ht hvm hx_60 hB hz hk hS => ?_)
              have hH : HT g Ty G H := by rw [← ht]; rw [hx_60] at hB; exact hB
              refine lv_aload_n hx hb dX11_keepers_97 rfl (lv_at hl 0 rfl) ?_
              obtain ⟨_, ⟨q_76, rfl, kq_62, kq_63, kq_64, kq_65, kq_66, kq_67, kq_68, kq_69, kq_70, kq_71, kq_72, kq_73, kq_74, kq_75⟩, o_c_61⟩ := hH h0 _ k_h0
              refine hg_get hx hb hG igX11 hown hK o_c_61 rfl 1 (by decide) (hG _ mw_358) rfl dX11_keepers_98 ?_
              refine lv_iload hx hb dX11_keepers_101 (lv_at hl 5 rfl) ?_
              obtain ⟨_, ⟨q_78, q_79, q_80, q_81, q_82, q_83, q_84, rfl, kq_78, kq_79, kq_80⟩, o_c_77⟩ := hH (g.2.2 1) _ kq_63
              refine va_callv (va_runV (As := [.int y5_55]) (rest := []) ⟨hx, hb, hml, hown, hts⟩ (c_X10_makePrivate l g Ty G H.size (g.2.2 1) y5_55 kq_63) (cwV 1 hts (gwV mw_952 mw_798 mw_799 mw_77 mw_800) rfl rfl rfl hv_X10_makePrivate ⟨Nat.le_of_ble_eq_true rfl, Nat.le_of_ble_eq_true rfl⟩) ⟨PcT_blind, hg_recv hK o_c_77 rfl, PcT_pre hK hH⟩ rfl rfl hl.1 rfl (lv_room (Nat.le_of_ble_eq_true rfl)) dX11_keepers_103 ⟨Nat.zero_le _, Nat.zero_le _⟩) hS (fun q _ h => AF.mono hS.1 h) (fun q h => AF.mono hS.1 h) (fun ux_85 t H locs ht hvm hx_85 hB hz hk hS => ?_)
              have hH : HT g Ty G H := by rw [← ht]; rw [hx_85] at hB; exact hB
              refine lv_aload_n hx hb dX11_keepers_106 rfl (lv_at hl 0 rfl) ?_
              obtain ⟨_, ⟨q_101, rfl, kq_87, kq_88, kq_89, kq_90, kq_91, kq_92, kq_93, kq_94, kq_95, kq_96, kq_97, kq_98, kq_99, kq_100⟩, o_c_86⟩ := hH h0 _ k_h0
              refine hg_get hx hb hG igX11 hown hK o_c_86 rfl 1 (by decide) (hG _ mw_358) rfl dX11_keepers_107 ?_
              refine lv_iload_n hx hb dX11_keepers_110 rfl (lv_at hl 1 rfl) ?_
              obtain ⟨_, ⟨q_103, q_104, q_105, q_106, q_107, q_108, q_109, rfl, kq_103, kq_104, kq_105⟩, o_c_102⟩ := hH (g.2.2 1) _ kq_88
              refine vp_callSi (W.runV (As := [.int a0]) (rest := []) ⟨hx, hb, hml, hown, hts⟩ (c_X10_spreadOf l g Ty G (g.2.2 1) a0 kq_88) (cwV 1 hts (gwV mw_914 mw_650 mw_651 mw_77 mw_652) rfl rfl rfl hv_X10_spreadOf ⟨Nat.le_of_ble_eq_true rfl, Nat.le_of_ble_eq_true rfl⟩) ⟨PcH_blind, hg_recv hK o_c_102 rfl, PcH_pre hK hH⟩ rfl rfl hl.1 rfl (lv_room (Nat.le_of_ble_eq_true rfl)) dX11_keepers_111 ⟨Nat.zero_le _, Nat.zero_le _⟩) (fun x_110 hx_110 => ?_)
              refine lv_iload_n hx hb dX11_keepers_114 rfl (lv_at hl 3 rfl) ?_
              refine lv_iand hx hb dX11_keepers_115 ?_
              refine lv_topi (fun x_111 ex_111 => ?_)
              refine lv_if_ne (tgt := 128) hx hb dX11_keepers_116 (by decide) (fun c_112 => ?_) (fun c_112 => ?_)
              · exact L_128 H locs y4_55 ls ry1_55 ry2_55 r_21 (lv_sub hl [0, 1, 2, 3, 4, 5] rfl) hH hS
              · have r_113 : rgI (0) (0) x_111 := rg_w (rg_eq rl_0 c_112) (by decide) (by decide)
                refine lv_iload hx hb dX11_keepers_119 (lv_at hl 4 rfl) ?_
                refine lv_iconst (v := 1) hx hb dX11_keepers_121 (by decide) ?_
                refine lv_iload hx hb dX11_keepers_122 (lv_at hl 5 rfl) ?_
                refine lv_ishl hx hb dX11_keepers_124 ?_
                refine lv_topi (fun x_114 ex_114 => ?_)
                refine lv_ior hx hb dX11_keepers_125 ?_
                refine lv_topi (fun x_115 ex_115 => ?_)
                refine lv_istore (lv' := [(4, .int x_115), (0, .ref h0), (1, .int a0), (2, .int a1), (3, .int y3_55), (5, .int y5_55)]) hx hb dX11_keepers_126 hl (by decide) rfl (fun ls hl => ?_)
                exact L_128 H locs x_115 ls ry1_55 ry2_55 r_21 (lv_sub hl [1, 2, 3, 4, 0, 5] rfl) hH hS
  have L_46 : ∀ (H : Heap) (locs : List Loc) (ls : Array Slot), lv_has ls 6 [] → HT g Ty G H → va_S (AF Ty s.heap.size) s.heap H locs → Wm p l e (wsG yX11_keepers cX11_keepers 6 (some .int)) ({ frames := 4, cells := 0, slots := 0, locals := 88 }) s m [.ref h0, .int a0, .int a1] below meth c H locs (0) (0) (QwI g Ty s.heap.size (fun r u => u = (Ty, G))) 0 0 (AF Ty s.heap.size) (F0 m 46 ls []) := by
    intro H locs ls hl hH hS
    refine lv_bipush (v := (-2)) hx hb dX11_keepers_46 (by decide) ?_
    exact W.iret hx hb hr (fun t ht hWm => ⟨⟨(-2), (Ty, G), rfl, rfl, by show HT g Ty G t.heap; rw [ht]; exact hH⟩, hS.F ht⟩) hS.2.2 dX11_keepers_48
  have L_22 : ∀ (H : Heap) (locs : List Loc) (ls : Array Slot), lv_has ls 6 [] → HT g Ty G H → va_S (AF Ty s.heap.size) s.heap H locs → Wm p l e (wsG yX11_keepers cX11_keepers 6 (some .int)) ({ frames := 4, cells := 0, slots := 0, locals := 88 }) s m [.ref h0, .int a0, .int a1] below meth c H locs (0) (0) (QwI g Ty s.heap.size (fun r u => u = (Ty, G))) 0 0 (AF Ty s.heap.size) (F0 m 22 ls []) := by
    intro H locs ls hl hH hS
    refine lv_iconst (v := (-1)) hx hb dX11_keepers_22 (by decide) ?_
    exact W.iret hx hb hr (fun t ht hWm => ⟨⟨(-1), (Ty, G), rfl, rfl, by show HT g Ty G t.heap; rw [ht]; exact hH⟩, hS.F ht⟩) hS.2.2 dX11_keepers_23
  refine lv_aload_n hx hb dX11_keepers_0 rfl (lv_at hl 0 rfl) ?_
  obtain ⟨_, ⟨q_131, rfl, kq_117, kq_118, kq_119, kq_120, kq_121, kq_122, kq_123, kq_124, kq_125, kq_126, kq_127, kq_128, kq_129, kq_130⟩, o_c_116⟩ := hH h0 _ k_h0
  refine hg_get hx hb hG igX11 hown hK o_c_116 rfl 0 (by decide) (hG _ mw_357) rfl dX11_keepers_1 ?_
  refine lv_iload_n hx hb dX11_keepers_4 rfl (lv_at hl 1 rfl) ?_
  obtain ⟨_, ⟨q_133, q_134, q_135, q_136, q_137, q_138, q_139, rfl, kq_133, kq_134, kq_135⟩, o_c_132⟩ := hH (g.2.2 0) _ kq_117
  refine vp_callSi (W.runV (As := [.int a0]) (rest := []) ⟨hx, hb, hml, hown, hts⟩ (c_X10_has l g Ty G (g.2.2 0) a0 kq_117) (cwV 1 hts (gwV mw_603 mw_604 mw_605 mw_77 mw_606) rfl rfl rfl hv_X10_has ⟨Nat.le_of_ble_eq_true rfl, Nat.le_of_ble_eq_true rfl⟩) ⟨PcH_blind, hg_recv hK o_c_132 rfl, PcH_pre hK hH⟩ rfl rfl hl.1 rfl (lv_room (Nat.le_of_ble_eq_true rfl)) dX11_keepers_5 ⟨Nat.zero_le _, Nat.zero_le _⟩) (fun x_140 hx_140 => ?_)
  have rx_140 : rgI (0) (1) x_140 := hx_140.1
  refine lv_if_eq (tgt := 22) hx hb dX11_keepers_8 (by decide) (fun c_141 => ?_) (fun c_141 => ?_)
  · have r_142 : rgI (0) (0) x_140 := rg_w (rg_eq rl_0 c_141) (by decide) (by decide)
    exact L_22 s.heap [] ls (lv_sub hl [] rfl) hH hS
  · have r_143 : rgI (1) (1) x_140 := rg_w (rg_neL rx_140 rl_0 c_141) (by decide) (by decide)
    have r_144 : rgI (0) (23) a0 := rg_w (hx_140.2.resolve_left c_141) (by decide) (by decide)
    refine lv_aload_n hx hb dX11_keepers_11 rfl (lv_at hl 0 rfl) ?_
    refine hg_get hx hb hG igX11 hown hK o_c_116 rfl 0 (by decide) (hG _ mw_357) rfl dX11_keepers_12 ?_
    refine lv_iload_n hx hb dX11_keepers_15 rfl (lv_at hl 2 rfl) ?_
    refine vp_callSi (W.runV (As := [.int a1]) (rest := []) ⟨hx, hb, hml, hown, hts⟩ (c_X10_has l g Ty G (g.2.2 0) a1 kq_117) (cwV 1 hts (gwV mw_603 mw_604 mw_605 mw_77 mw_606) rfl rfl rfl hv_X10_has ⟨Nat.le_of_ble_eq_true rfl, Nat.le_of_ble_eq_true rfl⟩) ⟨PcH_blind, hg_recv hK o_c_132 rfl, PcH_pre hK hH⟩ rfl rfl hl.1 rfl (lv_room (Nat.le_of_ble_eq_true rfl)) dX11_keepers_16 ⟨Nat.zero_le _, Nat.zero_le _⟩) (fun x_145 hx_145 => ?_)
    have rx_145 : rgI (0) (1) x_145 := hx_145.1
    refine lv_if_ne (tgt := 24) hx hb dX11_keepers_19 (by decide) (fun c_146 => ?_) (fun c_146 => ?_)
    · have r_147 : rgI (1) (1) x_145 := rg_w (rg_neL rx_145 rl_0 c_146) (by decide) (by decide)
      have r_148 : rgI (0) (23) a1 := rg_w (hx_145.2.resolve_left c_146) (by decide) (by decide)
      refine lv_iconst (v := 1) hx hb dX11_keepers_24 (by decide) ?_
      refine lv_iload_n hx hb dX11_keepers_25 rfl (lv_at hl 2 rfl) ?_
      refine lv_ishl hx hb dX11_keepers_26 ?_
      refine lv_topi (fun x_149 ex_149 => ?_)
      refine lv_istore_n (lv' := [(3, .int x_149), (0, .ref h0), (1, .int a0), (2, .int a1)]) hx hb dX11_keepers_27 rfl hl (by decide) rfl (fun ls hl => ?_)
      refine lv_iload_n hx hb dX11_keepers_28 rfl (lv_at hl 2 rfl) ?_
      refine lv_iload_n hx hb dX11_keepers_29 rfl (lv_at hl 3 rfl) ?_
      refine lv_icmp_eq (tgt := 46) hx hb dX11_keepers_30 (by decide) (fun c_150 => ?_) (fun c_150 => ?_)
      · exact L_46 s.heap [] ls (lv_sub hl [] rfl) hH hS
      · refine lv_aload_n hx hb dX11_keepers_33 rfl (lv_at hl 1 rfl) ?_
        refine hg_get hx hb hG igX11 hown hK o_c_116 rfl 0 (by decide) (hG _ mw_357) rfl dX11_keepers_34 ?_
        refine lv_iload_n hx hb dX11_keepers_37 rfl (lv_at hl 2 rfl) ?_
        refine vp_callSi (W.runV (As := [.int a0]) (rest := []) ⟨hx, hb, hml, hown, hts⟩ (c_X10_spreadOf l g Ty G (g.2.2 0) a0 kq_117) (cwV 1 hts (gwV mw_914 mw_650 mw_651 mw_77 mw_652) rfl rfl rfl hv_X10_spreadOf ⟨Nat.le_of_ble_eq_true rfl, Nat.le_of_ble_eq_true rfl⟩) ⟨PcH_blind, hg_recv hK o_c_132 rfl, PcH_pre hK hH⟩ rfl rfl hl.1 rfl (lv_room (Nat.le_of_ble_eq_true rfl)) dX11_keepers_38 ⟨Nat.zero_le _, Nat.zero_le _⟩) (fun x_151 hx_151 => ?_)
        refine lv_iload_n hx hb dX11_keepers_41 rfl (lv_at hl 0 rfl) ?_
        refine lv_iand hx hb dX11_keepers_42 ?_
        refine lv_topi (fun x_152 ex_152 => ?_)
        refine lv_if_ne (tgt := 49) hx hb dX11_keepers_43 (by decide) (fun c_153 => ?_) (fun c_153 => ?_)
        · refine lv_iconst (v := 0) hx hb dX11_keepers_49 (by decide) ?_
          refine lv_istore (lv' := [(4, .int 0), (3, .int x_149), (0, .ref h0), (1, .int a0), (2, .int a1)]) hx hb dX11_keepers_50 hl (by decide) rfl (fun ls hl => ?_)
          refine lv_iconst (v := 0) hx hb dX11_keepers_52 (by decide) ?_
          refine lv_istore (lv' := [(5, .int 0), (4, .int 0), (3, .int x_149), (0, .ref h0), (1, .int a0), (2, .int a1)]) hx hb dX11_keepers_53 hl (by decide) rfl (fun ls hl => ?_)
          exact L_55 _ s.heap [] x_149 0 0 ls r_144 r_148 (rg_w rl_0 (by decide) (by decide)) (Nat.lt_succ_self _) (lv_sub hl [3, 4, 5, 2, 1, 0] rfl) hH hS
        · have r_154 : rgI (0) (0) x_152 := rg_w (rg_eq rl_0 c_153) (by decide) (by decide)
          exact L_46 s.heap [] ls (lv_sub hl [] rfl) hH hS
    · have r_155 : rgI (0) (0) x_145 := rg_w (rg_eq rl_0 c_146) (by decide) (by decide)
      exact L_22 s.heap [] ls (lv_sub hl [] rfl) hH hS

set_option maxHeartbeats 4000000 in
set_option maxRecDepth 100000 in
theorem c_X11_inside (l : Launch) (g : Gx) (Ty : TyM) (G : Gh) (sz : Nat) (h0 : Nat) (a0 : Int32) (k_h0 : Ty h0 = some (21, 0)) : Met l yX11_inside (wsG yX11_inside cX11_inside 5 (some .int)) ({ frames := 3, cells := 0, slots := 0, locals := 68 }) (PcT g Ty G sz [.ref h0, .int a0]) (QwI g Ty sz (fun r u => u = (Ty, G))) 0 0 (AF Ty sz) := by
  refine Met.ofW (cc := cX11_inside) (maxL := 5) (ret := (some .int)) (by decide) rfl ?_
  intro p e s m args below meth c s₁ B hml hv
  obtain ⟨rfl, hsz, hK, hH⟩ := hv
  subst hsz
  have hx := B.exec
  have hb := B.bytes
  have hr := B.returns
  have hts := atoms_spec (ws := (wsG yX11_inside cX11_inside 5 (some .int))) B.pre
  have hG : ∀ w ∈ GW, w.before ([.ref h0, .int a0] : List Value).toArray s = true := fun w h => hts w (List.mem_cons_of_mem _ h)
  have hown : s.vm.findClass RX11 = some m.cls := findClass_of_methodNamed B.named
  have hlocks := B.notSynchronized
  have hl := lv_entry [.ref h0, .int a0] (n := 5) (Nat.le_of_ble_eq_true rfl)
  rw [lg_entry_eq]
  generalize (lg_sl [.ref h0, .int a0] ++ List.replicate (5 - (lg_sl [.ref h0, .int a0]).length) Slot.unset).toArray = ls at hl ⊢
  have hl : lv_has ls 5 [(0, .ref h0), (1, .int a0)] := hl
  have hS : va_S (AF Ty s.heap.size) s.heap s.heap [] := va_S.rf
  have L_27 : ∀ (n : Nat) (H : Heap) (locs : List Loc) (y2_27 : Int32) (y3_27 : Int32) (y4_27 : Int32) (ls : Array Slot), rgI (0) (23) a0 → rgI (0) (2147483647) y3_27 → rgI (0) (24) y4_27 → (24 - (y4_27).toInt).toNat < n → lv_has ls 5 [(0, .ref h0), (1, .int a0), (2, .int y2_27), (3, .int y3_27), (4, .int y4_27)] → HT g Ty G H → va_S (AF Ty s.heap.size) s.heap H locs → Wm p l e (wsG yX11_inside cX11_inside 5 (some .int)) ({ frames := 3, cells := 0, slots := 0, locals := 68 }) s m [.ref h0, .int a0] below meth c H locs (0) (0) (QwI g Ty s.heap.size (fun r u => u = (Ty, G))) 0 0 (AF Ty s.heap.size) (F0 m 27 ls []) := by
    intro n
    induction n with
    | zero => intro H locs y2_27 y3_27 y4_27 ls ry1_27 ry3_27 ry4_27 hm; exact absurd hm (Nat.not_lt_zero _)
    | succ n ih_27 =>
      intro H locs y2_27 y3_27 y4_27 ls ry1_27 ry3_27 ry4_27 hm_27 hl hH hS
      have L_66 : ∀ (H : Heap) (locs : List Loc) (y3_66 : Int32) (ls : Array Slot), rgI (0) (23) a0 → rgI (0) (2147483647) y3_66 → rgI (0) (23) y4_27 → lv_has ls 5 [(0, .ref h0), (1, .int a0), (2, .int y2_27), (3, .int y3_66), (4, .int y4_27)] → HT g Ty G H → va_S (AF Ty s.heap.size) s.heap H locs → Wm p l e (wsG yX11_inside cX11_inside 5 (some .int)) ({ frames := 3, cells := 0, slots := 0, locals := 68 }) s m [.ref h0, .int a0] below meth c H locs (0) (0) (QwI g Ty s.heap.size (fun r u => u = (Ty, G))) 0 0 (AF Ty s.heap.size) (F0 m 66 ls []) := by
        intro H locs y3_66 ls ry1_66 ry3_66 ry4_66 hl hH hS
        obtain ⟨x_1, ex_1⟩ : ∃ y : Int32, y = y4_27 + 1 := ⟨_, rfl⟩
        have rx_1 : rgI (1) (24) x_1 := by rw [ex_1]; exact rg_w (rg_add ry4_66 rl_1 (by decide) (by decide)) (by decide) (by decide)
        have qx_1 : x_1.toInt = (y4_27 : Int32).toInt + 1 := by rw [ex_1]; exact rg_addE ry4_66 rl_1 (by decide) (by decide)
        refine lv_iinc (v := x_1) (lv' := [(4, .int x_1), (0, .ref h0), (1, .int a0), (2, .int y2_27), (3, .int y3_66)]) hx hb dX11_inside_66 hl (k := 4) rfl (by rw [ex_1]; rfl) (by decide) rfl (fun ls hl => ?_)
        refine lv_goto (tgt := 27) hx hb dX11_inside_69 (by decide) ?_
        exact ih_27 H locs y2_27 y3_66 x_1 ls ry1_66 ry3_66 (rg_w rx_1 (by decide) (by decide)) (by have h1 := qx_1; have h2 := ry4_66.1; have h3 := ry4_66.2; have h4 := hm_27; omega) (lv_sub hl [1, 2, 3, 4, 0] rfl) hH hS
      refine lv_iload hx hb dX11_inside_27 (lv_at hl 4 rfl) ?_
      refine lv_bipush (v := 24) hx hb dX11_inside_29 (by decide) ?_
      refine lv_icmp_ge (tgt := 72) hx hb dX11_inside_31 (by decide) (fun c_2 => ?_) (fun c_2 => ?_)
      · have r_3 : rgI (24) (24) y4_27 := rg_w (rg_leR rl_24 ry4_27 c_2) (by decide) (by decide)
        refine lv_aload_n hx hb dX11_inside_72 rfl (lv_at hl 0 rfl) ?_
        obtain ⟨_, ⟨q_19, rfl, kq_5, kq_6, kq_7, kq_8, kq_9, kq_10, kq_11, kq_12, kq_13, kq_14, kq_15, kq_16, kq_17, kq_18⟩, o_c_4⟩ := hH h0 _ k_h0
        refine hg_get hx hb hG igX11 hown hK o_c_4 rfl 5 (by decide) (hG _ mw_362) rfl dX11_inside_73 ?_
        refine lv_iload_n hx hb dX11_inside_76 rfl (lv_at hl 2 rfl) ?_
        refine vp_callSi (W.runS (As := [.int y2_27]) (rest := [.ref (g.2.2 5)]) ⟨hx, hb, hml, hown, hts⟩ (c_J6_bitCount_0f7a4 l g Ty G y2_27 ) (cwSx 1 hts hG (gwC mw_620) mw_99 mw_618 mw_619 rfl rfl rfl hd_J6_bitCount_0f7a4 ⟨Nat.le_of_ble_eq_true rfl, Nat.le_of_ble_eq_true rfl⟩) ⟨PcH_blind, PcH_pre hK hH⟩ rfl rfl hl.1 rfl (lv_room (Nat.le_of_ble_eq_true rfl)) dX11_inside_77 ⟨Nat.zero_le _, Nat.zero_le _⟩) (fun x_20 hx_20 => ?_)
        refine lv_i2l hx hb dX11_inside_80 rfl ?_
        refine lv_topl (fun u_21 eu_21 => ?_)
        refine lv_iload_n hx hb dX11_inside_81 rfl (lv_at hl 3 rfl) ?_
        refine lv_i2l hx hb dX11_inside_82 rfl ?_
        refine lv_topl (fun u_22 eu_22 => ?_)
        obtain ⟨_, ⟨q_24, q_25, rfl, kq_24, rq_25⟩, o_c_23⟩ := hH (g.2.2 5) _ kq_10
        refine va_callv (va_runV (As := [.long u_21, .long u_22]) (rest := []) ⟨hx, hb, hml, hown, hts⟩ (c_X7_tellTwo l g Ty G H.size (g.2.2 5) u_21 u_22 kq_10) (cwV 2 hts (gwV mw_753 mw_754 mw_755 mw_80 mw_756) rfl rfl rfl hv_X7_tellTwo ⟨Nat.le_of_ble_eq_true rfl, Nat.le_of_ble_eq_true rfl⟩) ⟨PcT_blind, hg_recv hK o_c_23 rfl, PcT_pre hK hH⟩ rfl rfl hl.1 rfl (lv_room (Nat.le_of_ble_eq_true rfl)) dX11_inside_83 ⟨Nat.zero_le _, Nat.zero_le _⟩) hS (fun q _ h => AF.mono hS.1 h) (fun q h => AF.mono hS.1 h) (fun ux_26 t H locs ht hvm hx_26 hB hz hk hS => ?_)
        have hH : HT g Ty G H := by rw [← ht]; rw [hx_26] at hB; exact hB
        refine lv_iload_n hx hb dX11_inside_86 rfl (lv_at hl 2 rfl) ?_
        exact W.iret hx hb hr (fun t ht hWm => ⟨⟨y2_27, (Ty, G), rfl, rfl, by show HT g Ty G t.heap; rw [ht]; exact hH⟩, hS.F ht⟩) hS.2.2 dX11_inside_87
      · have r_27 : rgI (0) (23) y4_27 := rg_w (rg_ltL ry4_27 rl_24 (nle_lt c_2)) (by decide) (by decide)
        refine lv_iload_n hx hb dX11_inside_34 rfl (lv_at hl 2 rfl) ?_
        refine lv_iconst (v := 1) hx hb dX11_inside_35 (by decide) ?_
        refine lv_iload hx hb dX11_inside_36 (lv_at hl 4 rfl) ?_
        refine lv_ishl hx hb dX11_inside_38 ?_
        refine lv_topi (fun x_28 ex_28 => ?_)
        refine lv_iand hx hb dX11_inside_39 ?_
        refine lv_topi (fun x_29 ex_29 => ?_)
        refine lv_if_eq (tgt := 66) hx hb dX11_inside_40 (by decide) (fun c_30 => ?_) (fun c_30 => ?_)
        · have r_31 : rgI (0) (0) x_29 := rg_w (rg_eq rl_0 c_30) (by decide) (by decide)
          exact L_66 H locs y3_27 ls ry1_27 ry3_27 r_27 (lv_sub hl [0, 1, 2, 3, 4] rfl) hH hS
        · refine lv_iload_n hx hb dX11_inside_43 rfl (lv_at hl 3 rfl) ?_
          refine lv_aload_n hx hb dX11_inside_44 rfl (lv_at hl 0 rfl) ?_
          obtain ⟨_, ⟨q_47, rfl, kq_33, kq_34, kq_35, kq_36, kq_37, kq_38, kq_39, kq_40, kq_41, kq_42, kq_43, kq_44, kq_45, kq_46⟩, o_c_32⟩ := hH h0 _ k_h0
          refine hg_get hx hb hG igX11 hown hK o_c_32 rfl 0 (by decide) (hG _ mw_357) rfl dX11_inside_45 ?_
          refine lv_iload hx hb dX11_inside_48 (lv_at hl 4 rfl) ?_
          obtain ⟨_, ⟨q_49, q_50, q_51, q_52, q_53, q_54, q_55, rfl, kq_49, kq_50, kq_51⟩, o_c_48⟩ := hH (g.2.2 0) _ kq_33
          refine vp_callSi (W.runV (As := [.int y4_27]) (rest := [.int y3_27]) ⟨hx, hb, hml, hown, hts⟩ (c_X10_stepsTo l g Ty G (g.2.2 0) y4_27 kq_33) (cwV 1 hts (gwV mw_962 mw_679 mw_680 mw_77 mw_681) rfl rfl rfl hv_X10_stepsTo ⟨Nat.le_of_ble_eq_true rfl, Nat.le_of_ble_eq_true rfl⟩) ⟨PcH_blind, hg_recv hK o_c_48 rfl, PcH_pre hK hH⟩ rfl rfl hl.1 rfl (lv_room (Nat.le_of_ble_eq_true rfl)) dX11_inside_50 ⟨Nat.zero_le _, Nat.zero_le _⟩) (fun x_56 hx_56 => ?_)
          refine lv_aload_n hx hb dX11_inside_53 rfl (lv_at hl 0 rfl) ?_
          refine hg_get hx hb hG igX11 hown hK o_c_32 rfl 0 (by decide) (hG _ mw_357) rfl dX11_inside_54 ?_
          refine lv_iload_n hx hb dX11_inside_57 rfl (lv_at hl 1 rfl) ?_
          refine vp_callSi (W.runV (As := [.int a0]) (rest := [.int x_56, .int y3_27]) ⟨hx, hb, hml, hown, hts⟩ (c_X10_stepsTo l g Ty G (g.2.2 0) a0 kq_33) (cwV 1 hts (gwV mw_962 mw_679 mw_680 mw_77 mw_681) rfl rfl rfl hv_X10_stepsTo ⟨Nat.le_of_ble_eq_true rfl, Nat.le_of_ble_eq_true rfl⟩) ⟨PcH_blind, hg_recv hK o_c_48 rfl, PcH_pre hK hH⟩ rfl rfl hl.1 rfl (lv_room (Nat.le_of_ble_eq_true rfl)) dX11_inside_58 ⟨Nat.zero_le _, Nat.zero_le _⟩) (fun x_57 hx_57 => ?_)
          refine lv_isub hx hb dX11_inside_61 ?_
          refine lv_topi (fun x_58 ex_58 => ?_)
          refine va_mmax hx hb (by rw [hml]; exact hl.1.symm) hown (hG _ mw_963) (hG _ mw_473) (hG _ mw_91) (hG _ mw_474) (Nat.le_of_ble_eq_true rfl) (Nat.le_of_ble_eq_true rfl) (Nat.le_of_ble_eq_true rfl) (Nat.le_of_ble_eq_true rfl) dX11_inside_62 ?_
          refine lv_topi (fun x_59 ex_59 => ?_)
          have rx_59 : rgI (0) (2147483647) x_59 := by rw [ex_59]; exact rg_w (show rgI (0) (2147483647) _ from rg_mx ry3_27 (rg_top x_58) (by decide) (by decide) (by decide) (by decide)) (by decide) (by decide)
          refine lv_istore_n (lv' := [(3, .int x_59), (0, .ref h0), (1, .int a0), (2, .int y2_27), (4, .int y4_27)]) hx hb dX11_inside_65 rfl hl (by decide) rfl (fun ls hl => ?_)
          exact L_66 H locs x_59 ls ry1_27 rx_59 r_27 (lv_sub hl [1, 2, 3, 0, 4] rfl) hH hS
  refine lv_aload_n hx hb dX11_inside_0 rfl (lv_at hl 0 rfl) ?_
  obtain ⟨_, ⟨q_75, rfl, kq_61, kq_62, kq_63, kq_64, kq_65, kq_66, kq_67, kq_68, kq_69, kq_70, kq_71, kq_72, kq_73, kq_74⟩, o_c_60⟩ := hH h0 _ k_h0
  refine hg_get hx hb hG igX11 hown hK o_c_60 rfl 0 (by decide) (hG _ mw_357) rfl dX11_inside_1 ?_
  refine lv_iload_n hx hb dX11_inside_4 rfl (lv_at hl 1 rfl) ?_
  obtain ⟨_, ⟨q_77, q_78, q_79, q_80, q_81, q_82, q_83, rfl, kq_77, kq_78, kq_79⟩, o_c_76⟩ := hH (g.2.2 0) _ kq_61
  refine vp_callSi (W.runV (As := [.int a0]) (rest := []) ⟨hx, hb, hml, hown, hts⟩ (c_X10_has l g Ty G (g.2.2 0) a0 kq_61) (cwV 1 hts (gwV mw_603 mw_604 mw_605 mw_77 mw_606) rfl rfl rfl hv_X10_has ⟨Nat.le_of_ble_eq_true rfl, Nat.le_of_ble_eq_true rfl⟩) ⟨PcH_blind, hg_recv hK o_c_76 rfl, PcH_pre hK hH⟩ rfl rfl hl.1 rfl (lv_room (Nat.le_of_ble_eq_true rfl)) dX11_inside_5 ⟨Nat.zero_le _, Nat.zero_le _⟩) (fun x_84 hx_84 => ?_)
  have rx_84 : rgI (0) (1) x_84 := hx_84.1
  refine lv_if_ne (tgt := 13) hx hb dX11_inside_8 (by decide) (fun c_85 => ?_) (fun c_85 => ?_)
  · have r_86 : rgI (1) (1) x_84 := rg_w (rg_neL rx_84 rl_0 c_85) (by decide) (by decide)
    have r_87 : rgI (0) (23) a0 := rg_w (hx_84.2.resolve_left c_85) (by decide) (by decide)
    refine lv_aload_n hx hb dX11_inside_13 rfl (lv_at hl 0 rfl) ?_
    refine hg_get hx hb hG igX11 hown hK o_c_60 rfl 0 (by decide) (hG _ mw_357) rfl dX11_inside_14 ?_
    refine lv_iload_n hx hb dX11_inside_17 rfl (lv_at hl 1 rfl) ?_
    refine vp_callSi (W.runV (As := [.int a0]) (rest := []) ⟨hx, hb, hml, hown, hts⟩ (c_X10_allIn l g Ty G (g.2.2 0) a0 kq_61) (cwV 1 hts (gwV mw_957 mw_958 mw_959 mw_77 mw_960) rfl rfl rfl hv_X10_allIn ⟨Nat.le_of_ble_eq_true rfl, Nat.le_of_ble_eq_true rfl⟩) ⟨PcH_blind, hg_recv hK o_c_76 rfl, PcH_pre hK hH⟩ rfl rfl hl.1 rfl (lv_room (Nat.le_of_ble_eq_true rfl)) dX11_inside_18 ⟨Nat.zero_le _, Nat.zero_le _⟩) (fun x_88 hx_88 => ?_)
    refine lv_istore_n (lv' := [(2, .int x_88), (0, .ref h0), (1, .int a0)]) hx hb dX11_inside_21 rfl hl (by decide) rfl (fun ls hl => ?_)
    refine lv_iconst (v := 0) hx hb dX11_inside_22 (by decide) ?_
    refine lv_istore_n (lv' := [(3, .int 0), (2, .int x_88), (0, .ref h0), (1, .int a0)]) hx hb dX11_inside_23 rfl hl (by decide) rfl (fun ls hl => ?_)
    refine lv_iconst (v := 0) hx hb dX11_inside_24 (by decide) ?_
    refine lv_istore (lv' := [(4, .int 0), (3, .int 0), (2, .int x_88), (0, .ref h0), (1, .int a0)]) hx hb dX11_inside_25 hl (by decide) rfl (fun ls hl => ?_)
    exact L_27 _ s.heap [] x_88 0 0 ls r_87 (rg_w rl_0 (by decide) (by decide)) (rg_w rl_0 (by decide) (by decide)) (Nat.lt_succ_self _) (lv_sub hl [3, 4, 2, 1, 0] rfl) hH hS
  · have r_89 : rgI (0) (0) x_84 := rg_w (rg_eq rl_0 c_85) (by decide) (by decide)
    refine lv_iconst (v := (-1)) hx hb dX11_inside_11 (by decide) ?_
    exact W.iret hx hb hr (fun t ht hWm => ⟨⟨(-1), (Ty, G), rfl, rfl, by show HT g Ty G t.heap; rw [ht]; exact hH⟩, hS.F ht⟩) hS.2.2 dX11_inside_12

set_option maxHeartbeats 4000000 in
set_option maxRecDepth 100000 in
theorem c_X11_path (l : Launch) (g : Gx) (Ty : TyM) (G : Gh) (sz : Nat) (h0 : Nat) (a0 : Int32) (k_h0 : Ty h0 = some (21, 0)) : Met l yX11_path (wsG yX11_path cX11_path 4 (some .int)) ({ frames := 1, cells := 0, slots := 0, locals := 23 }) (PcT g Ty G sz [.ref h0, .int a0]) (QwI g Ty sz (fun r u => u = (Ty, G))) 0 0 (AF Ty sz) := by
  refine Met.ofW (cc := cX11_path) (maxL := 4) (ret := (some .int)) (by decide) rfl ?_
  intro p e s m args below meth c s₁ B hml hv
  obtain ⟨rfl, hsz, hK, hH⟩ := hv
  subst hsz
  have hx := B.exec
  have hb := B.bytes
  have hr := B.returns
  have hts := atoms_spec (ws := (wsG yX11_path cX11_path 4 (some .int))) B.pre
  have hG : ∀ w ∈ GW, w.before ([.ref h0, .int a0] : List Value).toArray s = true := fun w h => hts w (List.mem_cons_of_mem _ h)
  have hown : s.vm.findClass RX11 = some m.cls := findClass_of_methodNamed B.named
  have hlocks := B.notSynchronized
  have hl := lv_entry [.ref h0, .int a0] (n := 4) (Nat.le_of_ble_eq_true rfl)
  rw [lg_entry_eq]
  generalize (lg_sl [.ref h0, .int a0] ++ List.replicate (4 - (lg_sl [.ref h0, .int a0]).length) Slot.unset).toArray = ls at hl ⊢
  have hl : lv_has ls 4 [(0, .ref h0), (1, .int a0)] := hl
  have hS : va_S (AF Ty s.heap.size) s.heap s.heap [] := va_S.rf
  have L_71 : ∀ (H : Heap) (locs : List Loc) (ls : Array Slot), lv_has ls 4 [(0, .ref h0)] → HT g Ty G H → va_S (AF Ty s.heap.size) s.heap H locs → Wm p l e (wsG yX11_path cX11_path 4 (some .int)) ({ frames := 1, cells := 0, slots := 0, locals := 23 }) s m [.ref h0, .int a0] below meth c H locs (0) (0) (QwI g Ty s.heap.size (fun r u => u = (Ty, G))) 0 0 (AF Ty s.heap.size) (F0 m 71 ls []) := by
    intro H locs ls hl hH hS
    refine lv_aload_n hx hb dX11_path_71 rfl (lv_at hl 0 rfl) ?_
    obtain ⟨_, ⟨q_16, rfl, kq_2, kq_3, kq_4, kq_5, kq_6, kq_7, kq_8, kq_9, kq_10, kq_11, kq_12, kq_13, kq_14, kq_15⟩, o_c_1⟩ := hH h0 _ k_h0
    refine hg_get hx hb hG igX11 hown hK o_c_1 rfl 5 (by decide) (hG _ mw_362) rfl dX11_path_72 ?_
    obtain ⟨_, ⟨q_18, q_19, rfl, kq_18, rq_19⟩, o_c_17⟩ := hH (g.2.2 5) _ kq_7
    refine va_callv (va_runV (As := []) (rest := []) ⟨hx, hb, hml, hown, hts⟩ (c_X7_turn l g Ty G H.size (g.2.2 5) kq_7) (cwV 0 hts (gwV mw_970 mw_971 mw_972 mw_80 mw_973) rfl rfl rfl hv_X7_turn ⟨Nat.le_of_ble_eq_true rfl, Nat.le_of_ble_eq_true rfl⟩) ⟨PcT_blind, hg_recv hK o_c_17 rfl, PcT_pre hK hH⟩ rfl rfl hl.1 rfl (lv_room (Nat.le_of_ble_eq_true rfl)) dX11_path_75 ⟨Nat.zero_le _, Nat.zero_le _⟩) hS (fun q _ h => AF.mono hS.1 h) (fun q h => AF.mono hS.1 h) (fun ux_20 t H locs ht hvm hx_20 hB hz hk hS => ?_)
    have hH : HT g Ty G H := by rw [← ht]; rw [hx_20] at hB; exact hB
    refine lv_aload_n hx hb dX11_path_78 rfl (lv_at hl 0 rfl) ?_
    obtain ⟨_, ⟨q_36, rfl, kq_22, kq_23, kq_24, kq_25, kq_26, kq_27, kq_28, kq_29, kq_30, kq_31, kq_32, kq_33, kq_34, kq_35⟩, o_c_21⟩ := hH h0 _ k_h0
    refine hg_get hx hb hG igX11 hown hK o_c_21 rfl 5 (by decide) (hG _ mw_362) rfl dX11_path_79 ?_
    obtain ⟨_, ⟨q_38, q_39, rfl, kq_38, rq_39⟩, o_c_37⟩ := hH (g.2.2 5) _ kq_27
    refine hg_getN hx hb hG igX7 hown hK o_c_37 rfl 1 (by decide) ((hK.2.1 _ nwf_189).use rfl) rfl dX11_path_82 ?_
    exact W.iret hx hb hr (fun t ht hWm => ⟨⟨q_39, (Ty, G), rfl, rfl, by show HT g Ty G t.heap; rw [ht]; exact hH⟩, hS.F ht⟩) hS.2.2 dX11_path_85
  have L_24 : ∀ (n : Nat) (H : Heap) (locs : List Loc) (y2_24 : Int32) (y3_24 : Int32) (ls : Array Slot), rgI (0) (24) y3_24 → (24 - (y3_24).toInt).toNat < n → lv_has ls 4 [(0, .ref h0), (2, .int y2_24), (3, .int y3_24)] → HT g Ty G H → va_S (AF Ty s.heap.size) s.heap H locs → Wm p l e (wsG yX11_path cX11_path 4 (some .int)) ({ frames := 1, cells := 0, slots := 0, locals := 23 }) s m [.ref h0, .int a0] below meth c H locs (0) (0) (QwI g Ty s.heap.size (fun r u => u = (Ty, G))) 0 0 (AF Ty s.heap.size) (F0 m 24 ls []) := by
    intro n
    induction n with
    | zero => intro H locs y2_24 y3_24 ls ry3_24 hm; exact absurd hm (Nat.not_lt_zero _)
    | succ n ih_24 =>
      intro H locs y2_24 y3_24 ls ry3_24 hm_24 hl hH hS
      refine lv_iload_n hx hb dX11_path_24 rfl (lv_at hl 2 rfl) ?_
      refine lv_bipush (v := 24) hx hb dX11_path_25 (by decide) ?_
      refine lv_icmp_ge (tgt := 71) hx hb dX11_path_27 (by decide) (fun c_40 => ?_) (fun c_40 => ?_)
      · have r_41 : rgI (24) (24) y3_24 := rg_w (rg_leR rl_24 ry3_24 c_40) (by decide) (by decide)
        exact L_71 H locs ls (lv_sub hl [0] rfl) hH hS
      · have r_42 : rgI (0) (23) y3_24 := rg_w (rg_ltL ry3_24 rl_24 (nle_lt c_40)) (by decide) (by decide)
        refine lv_iload_n hx hb dX11_path_30 rfl (lv_at hl 1 rfl) ?_
        refine lv_if_eq (tgt := 71) hx hb dX11_path_31 (by decide) (fun c_43 => ?_) (fun c_43 => ?_)
        · have r_44 : rgI (0) (0) y2_24 := rg_w (rg_eq rl_0 c_43) (by decide) (by decide)
          exact L_71 H locs ls (lv_sub hl [0] rfl) hH hS
        · refine lv_iload_n hx hb dX11_path_34 rfl (lv_at hl 1 rfl) ?_
          refine lv_bipush (v := 24) hx hb dX11_path_35 (by decide) ?_
          refine lv_icmp_eq (tgt := 71) hx hb dX11_path_37 (by decide) (fun c_45 => ?_) (fun c_45 => ?_)
          · have r_46 : rgI (24) (24) y2_24 := rg_w (rg_eq rl_24 c_45) (by decide) (by decide)
            exact L_71 H locs ls (lv_sub hl [0] rfl) hH hS
          · refine lv_aload_n hx hb dX11_path_40 rfl (lv_at hl 0 rfl) ?_
            obtain ⟨_, ⟨q_62, rfl, kq_48, kq_49, kq_50, kq_51, kq_52, kq_53, kq_54, kq_55, kq_56, kq_57, kq_58, kq_59, kq_60, kq_61⟩, o_c_47⟩ := hH h0 _ k_h0
            refine hg_get hx hb hG igX11 hown hK o_c_47 rfl 5 (by decide) (hG _ mw_362) rfl dX11_path_41 ?_
            refine lv_aload_n hx hb dX11_path_44 rfl (lv_at hl 0 rfl) ?_
            refine hg_get hx hb hG igX11 hown hK o_c_47 rfl 0 (by decide) (hG _ mw_357) rfl dX11_path_45 ?_
            refine lv_iload_n hx hb dX11_path_48 rfl (lv_at hl 1 rfl) ?_
            obtain ⟨_, ⟨q_64, q_65, q_66, q_67, q_68, q_69, q_70, rfl, kq_64, kq_65, kq_66⟩, o_c_63⟩ := hH (g.2.2 0) _ kq_48
            refine vp_callSi (W.runV (As := [.int y2_24]) (rest := [.ref (g.2.2 5)]) ⟨hx, hb, hml, hown, hts⟩ (c_X10_dirOf l g Ty G (g.2.2 0) y2_24 kq_48) (cwV 1 hts (gwV mw_968 mw_849 mw_850 mw_77 mw_851) rfl rfl rfl hv_X10_dirOf ⟨Nat.le_of_ble_eq_true rfl, Nat.le_of_ble_eq_true rfl⟩) ⟨PcH_blind, hg_recv hK o_c_63 rfl, PcH_pre hK hH⟩ rfl rfl hl.1 rfl (lv_room (Nat.le_of_ble_eq_true rfl)) dX11_path_49 ⟨Nat.zero_le _, Nat.zero_le _⟩) (fun x_71 hx_71 => ?_)
            refine lv_i2l hx hb dX11_path_52 rfl ?_
            refine lv_topl (fun u_72 eu_72 => ?_)
            obtain ⟨_, ⟨q_74, q_75, rfl, kq_74, rq_75⟩, o_c_73⟩ := hH (g.2.2 5) _ kq_53
            refine va_callv (va_runV (As := [.long u_72]) (rest := []) ⟨hx, hb, hml, hown, hts⟩ (c_X7_add l g Ty G H.size (g.2.2 5) u_72 kq_53) (cwV 1 hts (gwV mw_938 mw_592 mw_593 mw_80 mw_594) rfl rfl rfl hv_X7_add ⟨Nat.le_of_ble_eq_true rfl, Nat.le_of_ble_eq_true rfl⟩) ⟨PcT_blind, hg_recv hK o_c_73 rfl, PcT_pre hK hH⟩ rfl rfl hl.1 rfl (lv_room (Nat.le_of_ble_eq_true rfl)) dX11_path_53 ⟨Nat.zero_le _, Nat.zero_le _⟩) hS (fun q _ h => AF.mono hS.1 h) (fun q h => AF.mono hS.1 h) (fun ux_76 t H locs ht hvm hx_76 hB hz hk hS => ?_)
            have hH : HT g Ty G H := by rw [← ht]; rw [hx_76] at hB; exact hB
            refine lv_aload_n hx hb dX11_path_56 rfl (lv_at hl 0 rfl) ?_
            obtain ⟨_, ⟨q_92, rfl, kq_78, kq_79, kq_80, kq_81, kq_82, kq_83, kq_84, kq_85, kq_86, kq_87, kq_88, kq_89, kq_90, kq_91⟩, o_c_77⟩ := hH h0 _ k_h0
            refine hg_get hx hb hG igX11 hown hK o_c_77 rfl 0 (by decide) (hG _ mw_357) rfl dX11_path_57 ?_
            refine lv_iload_n hx hb dX11_path_60 rfl (lv_at hl 1 rfl) ?_
            obtain ⟨_, ⟨q_94, q_95, q_96, q_97, q_98, q_99, q_100, rfl, kq_94, kq_95, kq_96⟩, o_c_93⟩ := hH (g.2.2 0) _ kq_78
            refine vp_callSi (W.runV (As := [.int y2_24]) (rest := []) ⟨hx, hb, hml, hown, hts⟩ (c_X10_parentOf l g Ty G (g.2.2 0) y2_24 kq_78) (cwV 1 hts (gwV mw_969 mw_683 mw_684 mw_77 mw_685) rfl rfl rfl hv_X10_parentOf ⟨Nat.le_of_ble_eq_true rfl, Nat.le_of_ble_eq_true rfl⟩) ⟨PcH_blind, hg_recv hK o_c_93 rfl, PcH_pre hK hH⟩ rfl rfl hl.1 rfl (lv_room (Nat.le_of_ble_eq_true rfl)) dX11_path_61 ⟨Nat.zero_le _, Nat.zero_le _⟩) (fun x_101 hx_101 => ?_)
            refine lv_istore_n (lv' := [(2, .int x_101), (0, .ref h0), (3, .int y3_24)]) hx hb dX11_path_64 rfl hl (by decide) rfl (fun ls hl => ?_)
            obtain ⟨x_102, ex_102⟩ : ∃ y : Int32, y = y3_24 + 1 := ⟨_, rfl⟩
            have rx_102 : rgI (1) (24) x_102 := by rw [ex_102]; exact rg_w (rg_add r_42 rl_1 (by decide) (by decide)) (by decide) (by decide)
            have qx_102 : x_102.toInt = (y3_24 : Int32).toInt + 1 := by rw [ex_102]; exact rg_addE r_42 rl_1 (by decide) (by decide)
            refine lv_iinc (v := x_102) (lv' := [(3, .int x_102), (2, .int x_101), (0, .ref h0)]) hx hb dX11_path_65 hl (k := 2) rfl (by rw [ex_102]; rfl) (by decide) rfl (fun ls hl => ?_)
            refine lv_goto (tgt := 24) hx hb dX11_path_68 (by decide) ?_
            exact ih_24 H locs x_101 x_102 ls (rg_w rx_102 (by decide) (by decide)) (by have h1 := qx_102; have h2 := r_42.1; have h3 := r_42.2; have h4 := hm_24; omega) (lv_sub hl [2, 1, 0] rfl) hH hS
  refine lv_aload_n hx hb dX11_path_0 rfl (lv_at hl 0 rfl) ?_
  obtain ⟨_, ⟨q_118, rfl, kq_104, kq_105, kq_106, kq_107, kq_108, kq_109, kq_110, kq_111, kq_112, kq_113, kq_114, kq_115, kq_116, kq_117⟩, o_c_103⟩ := hH h0 _ k_h0
  refine hg_get hx hb hG igX11 hown hK o_c_103 rfl 0 (by decide) (hG _ mw_357) rfl dX11_path_1 ?_
  refine lv_iload_n hx hb dX11_path_4 rfl (lv_at hl 1 rfl) ?_
  obtain ⟨_, ⟨q_120, q_121, q_122, q_123, q_124, q_125, q_126, rfl, kq_120, kq_121, kq_122⟩, o_c_119⟩ := hH (g.2.2 0) _ kq_104
  refine vp_callSi (W.runV (As := [.int a0]) (rest := []) ⟨hx, hb, hml, hown, hts⟩ (c_X10_has l g Ty G (g.2.2 0) a0 kq_104) (cwV 1 hts (gwV mw_603 mw_604 mw_605 mw_77 mw_606) rfl rfl rfl hv_X10_has ⟨Nat.le_of_ble_eq_true rfl, Nat.le_of_ble_eq_true rfl⟩) ⟨PcH_blind, hg_recv hK o_c_119 rfl, PcH_pre hK hH⟩ rfl rfl hl.1 rfl (lv_room (Nat.le_of_ble_eq_true rfl)) dX11_path_5 ⟨Nat.zero_le _, Nat.zero_le _⟩) (fun x_127 hx_127 => ?_)
  have rx_127 : rgI (0) (1) x_127 := hx_127.1
  refine lv_if_ne (tgt := 13) hx hb dX11_path_8 (by decide) (fun c_128 => ?_) (fun c_128 => ?_)
  · have r_129 : rgI (1) (1) x_127 := rg_w (rg_neL rx_127 rl_0 c_128) (by decide) (by decide)
    have r_130 : rgI (0) (23) a0 := rg_w (hx_127.2.resolve_left c_128) (by decide) (by decide)
    refine lv_aload_n hx hb dX11_path_13 rfl (lv_at hl 0 rfl) ?_
    refine hg_get hx hb hG igX11 hown hK o_c_103 rfl 5 (by decide) (hG _ mw_362) rfl dX11_path_14 ?_
    obtain ⟨_, ⟨q_132, q_133, rfl, kq_132, rq_133⟩, o_c_131⟩ := hH (g.2.2 5) _ kq_109
    refine va_callv (va_runV (As := []) (rest := []) ⟨hx, hb, hml, hown, hts⟩ (c_X7_clear l g Ty G s.heap.size (g.2.2 5) kq_109) (cwV 0 hts (gwV mw_932 mw_588 mw_589 mw_80 mw_590) rfl rfl rfl hv_X7_clear ⟨Nat.le_of_ble_eq_true rfl, Nat.le_of_ble_eq_true rfl⟩) ⟨PcT_blind, hg_recv hK o_c_131 rfl, PcT_pre hK hH⟩ rfl rfl hl.1 rfl (lv_room (Nat.le_of_ble_eq_true rfl)) dX11_path_17 ⟨Nat.zero_le _, Nat.zero_le _⟩) hS (fun q _ h => AF.mono hS.1 h) (fun q h => AF.mono hS.1 h) (fun ux_134 t H locs ht hvm hx_134 hB hz hk hS => ?_)
    have hH : HT g Ty G H := by rw [← ht]; rw [hx_134] at hB; exact hB
    refine lv_iload_n hx hb dX11_path_20 rfl (lv_at hl 1 rfl) ?_
    refine lv_istore_n (lv' := [(2, .int a0), (0, .ref h0), (1, .int a0)]) hx hb dX11_path_21 rfl hl (by decide) rfl (fun ls hl => ?_)
    refine lv_iconst (v := 0) hx hb dX11_path_22 (by decide) ?_
    refine lv_istore_n (lv' := [(3, .int 0), (2, .int a0), (0, .ref h0), (1, .int a0)]) hx hb dX11_path_23 rfl hl (by decide) rfl (fun ls hl => ?_)
    exact L_24 _ H locs a0 0 ls (rg_w rl_0 (by decide) (by decide)) (Nat.lt_succ_self _) (lv_sub hl [2, 1, 0] rfl) hH hS
  · have r_135 : rgI (0) (0) x_127 := rg_w (rg_eq rl_0 c_128) (by decide) (by decide)
    refine lv_iconst (v := (-1)) hx hb dX11_path_11 (by decide) ?_
    exact W.iret hx hb hr (fun t ht hWm => ⟨⟨(-1), (Ty, G), rfl, rfl, by show HT g Ty G t.heap; rw [ht]; exact hH⟩, hS.F ht⟩) hS.2.2 dX11_path_12

set_option maxHeartbeats 4000000 in
set_option maxRecDepth 100000 in
theorem c_X11_largest (l : Launch) (g : Gx) (Ty : TyM) (G : Gh) (sz : Nat) (h0 : Nat) (k_h0 : Ty h0 = some (21, 0)) : Met l yX11_largest (wsG yX11_largest cX11_largest 5 (some .int)) ({ frames := 3, cells := 0, slots := 0, locals := 68 }) (PcT g Ty G sz [.ref h0]) (QwI g Ty sz (fun r u => u = (Ty, G))) 0 0 (AF Ty sz) := by
  refine Met.ofW (cc := cX11_largest) (maxL := 5) (ret := (some .int)) (by decide) rfl ?_
  intro p e s m args below meth c s₁ B hml hv
  obtain ⟨rfl, hsz, hK, hH⟩ := hv
  subst hsz
  have hx := B.exec
  have hb := B.bytes
  have hr := B.returns
  have hts := atoms_spec (ws := (wsG yX11_largest cX11_largest 5 (some .int))) B.pre
  have hG : ∀ w ∈ GW, w.before ([.ref h0] : List Value).toArray s = true := fun w h => hts w (List.mem_cons_of_mem _ h)
  have hown : s.vm.findClass RX11 = some m.cls := findClass_of_methodNamed B.named
  have hlocks := B.notSynchronized
  have hl := lv_entry [.ref h0] (n := 5) (Nat.le_of_ble_eq_true rfl)
  rw [lg_entry_eq]
  generalize (lg_sl [.ref h0] ++ List.replicate (5 - (lg_sl [.ref h0]).length) Slot.unset).toArray = ls at hl ⊢
  have hl : lv_has ls 5 [(0, .ref h0)] := hl
  have hS : va_S (AF Ty s.heap.size) s.heap s.heap [] := va_S.rf
  have L_69 : ∀ (H : Heap) (locs : List Loc) (y1_69 : Int32) (ls : Array Slot), rgI (-2) (23) y1_69 → lv_has ls 5 [(1, .int y1_69)] → HT g Ty G H → va_S (AF Ty s.heap.size) s.heap H locs → Wm p l e (wsG yX11_largest cX11_largest 5 (some .int)) ({ frames := 3, cells := 0, slots := 0, locals := 68 }) s m [.ref h0] below meth c H locs (0) (0) (QwI g Ty s.heap.size (fun r u => u = (Ty, G))) 0 0 (AF Ty s.heap.size) (F0 m 69 ls []) := by
    intro H locs y1_69 ls ry1_69 hl hH hS
    refine lv_iload_n hx hb dX11_largest_69 rfl (lv_at hl 0 rfl) ?_
    exact W.iret hx hb hr (fun t ht hWm => ⟨⟨y1_69, (Ty, G), rfl, rfl, by show HT g Ty G t.heap; rw [ht]; exact hH⟩, hS.F ht⟩) hS.2.2 dX11_largest_70
  have L_7 : ∀ (n : Nat) (H : Heap) (locs : List Loc) (y1_7 : Int32) (y2_7 : Int32) (y3_7 : Int32) (ls : Array Slot), rgI (-2) (23) y1_7 → rgI (0) (2147483647) y2_7 → rgI (1) (24) y3_7 → (24 - (y3_7).toInt).toNat < n → lv_has ls 5 [(0, .ref h0), (1, .int y1_7), (2, .int y2_7), (3, .int y3_7)] → HT g Ty G H → va_S (AF Ty s.heap.size) s.heap H locs → Wm p l e (wsG yX11_largest cX11_largest 5 (some .int)) ({ frames := 3, cells := 0, slots := 0, locals := 68 }) s m [.ref h0] below meth c H locs (0) (0) (QwI g Ty s.heap.size (fun r u => u = (Ty, G))) 0 0 (AF Ty s.heap.size) (F0 m 7 ls []) := by
    intro n
    induction n with
    | zero => intro H locs y1_7 y2_7 y3_7 ls ry1_7 ry2_7 ry3_7 hm; exact absurd hm (Nat.not_lt_zero _)
    | succ n ih_7 =>
      intro H locs y1_7 y2_7 y3_7 ls ry1_7 ry2_7 ry3_7 hm_7 hl hH hS
      have L_50 : ∀ (H : Heap) (locs : List Loc) (y1_50 : Int32) (y2_50 : Int32) (ls : Array Slot), rgI (-2) (23) y1_50 → rgI (0) (2147483647) y2_50 → rgI (1) (23) y3_7 → lv_has ls 5 [(0, .ref h0), (1, .int y1_50), (2, .int y2_50), (3, .int y3_7)] → HT g Ty G H → va_S (AF Ty s.heap.size) s.heap H locs → Wm p l e (wsG yX11_largest cX11_largest 5 (some .int)) ({ frames := 3, cells := 0, slots := 0, locals := 68 }) s m [.ref h0] below meth c H locs (0) (0) (QwI g Ty s.heap.size (fun r u => u = (Ty, G))) 0 0 (AF Ty s.heap.size) (F0 m 50 ls []) := by
        intro H locs y1_50 y2_50 ls ry1_50 ry2_50 ry3_50 hl hH hS
        obtain ⟨x_1, ex_1⟩ : ∃ y : Int32, y = y3_7 + 1 := ⟨_, rfl⟩
        have rx_1 : rgI (2) (24) x_1 := by rw [ex_1]; exact rg_w (rg_add ry3_50 rl_1 (by decide) (by decide)) (by decide) (by decide)
        have qx_1 : x_1.toInt = (y3_7 : Int32).toInt + 1 := by rw [ex_1]; exact rg_addE ry3_50 rl_1 (by decide) (by decide)
        refine lv_iinc (v := x_1) (lv' := [(3, .int x_1), (0, .ref h0), (1, .int y1_50), (2, .int y2_50)]) hx hb dX11_largest_50 hl (k := 3) rfl (by rw [ex_1]; rfl) (by decide) rfl (fun ls hl => ?_)
        refine lv_goto (tgt := 7) hx hb dX11_largest_53 (by decide) ?_
        exact ih_7 H locs y1_50 y2_50 x_1 ls ry1_50 ry2_50 (rg_w rx_1 (by decide) (by decide)) (by have h1 := qx_1; have h2 := ry3_50.1; have h3 := ry3_50.2; have h4 := hm_7; omega) (lv_sub hl [1, 2, 3, 0] rfl) hH hS
      refine lv_iload_n hx hb dX11_largest_7 rfl (lv_at hl 3 rfl) ?_
      refine lv_bipush (v := 24) hx hb dX11_largest_8 (by decide) ?_
      refine lv_icmp_ge (tgt := 56) hx hb dX11_largest_10 (by decide) (fun c_2 => ?_) (fun c_2 => ?_)
      · have r_3 : rgI (24) (24) y3_7 := rg_w (rg_leR rl_24 ry3_7 c_2) (by decide) (by decide)
        refine lv_iload_n hx hb dX11_largest_56 rfl (lv_at hl 2 rfl) ?_
        refine lv_if_le (tgt := 69) hx hb dX11_largest_57 (by decide) (fun c_4 => ?_) (fun c_4 => ?_)
        · have r_5 : rgI (0) (0) y2_7 := rg_w (rg_leL ry2_7 rl_0 c_4) (by decide) (by decide)
          exact L_69 H locs y1_7 ls ry1_7 (lv_sub hl [1] rfl) hH hS
        · have r_6 : rgI (1) (2147483647) y2_7 := rg_w (rg_ltR rl_0 ry2_7 (nle_lt c_4)) (by decide) (by decide)
          refine lv_aload_n hx hb dX11_largest_60 rfl (lv_at hl 0 rfl) ?_
          obtain ⟨_, ⟨q_22, rfl, kq_8, kq_9, kq_10, kq_11, kq_12, kq_13, kq_14, kq_15, kq_16, kq_17, kq_18, kq_19, kq_20, kq_21⟩, o_c_7⟩ := hH h0 _ k_h0
          refine hg_get hx hb hG igX11 hown hK o_c_7 rfl 5 (by decide) (hG _ mw_362) rfl dX11_largest_61 ?_
          refine lv_iload_n hx hb dX11_largest_64 rfl (lv_at hl 2 rfl) ?_
          refine lv_i2l hx hb dX11_largest_65 rfl ?_
          refine lv_topl (fun u_23 eu_23 => ?_)
          obtain ⟨_, ⟨q_25, q_26, rfl, kq_25, rq_26⟩, o_c_24⟩ := hH (g.2.2 5) _ kq_13
          refine va_callv (va_runV (As := [.long u_23]) (rest := []) ⟨hx, hb, hml, hown, hts⟩ (c_X7_tell l g Ty G H.size (g.2.2 5) u_23 kq_13) (cwV 1 hts (gwV mw_583 mw_584 mw_585 mw_80 mw_586) rfl rfl rfl hv_X7_tell ⟨Nat.le_of_ble_eq_true rfl, Nat.le_of_ble_eq_true rfl⟩) ⟨PcT_blind, hg_recv hK o_c_24 rfl, PcT_pre hK hH⟩ rfl rfl hl.1 rfl (lv_room (Nat.le_of_ble_eq_true rfl)) dX11_largest_66 ⟨Nat.zero_le _, Nat.zero_le _⟩) hS (fun q _ h => AF.mono hS.1 h) (fun q h => AF.mono hS.1 h) (fun ux_27 t H locs ht hvm hx_27 hB hz hk hS => ?_)
          have hH : HT g Ty G H := by rw [← ht]; rw [hx_27] at hB; exact hB
          exact L_69 H locs y1_7 ls ry1_7 (lv_sub hl [1] rfl) hH hS
      · have r_28 : rgI (1) (23) y3_7 := rg_w (rg_ltL ry3_7 rl_24 (nle_lt c_2)) (by decide) (by decide)
        refine lv_aload_n hx hb dX11_largest_13 rfl (lv_at hl 0 rfl) ?_
        obtain ⟨_, ⟨q_44, rfl, kq_30, kq_31, kq_32, kq_33, kq_34, kq_35, kq_36, kq_37, kq_38, kq_39, kq_40, kq_41, kq_42, kq_43⟩, o_c_29⟩ := hH h0 _ k_h0
        refine hg_get hx hb hG igX11 hown hK o_c_29 rfl 0 (by decide) (hG _ mw_357) rfl dX11_largest_14 ?_
        refine lv_iload_n hx hb dX11_largest_17 rfl (lv_at hl 3 rfl) ?_
        obtain ⟨_, ⟨q_46, q_47, q_48, q_49, q_50, q_51, q_52, rfl, kq_46, kq_47, kq_48⟩, o_c_45⟩ := hH (g.2.2 0) _ kq_30
        refine vp_callSi (W.runV (As := [.int y3_7]) (rest := []) ⟨hx, hb, hml, hown, hts⟩ (c_X10_has l g Ty G (g.2.2 0) y3_7 kq_30) (cwV 1 hts (gwV mw_603 mw_604 mw_605 mw_77 mw_606) rfl rfl rfl hv_X10_has ⟨Nat.le_of_ble_eq_true rfl, Nat.le_of_ble_eq_true rfl⟩) ⟨PcH_blind, hg_recv hK o_c_45 rfl, PcH_pre hK hH⟩ rfl rfl hl.1 rfl (lv_room (Nat.le_of_ble_eq_true rfl)) dX11_largest_18 ⟨Nat.zero_le _, Nat.zero_le _⟩) (fun x_53 hx_53 => ?_)
        have rx_53 : rgI (0) (1) x_53 := hx_53.1
        refine lv_if_eq (tgt := 50) hx hb dX11_largest_21 (by decide) (fun c_54 => ?_) (fun c_54 => ?_)
        · have r_55 : rgI (0) (0) x_53 := rg_w (rg_eq rl_0 c_54) (by decide) (by decide)
          exact L_50 H locs y1_7 y2_7 ls ry1_7 ry2_7 r_28 (lv_sub hl [0, 1, 2, 3] rfl) hH hS
        · have r_56 : rgI (1) (1) x_53 := rg_w (rg_neL rx_53 rl_0 c_54) (by decide) (by decide)
          refine lv_aload_n hx hb dX11_largest_24 rfl (lv_at hl 0 rfl) ?_
          refine hg_get hx hb hG igX11 hown hK o_c_29 rfl 0 (by decide) (hG _ mw_357) rfl dX11_largest_25 ?_
          refine lv_iload_n hx hb dX11_largest_28 rfl (lv_at hl 3 rfl) ?_
          refine vp_callSi (W.runV (As := [.int y3_7]) (rest := []) ⟨hx, hb, hml, hown, hts⟩ (c_X10_allIn l g Ty G (g.2.2 0) y3_7 kq_30) (cwV 1 hts (gwV mw_957 mw_958 mw_959 mw_77 mw_960) rfl rfl rfl hv_X10_allIn ⟨Nat.le_of_ble_eq_true rfl, Nat.le_of_ble_eq_true rfl⟩) ⟨PcH_blind, hg_recv hK o_c_45 rfl, PcH_pre hK hH⟩ rfl rfl hl.1 rfl (lv_room (Nat.le_of_ble_eq_true rfl)) dX11_largest_29 ⟨Nat.zero_le _, Nat.zero_le _⟩) (fun x_57 hx_57 => ?_)
          refine vp_callSi (W.runS (As := [.int x_57]) (rest := []) ⟨hx, hb, hml, hown, hts⟩ (c_J6_bitCount_0f7a4 l g Ty G x_57 ) (cwSx 1 hts hG (gwC mw_620) mw_99 mw_618 mw_619 rfl rfl rfl hd_J6_bitCount_0f7a4 ⟨Nat.le_of_ble_eq_true rfl, Nat.le_of_ble_eq_true rfl⟩) ⟨PcH_blind, PcH_pre hK hH⟩ rfl rfl hl.1 rfl (lv_room (Nat.le_of_ble_eq_true rfl)) dX11_largest_32 ⟨Nat.zero_le _, Nat.zero_le _⟩) (fun x_58 hx_58 => ?_)
          refine lv_iconst (v := 1) hx hb dX11_largest_35 (by decide) ?_
          refine lv_iadd hx hb dX11_largest_36 ?_
          refine lv_topi (fun x_59 ex_59 => ?_)
          refine lv_istore (lv' := [(4, .int x_59), (0, .ref h0), (1, .int y1_7), (2, .int y2_7), (3, .int y3_7)]) hx hb dX11_largest_37 hl (by decide) rfl (fun ls hl => ?_)
          refine lv_iload hx hb dX11_largest_39 (lv_at hl 0 rfl) ?_
          refine lv_iload_n hx hb dX11_largest_41 rfl (lv_at hl 3 rfl) ?_
          refine lv_icmp_le (tgt := 50) hx hb dX11_largest_42 (by decide) (fun c_60 => ?_) (fun c_60 => ?_)
          · exact L_50 H locs y1_7 y2_7 ls ry1_7 ry2_7 r_28 (lv_sub hl [1, 2, 3, 4] rfl) hH hS
          · have r_61 : rgI (0) (2147483646) y2_7 := rg_w (rg_ltL ry2_7 (rg_top x_59) (nle_lt c_60)) (by decide) (by decide)
            have r_62 : rgI (1) (2147483647) x_59 := rg_w (rg_ltR ry2_7 (rg_top x_59) (nle_lt c_60)) (by decide) (by decide)
            refine lv_iload hx hb dX11_largest_45 (lv_at hl 0 rfl) ?_
            refine lv_istore_n (lv' := [(2, .int x_59), (4, .int x_59), (0, .ref h0), (1, .int y1_7), (3, .int y3_7)]) hx hb dX11_largest_47 rfl hl (by decide) rfl (fun ls hl => ?_)
            refine lv_iload_n hx hb dX11_largest_48 rfl (lv_at hl 4 rfl) ?_
            refine lv_istore_n (lv' := [(1, .int y3_7), (2, .int x_59), (4, .int x_59), (0, .ref h0), (3, .int y3_7)]) hx hb dX11_largest_49 rfl hl (by decide) rfl (fun ls hl => ?_)
            exact L_50 H locs y3_7 x_59 ls (rg_w r_28 (by decide) (by decide)) (rg_w r_62 (by decide) (by decide)) r_28 (lv_sub hl [3, 0, 1, 4] rfl) hH hS
  refine lv_bipush (v := (-2)) hx hb dX11_largest_0 (by decide) ?_
  refine lv_istore_n (lv' := [(1, .int (-2)), (0, .ref h0)]) hx hb dX11_largest_2 rfl hl (by decide) rfl (fun ls hl => ?_)
  refine lv_iconst (v := 0) hx hb dX11_largest_3 (by decide) ?_
  refine lv_istore_n (lv' := [(2, .int 0), (1, .int (-2)), (0, .ref h0)]) hx hb dX11_largest_4 rfl hl (by decide) rfl (fun ls hl => ?_)
  refine lv_iconst (v := 1) hx hb dX11_largest_5 (by decide) ?_
  refine lv_istore_n (lv' := [(3, .int 1), (2, .int 0), (1, .int (-2)), (0, .ref h0)]) hx hb dX11_largest_6 rfl hl (by decide) rfl (fun ls hl => ?_)
  exact L_7 _ s.heap [] (-2) 0 1 ls (rg_w rl_m2 (by decide) (by decide)) (rg_w rl_0 (by decide) (by decide)) (rg_w rl_1 (by decide) (by decide)) (Nat.lt_succ_self _) (lv_sub hl [3, 2, 1, 0] rfl) hH hS

set_option maxHeartbeats 4000000 in
set_option maxRecDepth 100000 in
theorem c_X11_would (l : Launch) (g : Gx) (Ty : TyM) (G : Gh) (sz : Nat) (h0 : Nat) (a0 : Int32) (a1 : Int32) (k_h0 : Ty h0 = some (21, 0)) : Met l yX11_would (wsG yX11_would cX11_would 5 (some .int)) ({ frames := 5, cells := 0, slots := 0, locals := 117 }) (PcT g Ty G sz [.ref h0, .int a0, .int a1]) (QwI g Ty sz (fun r u => u = (Ty, G))) 0 0 (AF Ty sz) := by
  refine Met.ofW (cc := cX11_would) (maxL := 5) (ret := (some .int)) (by decide) rfl ?_
  intro p e s m args below meth c s₁ B hml hv
  obtain ⟨rfl, hsz, hK, hH⟩ := hv
  subst hsz
  have hx := B.exec
  have hb := B.bytes
  have hr := B.returns
  have hts := atoms_spec (ws := (wsG yX11_would cX11_would 5 (some .int))) B.pre
  have hG : ∀ w ∈ GW, w.before ([.ref h0, .int a0, .int a1] : List Value).toArray s = true := fun w h => hts w (List.mem_cons_of_mem _ h)
  have hown : s.vm.findClass RX11 = some m.cls := findClass_of_methodNamed B.named
  have hlocks := B.notSynchronized
  have hl := lv_entry [.ref h0, .int a0, .int a1] (n := 5) (Nat.le_of_ble_eq_true rfl)
  rw [lg_entry_eq]
  generalize (lg_sl [.ref h0, .int a0, .int a1] ++ List.replicate (5 - (lg_sl [.ref h0, .int a0, .int a1]).length) Slot.unset).toArray = ls at hl ⊢
  have hl : lv_has ls 5 [(0, .ref h0), (1, .int a0), (2, .int a1)] := hl
  have hS : va_S (AF Ty s.heap.size) s.heap s.heap [] := va_S.rf
  have L_32 : ∀ (n : Nat) (H : Heap) (locs : List Loc) (y3_32 : Int32) (y4_32 : Int32) (ls : Array Slot), rgI (0) (2147483647) y3_32 → rgI (0) (24) y4_32 → (24 - (y4_32).toInt).toNat < n → lv_has ls 5 [(0, .ref h0), (1, .int a0), (3, .int y3_32), (4, .int y4_32)] → HT g Ty G H → va_S (AF Ty s.heap.size) s.heap H locs → Wm p l e (wsG yX11_would cX11_would 5 (some .int)) ({ frames := 5, cells := 0, slots := 0, locals := 117 }) s m [.ref h0, .int a0, .int a1] below meth c H locs (0) (0) (QwI g Ty s.heap.size (fun r u => u = (Ty, G))) 0 0 (AF Ty s.heap.size) (F0 m 32 ls []) := by
    intro n
    induction n with
    | zero => intro H locs y3_32 y4_32 ls ry3_32 ry4_32 hm; exact absurd hm (Nat.not_lt_zero _)
    | succ n ih_32 =>
      intro H locs y3_32 y4_32 ls ry3_32 ry4_32 hm_32 hl hH hS
      have L_76 : ∀ (H : Heap) (locs : List Loc) (ls : Array Slot), rgI (0) (2147483647) y3_32 → rgI (0) (23) y4_32 → lv_has ls 5 [(0, .ref h0), (1, .int a0), (3, .int y3_32), (4, .int y4_32)] → HT g Ty G H → va_S (AF Ty s.heap.size) s.heap H locs → Wm p l e (wsG yX11_would cX11_would 5 (some .int)) ({ frames := 5, cells := 0, slots := 0, locals := 117 }) s m [.ref h0, .int a0, .int a1] below meth c H locs (0) (0) (QwI g Ty s.heap.size (fun r u => u = (Ty, G))) 0 0 (AF Ty s.heap.size) (F0 m 76 ls []) := by
        intro H locs ls ry3_76 ry4_76 hl hH hS
        obtain ⟨x_1, ex_1⟩ : ∃ y : Int32, y = y4_32 + 1 := ⟨_, rfl⟩
        have rx_1 : rgI (1) (24) x_1 := by rw [ex_1]; exact rg_w (rg_add ry4_76 rl_1 (by decide) (by decide)) (by decide) (by decide)
        have qx_1 : x_1.toInt = (y4_32 : Int32).toInt + 1 := by rw [ex_1]; exact rg_addE ry4_76 rl_1 (by decide) (by decide)
        refine lv_iinc (v := x_1) (lv' := [(4, .int x_1), (0, .ref h0), (1, .int a0), (3, .int y3_32)]) hx hb dX11_would_76 hl (k := 3) rfl (by rw [ex_1]; rfl) (by decide) rfl (fun ls hl => ?_)
        refine lv_goto (tgt := 32) hx hb dX11_would_79 (by decide) ?_
        exact ih_32 H locs y3_32 x_1 ls ry3_76 (rg_w rx_1 (by decide) (by decide)) (by have h1 := qx_1; have h2 := ry4_76.1; have h3 := ry4_76.2; have h4 := hm_32; omega) (lv_sub hl [1, 2, 3, 0] rfl) hH hS
      refine lv_iload hx hb dX11_would_32 (lv_at hl 3 rfl) ?_
      refine lv_bipush (v := 24) hx hb dX11_would_34 (by decide) ?_
      refine lv_icmp_ge (tgt := 82) hx hb dX11_would_36 (by decide) (fun c_2 => ?_) (fun c_2 => ?_)
      · have r_3 : rgI (24) (24) y4_32 := rg_w (rg_leR rl_24 ry4_32 c_2) (by decide) (by decide)
        refine lv_iload_n hx hb dX11_would_82 rfl (lv_at hl 2 rfl) ?_
        refine vp_callSi (W.runS (As := [.int y3_32]) (rest := []) ⟨hx, hb, hml, hown, hts⟩ (c_J6_bitCount_0f7a4 l g Ty G y3_32 ) (cwSx 1 hts hG (gwC mw_620) mw_99 mw_618 mw_619 rfl rfl rfl hd_J6_bitCount_0f7a4 ⟨Nat.le_of_ble_eq_true rfl, Nat.le_of_ble_eq_true rfl⟩) ⟨PcH_blind, PcH_pre hK hH⟩ rfl rfl hl.1 rfl (lv_room (Nat.le_of_ble_eq_true rfl)) dX11_would_83 ⟨Nat.zero_le _, Nat.zero_le _⟩) (fun x_4 hx_4 => ?_)
        exact W.iret hx hb hr (fun t ht hWm => ⟨⟨x_4, (Ty, G), rfl, rfl, by show HT g Ty G t.heap; rw [ht]; exact hH⟩, hS.F ht⟩) hS.2.2 dX11_would_86
      · have r_5 : rgI (0) (23) y4_32 := rg_w (rg_ltL ry4_32 rl_24 (nle_lt c_2)) (by decide) (by decide)
        refine lv_iload hx hb dX11_would_39 (lv_at hl 3 rfl) ?_
        refine lv_iload_n hx hb dX11_would_41 rfl (lv_at hl 1 rfl) ?_
        refine lv_icmp_eq (tgt := 76) hx hb dX11_would_42 (by decide) (fun c_6 => ?_) (fun c_6 => ?_)
        · exact L_76 H locs ls ry3_32 r_5 (lv_sub hl [0, 1, 2, 3] rfl) hH hS
        · refine lv_iload_n hx hb dX11_would_45 rfl (lv_at hl 2 rfl) ?_
          refine lv_iconst (v := 1) hx hb dX11_would_46 (by decide) ?_
          refine lv_iload hx hb dX11_would_47 (lv_at hl 3 rfl) ?_
          refine lv_ishl hx hb dX11_would_49 ?_
          refine lv_topi (fun x_7 ex_7 => ?_)
          refine lv_iand hx hb dX11_would_50 ?_
          refine lv_topi (fun x_8 ex_8 => ?_)
          refine lv_if_eq (tgt := 76) hx hb dX11_would_51 (by decide) (fun c_9 => ?_) (fun c_9 => ?_)
          · have r_10 : rgI (0) (0) x_8 := rg_w (rg_eq rl_0 c_9) (by decide) (by decide)
            exact L_76 H locs ls ry3_32 r_5 (lv_sub hl [0, 1, 2, 3] rfl) hH hS
          · refine lv_aload_n hx hb dX11_would_54 rfl (lv_at hl 0 rfl) ?_
            obtain ⟨_, ⟨q_26, rfl, kq_12, kq_13, kq_14, kq_15, kq_16, kq_17, kq_18, kq_19, kq_20, kq_21, kq_22, kq_23, kq_24, kq_25⟩, o_c_11⟩ := hH h0 _ k_h0
            refine hg_get hx hb hG igX11 hown hK o_c_11 rfl 5 (by decide) (hG _ mw_362) rfl dX11_would_55 ?_
            obtain ⟨_, ⟨q_28, q_29, rfl, kq_28, rq_29⟩, o_c_27⟩ := hH (g.2.2 5) _ kq_17
            refine hg_getN hx hb hG igX7 hown hK o_c_27 rfl 1 (by decide) ((hK.2.1 _ nwf_189).use rfl) rfl dX11_would_58 ?_
            refine lv_bipush (v := 14) hx hb dX11_would_61 (by decide) ?_
            refine lv_icmp_ge (tgt := 76) hx hb dX11_would_63 (by decide) (fun c_30 => ?_) (fun c_30 => ?_)
            · have r_31 : rgI (14) (24) q_29 := rg_w (rg_leR rl_14 rq_29 c_30) (by decide) (by decide)
              exact L_76 H locs ls ry3_32 r_5 (lv_sub hl [0, 1, 2, 3] rfl) hH hS
            · have r_32 : rgI (0) (13) q_29 := rg_w (rg_ltL rq_29 rl_14 (nle_lt c_30)) (by decide) (by decide)
              refine lv_aload_n hx hb dX11_would_66 rfl (lv_at hl 0 rfl) ?_
              refine hg_get hx hb hG igX11 hown hK o_c_11 rfl 5 (by decide) (hG _ mw_362) rfl dX11_would_67 ?_
              refine lv_iload hx hb dX11_would_70 (lv_at hl 3 rfl) ?_
              refine lv_i2l hx hb dX11_would_72 rfl ?_
              refine lv_topl (fun u_33 eu_33 => ?_)
              refine va_callv (va_runV (As := [.long u_33]) (rest := []) ⟨hx, hb, hml, hown, hts⟩ (c_X7_add l g Ty G H.size (g.2.2 5) u_33 kq_17) (cwV 1 hts (gwV mw_938 mw_592 mw_593 mw_80 mw_594) rfl rfl rfl hv_X7_add ⟨Nat.le_of_ble_eq_true rfl, Nat.le_of_ble_eq_true rfl⟩) ⟨PcT_blind, hg_recv hK o_c_27 rfl, PcT_pre hK hH⟩ rfl rfl hl.1 rfl (lv_room (Nat.le_of_ble_eq_true rfl)) dX11_would_73 ⟨Nat.zero_le _, Nat.zero_le _⟩) hS (fun q _ h => AF.mono hS.1 h) (fun q h => AF.mono hS.1 h) (fun ux_34 t H locs ht hvm hx_34 hB hz hk hS => ?_)
              have hH : HT g Ty G H := by rw [← ht]; rw [hx_34] at hB; exact hB
              exact L_76 H locs ls ry3_32 r_5 (lv_sub hl [0, 1, 2, 3] rfl) hH hS
  refine lv_aload_n hx hb dX11_would_0 rfl (lv_at hl 0 rfl) ?_
  obtain ⟨_, ⟨q_50, rfl, kq_36, kq_37, kq_38, kq_39, kq_40, kq_41, kq_42, kq_43, kq_44, kq_45, kq_46, kq_47, kq_48, kq_49⟩, o_c_35⟩ := hH h0 _ k_h0
  refine hg_get hx hb hG igX11 hown hK o_c_35 rfl 8 (by decide) (hG _ mw_365) rfl dX11_would_1 ?_
  refine lv_aload_n hx hb dX11_would_4 rfl (lv_at hl 0 rfl) ?_
  refine hg_get hx hb hG igX11 hown hK o_c_35 rfl 6 (by decide) (hG _ mw_363) rfl dX11_would_5 ?_
  refine lv_iload_n hx hb dX11_would_8 rfl (lv_at hl 1 rfl) ?_
  refine lv_iload_n hx hb dX11_would_9 rfl (lv_at hl 2 rfl) ?_
  obtain ⟨_, ⟨q_52, q_53, q_54, rfl, kq_52, kq_53, kq_54⟩, o_c_51⟩ := hH (g.2.2 8) _ kq_44
  refine va_calli (va_runV (As := [.ref (g.2.2 6), .int a0, .int a1]) (rest := []) ⟨hx, hb, hml, hown, hts⟩ (c_X0_parentsBy l g Ty G s.heap.size (g.2.2 8) (g.2.2 6) a0 a1 kq_44 kq_42) (cwV 3 hts (gwV mw_994 mw_637 mw_638 mw_82 mw_639) rfl rfl rfl hv_X0_parentsBy ⟨Nat.le_of_ble_eq_true rfl, Nat.le_of_ble_eq_true rfl⟩) ⟨PcT_blind, hg_recv hK o_c_51 rfl, PcT_pre hK hH⟩ rfl rfl hl.1 rfl (lv_room (Nat.le_of_ble_eq_true rfl)) dX11_would_10 ⟨Nat.zero_le _, Nat.zero_le _⟩) hS (fun q _ h => AF.mono hS.1 h) (fun q h => AF.mono hS.1 h) (fun x_55 ux_55 t H locs ht hvm hx_55 hB hz hk hS => ?_)
  have hH : HT g Ty G H := by rw [← ht]; rw [hx_55] at hB; exact hB
  refine lv_istore_n (lv' := [(3, .int x_55), (0, .ref h0), (1, .int a0), (2, .int a1)]) hx hb dX11_would_13 rfl hl (by decide) rfl (fun ls hl => ?_)
  refine lv_iload_n hx hb dX11_would_14 rfl (lv_at hl 0 rfl) ?_
  refine lv_if_ge (tgt := 20) hx hb dX11_would_15 (by decide) (fun c_56 => ?_) (fun c_56 => ?_)
  · have r_57 : rgI (0) (2147483647) x_55 := rg_w (rg_leR rl_0 (rg_top x_55) c_56) (by decide) (by decide)
    refine lv_aload_n hx hb dX11_would_20 rfl (lv_at hl 1 rfl) ?_
    obtain ⟨_, ⟨q_73, rfl, kq_59, kq_60, kq_61, kq_62, kq_63, kq_64, kq_65, kq_66, kq_67, kq_68, kq_69, kq_70, kq_71, kq_72⟩, o_c_58⟩ := hH h0 _ k_h0
    refine hg_get hx hb hG igX11 hown hK o_c_58 rfl 5 (by decide) (hG _ mw_362) rfl dX11_would_21 ?_
    refine lv_iload_n hx hb dX11_would_24 rfl (lv_at hl 2 rfl) ?_
    refine lv_i2l hx hb dX11_would_25 rfl ?_
    refine lv_topl (fun u_74 eu_74 => ?_)
    obtain ⟨_, ⟨q_76, q_77, rfl, kq_76, rq_77⟩, o_c_75⟩ := hH (g.2.2 5) _ kq_64
    refine va_callv (va_runV (As := [.long u_74]) (rest := []) ⟨hx, hb, hml, hown, hts⟩ (c_X7_tell l g Ty G H.size (g.2.2 5) u_74 kq_64) (cwV 1 hts (gwV mw_583 mw_584 mw_585 mw_80 mw_586) rfl rfl rfl hv_X7_tell ⟨Nat.le_of_ble_eq_true rfl, Nat.le_of_ble_eq_true rfl⟩) ⟨PcT_blind, hg_recv hK o_c_75 rfl, PcT_pre hK hH⟩ rfl rfl hl.1 rfl (lv_room (Nat.le_of_ble_eq_true rfl)) dX11_would_26 ⟨Nat.zero_le _, Nat.zero_le _⟩) hS (fun q _ h => AF.mono hS.1 h) (fun q h => AF.mono hS.1 h) (fun ux_78 t H locs ht hvm hx_78 hB hz hk hS => ?_)
    have hH : HT g Ty G H := by rw [← ht]; rw [hx_78] at hB; exact hB
    refine lv_iconst (v := 0) hx hb dX11_would_29 (by decide) ?_
    refine lv_istore (lv' := [(4, .int 0), (3, .int x_55), (0, .ref h0), (1, .int a0), (2, .int a1)]) hx hb dX11_would_30 hl (by decide) rfl (fun ls hl => ?_)
    exact L_32 _ H locs x_55 0 ls r_57 (rg_w rl_0 (by decide) (by decide)) (Nat.lt_succ_self _) (lv_sub hl [2, 3, 1, 0] rfl) hH hS
  · have r_79 : rgI (-2147483648) (-1) x_55 := rg_w (rg_ltL (rg_top x_55) rl_0 (nle_lt c_56)) (by decide) (by decide)
    refine lv_iload_n hx hb dX11_would_18 rfl (lv_at hl 0 rfl) ?_
    exact W.iret hx hb hr (fun t ht hWm => ⟨⟨x_55, (Ty, G), rfl, rfl, by show HT g Ty G t.heap; rw [ht]; exact hH⟩, hS.F ht⟩) hS.2.2 dX11_would_19

set_option maxHeartbeats 4000000 in
set_option maxRecDepth 100000 in
theorem c_X11_lost (l : Launch) (g : Gx) (Ty : TyM) (G : Gh) (sz : Nat) (h0 : Nat) (a0 : Int32) (a1 : Int32) (k_h0 : Ty h0 = some (21, 0)) : Met l yX11_lost (wsG yX11_lost cX11_lost 4 (some .int)) ({ frames := 5, cells := 0, slots := 0, locals := 119 }) (PcT g Ty G sz [.ref h0, .int a0, .int a1]) (QwI g Ty sz (fun r u => u = (Ty, G))) 0 0 (AF Ty sz) := by
  refine Met.ofW (cc := cX11_lost) (maxL := 4) (ret := (some .int)) (by decide) rfl ?_
  intro p e s m args below meth c s₁ B hml hv
  obtain ⟨rfl, hsz, hK, hH⟩ := hv
  subst hsz
  have hx := B.exec
  have hb := B.bytes
  have hr := B.returns
  have hts := atoms_spec (ws := (wsG yX11_lost cX11_lost 4 (some .int))) B.pre
  have hG : ∀ w ∈ GW, w.before ([.ref h0, .int a0, .int a1] : List Value).toArray s = true := fun w h => hts w (List.mem_cons_of_mem _ h)
  have hown : s.vm.findClass RX11 = some m.cls := findClass_of_methodNamed B.named
  have hlocks := B.notSynchronized
  have hl := lv_entry [.ref h0, .int a0, .int a1] (n := 4) (Nat.le_of_ble_eq_true rfl)
  rw [lg_entry_eq]
  generalize (lg_sl [.ref h0, .int a0, .int a1] ++ List.replicate (4 - (lg_sl [.ref h0, .int a0, .int a1]).length) Slot.unset).toArray = ls at hl ⊢
  have hl : lv_has ls 4 [(0, .ref h0), (1, .int a0), (2, .int a1)] := hl
  have hS : va_S (AF Ty s.heap.size) s.heap s.heap [] := va_S.rf
  refine lv_aload_n hx hb dX11_lost_0 rfl (lv_at hl 0 rfl) ?_
  obtain ⟨_, ⟨q_16, rfl, kq_2, kq_3, kq_4, kq_5, kq_6, kq_7, kq_8, kq_9, kq_10, kq_11, kq_12, kq_13, kq_14, kq_15⟩, o_c_1⟩ := hH h0 _ k_h0
  refine hg_get hx hb hG igX11 hown hK o_c_1 rfl 8 (by decide) (hG _ mw_365) rfl dX11_lost_1 ?_
  refine lv_iload_n hx hb dX11_lost_4 rfl (lv_at hl 1 rfl) ?_
  refine lv_iload_n hx hb dX11_lost_5 rfl (lv_at hl 2 rfl) ?_
  obtain ⟨_, ⟨q_18, q_19, q_20, rfl, kq_18, kq_19, kq_20⟩, o_c_17⟩ := hH (g.2.2 8) _ kq_10
  refine va_calli (va_runV (As := [.int a0, .int a1]) (rest := []) ⟨hx, hb, hml, hown, hts⟩ (c_X0_goers l g Ty G s.heap.size (g.2.2 8) a0 a1 kq_10) (cwV 2 hts (gwV mw_999 mw_828 mw_829 mw_82 mw_830) rfl rfl rfl hv_X0_goers ⟨Nat.le_of_ble_eq_true rfl, Nat.le_of_ble_eq_true rfl⟩) ⟨PcT_blind, hg_recv hK o_c_17 rfl, PcT_pre hK hH⟩ rfl rfl hl.1 rfl (lv_room (Nat.le_of_ble_eq_true rfl)) dX11_lost_6 ⟨Nat.zero_le _, Nat.zero_le _⟩) hS (fun q _ h => AF.mono hS.1 h) (fun q h => AF.mono hS.1 h) (fun x_21 ux_21 t H locs ht hvm hx_21 hB hz hk hS => ?_)
  have hH : HT g Ty G H := by rw [← ht]; rw [hx_21] at hB; exact hB
  refine lv_istore_n (lv' := [(3, .int x_21), (0, .ref h0), (1, .int a0), (2, .int a1)]) hx hb dX11_lost_9 rfl hl (by decide) rfl (fun ls hl => ?_)
  refine lv_iload_n hx hb dX11_lost_10 rfl (lv_at hl 0 rfl) ?_
  refine lv_if_ge (tgt := 18) hx hb dX11_lost_11 (by decide) (fun c_22 => ?_) (fun c_22 => ?_)
  · have r_23 : rgI (0) (2147483647) x_21 := rg_w (rg_leR rl_0 (rg_top x_21) c_22) (by decide) (by decide)
    refine lv_aload_n hx hb dX11_lost_18 rfl (lv_at hl 1 rfl) ?_
    refine lv_iload_n hx hb dX11_lost_19 rfl (lv_at hl 0 rfl) ?_
    obtain ⟨_, ⟨q_39, rfl, kq_25, kq_26, kq_27, kq_28, kq_29, kq_30, kq_31, kq_32, kq_33, kq_34, kq_35, kq_36, kq_37, kq_38⟩, o_c_24⟩ := hH h0 _ k_h0
    refine va_calli (va_runV (As := [.int x_21]) (rest := []) ⟨hx, hb, hml, hown, hts⟩ (c_X11_toldWithSize l g Ty G H.size h0 x_21 k_h0) (cwV 1 hts (gwV mw_915 mw_917 mw_22 mw_76 mw_918) rfl rfl rfl hv_X11_toldWithSize ⟨Nat.le_of_ble_eq_true rfl, Nat.le_of_ble_eq_true rfl⟩) ⟨PcT_blind, hg_recv hK o_c_24 rfl, PcT_pre hK hH⟩ rfl rfl hl.1 rfl (lv_room (Nat.le_of_ble_eq_true rfl)) dX11_lost_20 ⟨Nat.zero_le _, Nat.zero_le _⟩) hS (fun q _ h => AF.mono hS.1 h) (fun q h => AF.mono hS.1 h) (fun x_40 ux_40 t H locs ht hvm hx_40 hB hz hk hS => ?_)
    have hH : HT g Ty G H := by rw [← ht]; rw [hx_40] at hB; exact hB
    exact W.iret hx hb hr (fun t ht hWm => ⟨⟨x_40, (Ty, G), rfl, rfl, by show HT g Ty G t.heap; rw [ht]; exact hH⟩, hS.F ht⟩) hS.2.2 dX11_lost_23
  · have r_41 : rgI (-2147483648) (-1) x_21 := rg_w (rg_ltL (rg_top x_21) rl_0 (nle_lt c_22)) (by decide) (by decide)
    refine lv_iload_n hx hb dX11_lost_14 rfl (lv_at hl 0 rfl) ?_
    refine lv_goto (tgt := 23) hx hb dX11_lost_15 (by decide) ?_
    exact W.iret hx hb hr (fun t ht hWm => ⟨⟨x_21, (Ty, G), rfl, rfl, by show HT g Ty G t.heap; rw [ht]; exact hH⟩, hS.F ht⟩) hS.2.2 dX11_lost_23

set_option maxHeartbeats 4000000 in
set_option maxRecDepth 100000 in
theorem c_X11_widest (l : Launch) (g : Gx) (Ty : TyM) (G : Gh) (sz : Nat) (h0 : Nat) (k_h0 : Ty h0 = some (21, 0)) : Met l yX11_widest (wsG yX11_widest cX11_widest 9 (some .int)) ({ frames := 4, cells := 0, slots := 0, locals := 92 }) (PcT g Ty G sz [.ref h0]) (QwI g Ty sz (fun r u => u = (Ty, G))) 0 0 (AF Ty sz) := by
  refine Met.ofW (cc := cX11_widest) (maxL := 9) (ret := (some .int)) (by decide) rfl ?_
  intro p e s m args below meth c s₁ B hml hv
  obtain ⟨rfl, hsz, hK, hH⟩ := hv
  subst hsz
  have hx := B.exec
  have hb := B.bytes
  have hr := B.returns
  have hts := atoms_spec (ws := (wsG yX11_widest cX11_widest 9 (some .int))) B.pre
  have hG : ∀ w ∈ GW, w.before ([.ref h0] : List Value).toArray s = true := fun w h => hts w (List.mem_cons_of_mem _ h)
  have hown : s.vm.findClass RX11 = some m.cls := findClass_of_methodNamed B.named
  have hlocks := B.notSynchronized
  have hl := lv_entry [.ref h0] (n := 9) (Nat.le_of_ble_eq_true rfl)
  rw [lg_entry_eq]
  generalize (lg_sl [.ref h0] ++ List.replicate (9 - (lg_sl [.ref h0]).length) Slot.unset).toArray = ls at hl ⊢
  have hl : lv_has ls 9 [(0, .ref h0)] := hl
  have hS : va_S (AF Ty s.heap.size) s.heap s.heap [] := va_S.rf
  have L_181 : ∀ (H : Heap) (locs : List Loc) (y1_181 : Int32) (ls : Array Slot), rgI (-2) (2147483647) y1_181 → lv_has ls 9 [(1, .int y1_181)] → HT g Ty G H → va_S (AF Ty s.heap.size) s.heap H locs → Wm p l e (wsG yX11_widest cX11_widest 9 (some .int)) ({ frames := 4, cells := 0, slots := 0, locals := 92 }) s m [.ref h0] below meth c H locs (0) (0) (QwI g Ty s.heap.size (fun r u => u = (Ty, G))) 0 0 (AF Ty s.heap.size) (F0 m 181 ls []) := by
    intro H locs y1_181 ls ry1_181 hl hH hS
    refine lv_iload_n hx hb dX11_widest_181 rfl (lv_at hl 0 rfl) ?_
    exact W.iret hx hb hr (fun t ht hWm => ⟨⟨y1_181, (Ty, G), rfl, rfl, by show HT g Ty G t.heap; rw [ht]; exact hH⟩, hS.F ht⟩) hS.2.2 dX11_widest_182
  have L_7 : ∀ (n : Nat) (H : Heap) (locs : List Loc) (y1_7 : Int32) (y2_7 : Int32) (y3_7 : Int32) (ls : Array Slot), rgI (-2) (2147483647) y1_7 → rgI (0) (4) y3_7 → (4 - (y3_7).toInt).toNat < n → lv_has ls 9 [(0, .ref h0), (1, .int y1_7), (2, .int y2_7), (3, .int y3_7)] → HT g Ty G H → va_S (AF Ty s.heap.size) s.heap H locs → Wm p l e (wsG yX11_widest cX11_widest 9 (some .int)) ({ frames := 4, cells := 0, slots := 0, locals := 92 }) s m [.ref h0] below meth c H locs (0) (0) (QwI g Ty s.heap.size (fun r u => u = (Ty, G))) 0 0 (AF Ty s.heap.size) (F0 m 7 ls []) := by
    intro n
    induction n with
    | zero => intro H locs y1_7 y2_7 y3_7 ls ry1_7 ry3_7 hm; exact absurd hm (Nat.not_lt_zero _)
    | succ n ih_7 =>
      intro H locs y1_7 y2_7 y3_7 ls ry1_7 ry3_7 hm_7 hl hH hS
      have L_44 : ∀ (n : Nat) (H : Heap) (locs : List Loc) (y1_44 : Int32) (y2_44 : Int32) (y4_44 : Int32) (y5_44 : Int32) (y6_44 : Int32) (ls : Array Slot), rgI (-2) (2147483647) y1_44 → rgI (0) (3) y3_7 → rgI (0) (24) y6_44 → (24 - (y6_44).toInt).toNat < n → lv_has ls 9 [(0, .ref h0), (1, .int y1_44), (2, .int y2_44), (3, .int y3_7), (4, .int y4_44), (5, .int y5_44), (6, .int y6_44)] → HT g Ty G H → va_S (AF Ty s.heap.size) s.heap H locs → Wm p l e (wsG yX11_widest cX11_widest 9 (some .int)) ({ frames := 4, cells := 0, slots := 0, locals := 92 }) s m [.ref h0] below meth c H locs (0) (0) (QwI g Ty s.heap.size (fun r u => u = (Ty, G))) 0 0 (AF Ty s.heap.size) (F0 m 44 ls []) := by
        intro n
        induction n with
        | zero => intro H locs y1_44 y2_44 y4_44 y5_44 y6_44 ls ry1_44 ry3_44 ry6_44 hm; exact absurd hm (Nat.not_lt_zero _)
        | succ n ih_44 =>
          intro H locs y1_44 y2_44 y4_44 y5_44 y6_44 ls ry1_44 ry3_44 ry6_44 hm_44 hl hH hS
          have L_156 : ∀ (H : Heap) (locs : List Loc) (y1_156 : Int32) (y2_156 : Int32) (ls : Array Slot), rgI (-2) (2147483647) y1_156 → rgI (0) (3) y3_7 → rgI (0) (23) y6_44 → lv_has ls 9 [(0, .ref h0), (1, .int y1_156), (2, .int y2_156), (3, .int y3_7), (4, .int y4_44), (5, .int y5_44), (6, .int y6_44)] → HT g Ty G H → va_S (AF Ty s.heap.size) s.heap H locs → Wm p l e (wsG yX11_widest cX11_widest 9 (some .int)) ({ frames := 4, cells := 0, slots := 0, locals := 92 }) s m [.ref h0] below meth c H locs (0) (0) (QwI g Ty s.heap.size (fun r u => u = (Ty, G))) 0 0 (AF Ty s.heap.size) (F0 m 156 ls []) := by
            intro H locs y1_156 y2_156 ls ry1_156 ry3_156 ry6_156 hl hH hS
            obtain ⟨x_1, ex_1⟩ : ∃ y : Int32, y = y6_44 + 1 := ⟨_, rfl⟩
            have rx_1 : rgI (1) (24) x_1 := by rw [ex_1]; exact rg_w (rg_add ry6_156 rl_1 (by decide) (by decide)) (by decide) (by decide)
            have qx_1 : x_1.toInt = (y6_44 : Int32).toInt + 1 := by rw [ex_1]; exact rg_addE ry6_156 rl_1 (by decide) (by decide)
            refine lv_iinc (v := x_1) (lv' := [(6, .int x_1), (0, .ref h0), (1, .int y1_156), (2, .int y2_156), (3, .int y3_7), (4, .int y4_44), (5, .int y5_44)]) hx hb dX11_widest_156 hl (k := 6) rfl (by rw [ex_1]; rfl) (by decide) rfl (fun ls hl => ?_)
            refine lv_goto (tgt := 44) hx hb dX11_widest_159 (by decide) ?_
            exact ih_44 H locs y1_156 y2_156 y4_44 y5_44 x_1 ls ry1_156 ry3_156 (rg_w rx_1 (by decide) (by decide)) (by have h1 := qx_1; have h2 := ry6_156.1; have h3 := ry6_156.2; have h4 := hm_44; omega) (lv_sub hl [1, 2, 3, 4, 5, 6, 0] rfl) hH hS
          have L_123 : ∀ (H : Heap) (locs : List Loc) (y1_123 : Int32) (y2_123 : Int32) (y7_123 : Int32) (z0_123 : Int32) (ls : Array Slot), rgI (-2) (2147483647) y1_123 → rgI (0) (3) y3_7 → rgI (0) (23) y6_44 → rgI (0) (1) z0_123 → lv_has ls 9 [(0, .ref h0), (1, .int y1_123), (2, .int y2_123), (3, .int y3_7), (4, .int y4_44), (5, .int y5_44), (6, .int y6_44), (7, .int y7_123)] → HT g Ty G H → va_S (AF Ty s.heap.size) s.heap H locs → Wm p l e (wsG yX11_widest cX11_widest 9 (some .int)) ({ frames := 4, cells := 0, slots := 0, locals := 92 }) s m [.ref h0] below meth c H locs (0) (0) (QwI g Ty s.heap.size (fun r u => u = (Ty, G))) 0 0 (AF Ty s.heap.size) (F0 m 123 ls [.int z0_123]) := by
            intro H locs y1_123 y2_123 y7_123 z0_123 ls ry1_123 ry3_123 ry6_123 rz0_123 hl hH hS
            refine lv_istore (lv' := [(8, .int z0_123), (0, .ref h0), (1, .int y1_123), (2, .int y2_123), (3, .int y3_7), (4, .int y4_44), (5, .int y5_44), (6, .int y6_44), (7, .int y7_123)]) hx hb dX11_widest_123 hl (by decide) rfl (fun ls hl => ?_)
            refine lv_iload hx hb dX11_widest_125 (lv_at hl 0 rfl) ?_
            refine lv_if_eq (tgt := 156) hx hb dX11_widest_127 (by decide) (fun c_2 => ?_) (fun c_2 => ?_)
            · have r_3 : rgI (0) (0) z0_123 := rg_w (rg_eq rl_0 c_2) (by decide) (by decide)
              exact L_156 H locs y1_123 y2_123 ls ry1_123 ry3_123 ry6_123 (lv_sub hl [1, 2, 3, 4, 5, 6, 7] rfl) hH hS
            · have r_4 : rgI (1) (1) z0_123 := rg_w (rg_neL rz0_123 rl_0 c_2) (by decide) (by decide)
              refine lv_aload_n hx hb dX11_widest_130 rfl (lv_at hl 1 rfl) ?_
              obtain ⟨_, ⟨q_20, rfl, kq_6, kq_7, kq_8, kq_9, kq_10, kq_11, kq_12, kq_13, kq_14, kq_15, kq_16, kq_17, kq_18, kq_19⟩, o_c_5⟩ := hH h0 _ k_h0
              refine hg_get hx hb hG igX11 hown hK o_c_5 rfl 0 (by decide) (hG _ mw_357) rfl dX11_widest_131 ?_
              obtain ⟨_, ⟨q_22, q_23, q_24, q_25, q_26, q_27, q_28, rfl, kq_22, kq_23, kq_24⟩, o_c_21⟩ := hH (g.2.2 0) _ kq_6
              refine vp_callSi (W.runV (As := []) (rest := []) ⟨hx, hb, hml, hown, hts⟩ (c_X10_size l g Ty G (g.2.2 0) kq_6) (cwV 0 hts (gwV mw_901 mw_709 mw_710 mw_77 mw_711) rfl rfl rfl hv_X10_size ⟨Nat.le_of_ble_eq_true rfl, Nat.le_of_ble_eq_true rfl⟩) ⟨PcH_blind, hg_recv hK o_c_21 rfl, PcH_pre hK hH⟩ rfl rfl hl.1 rfl (lv_room (Nat.le_of_ble_eq_true rfl)) dX11_widest_134 ⟨Nat.zero_le _, Nat.zero_le _⟩) (fun x_29 hx_29 => ?_)
              refine lv_iload hx hb dX11_widest_137 (lv_at hl 8 rfl) ?_
              refine lv_iadd hx hb dX11_widest_139 ?_
              refine lv_topi (fun x_30 ex_30 => ?_)
              refine lv_bipush (v := 24) hx hb dX11_widest_140 (by decide) ?_
              refine lv_icmp_gt (tgt := 156) hx hb dX11_widest_142 (by decide) (fun c_31 => ?_) (fun c_31 => ?_)
              · have r_32 : rgI (25) (2147483647) x_30 := rg_w (rg_ltR rl_24 (rg_top x_30) c_31) (by decide) (by decide)
                exact L_156 H locs y1_123 y2_123 ls ry1_123 ry3_123 ry6_123 (lv_sub hl [1, 2, 3, 4, 5, 6, 7] rfl) hH hS
              · have r_33 : rgI (-2147483648) (24) x_30 := rg_w (rg_leL (rg_top x_30) rl_24 (nlt_le c_31)) (by decide) (by decide)
                refine lv_iload hx hb dX11_widest_145 (lv_at hl 8 rfl) ?_
                refine lv_istore_n (lv' := [(2, .int y7_123), (8, .int z0_123), (0, .ref h0), (1, .int y1_123), (3, .int y3_7), (4, .int y4_44), (5, .int y5_44), (6, .int y6_44), (7, .int y7_123)]) hx hb dX11_widest_147 rfl hl (by decide) rfl (fun ls hl => ?_)
                refine lv_bipush (v := 10) hx hb dX11_widest_148 (by decide) ?_
                refine lv_iload hx hb dX11_widest_150 (lv_at hl 7 rfl) ?_
                refine lv_imul hx hb dX11_widest_152 ?_
                refine lv_topi (fun x_34 ex_34 => ?_)
                have rx_34 : rgI (0) (230) x_34 := by rw [ex_34]; exact rg_w (rg_mul rl_10 ry6_123 (by decide) (by decide) (by decide)) (by decide) (by decide)
                refine lv_iload_n hx hb dX11_widest_153 rfl (lv_at hl 4 rfl) ?_
                refine lv_iadd hx hb dX11_widest_154 ?_
                refine lv_topi (fun x_35 ex_35 => ?_)
                have rx_35 : rgI (0) (233) x_35 := by rw [ex_35]; exact rg_w (rg_add rx_34 ry3_123 (by decide) (by decide)) (by decide) (by decide)
                refine lv_istore_n (lv' := [(1, .int x_35), (2, .int y7_123), (8, .int z0_123), (0, .ref h0), (3, .int y3_7), (4, .int y4_44), (5, .int y5_44), (6, .int y6_44), (7, .int y7_123)]) hx hb dX11_widest_155 rfl hl (by decide) rfl (fun ls hl => ?_)
                exact L_156 H locs x_35 y7_123 ls (rg_w rx_35 (by decide) (by decide)) ry3_123 ry6_123 (lv_sub hl [3, 0, 1, 4, 5, 6, 7] rfl) hH hS
          have L_122 : ∀ (H : Heap) (locs : List Loc) (y1_122 : Int32) (y2_122 : Int32) (y7_122 : Int32) (ls : Array Slot), rgI (-2) (2147483647) y1_122 → rgI (0) (3) y3_7 → rgI (0) (23) y6_44 → lv_has ls 9 [(0, .ref h0), (1, .int y1_122), (2, .int y2_122), (3, .int y3_7), (4, .int y4_44), (5, .int y5_44), (6, .int y6_44), (7, .int y7_122)] → HT g Ty G H → va_S (AF Ty s.heap.size) s.heap H locs → Wm p l e (wsG yX11_widest cX11_widest 9 (some .int)) ({ frames := 4, cells := 0, slots := 0, locals := 92 }) s m [.ref h0] below meth c H locs (0) (0) (QwI g Ty s.heap.size (fun r u => u = (Ty, G))) 0 0 (AF Ty s.heap.size) (F0 m 122 ls []) := by
            intro H locs y1_122 y2_122 y7_122 ls ry1_122 ry3_122 ry6_122 hl hH hS
            refine lv_iconst (v := 0) hx hb dX11_widest_122 (by decide) ?_
            exact L_123 H locs y1_122 y2_122 y7_122 0 ls ry1_122 ry3_122 ry6_122 (rg_w rl_0 (by decide) (by decide)) (lv_sub hl [0, 1, 2, 3, 4, 5, 6, 7] rfl) hH hS
          have L_118 : ∀ (H : Heap) (locs : List Loc) (y1_118 : Int32) (y2_118 : Int32) (y7_118 : Int32) (ls : Array Slot), rgI (-2) (2147483647) y1_118 → rgI (0) (3) y3_7 → rgI (0) (23) y6_44 → lv_has ls 9 [(0, .ref h0), (1, .int y1_118), (2, .int y2_118), (3, .int y3_7), (4, .int y4_44), (5, .int y5_44), (6, .int y6_44), (7, .int y7_118)] → HT g Ty G H → va_S (AF Ty s.heap.size) s.heap H locs → Wm p l e (wsG yX11_widest cX11_widest 9 (some .int)) ({ frames := 4, cells := 0, slots := 0, locals := 92 }) s m [.ref h0] below meth c H locs (0) (0) (QwI g Ty s.heap.size (fun r u => u = (Ty, G))) 0 0 (AF Ty s.heap.size) (F0 m 118 ls []) := by
            intro H locs y1_118 y2_118 y7_118 ls ry1_118 ry3_118 ry6_118 hl hH hS
            refine lv_iconst (v := 1) hx hb dX11_widest_118 (by decide) ?_
            refine lv_goto (tgt := 123) hx hb dX11_widest_119 (by decide) ?_
            exact L_123 H locs y1_118 y2_118 y7_118 1 ls ry1_118 ry3_118 ry6_118 (rg_w rl_1 (by decide) (by decide)) (lv_sub hl [0, 1, 2, 3, 4, 5, 6, 7] rfl) hH hS
          refine lv_iload hx hb dX11_widest_44 (lv_at hl 6 rfl) ?_
          refine lv_bipush (v := 24) hx hb dX11_widest_46 (by decide) ?_
          refine lv_icmp_ge (tgt := 162) hx hb dX11_widest_48 (by decide) (fun c_36 => ?_) (fun c_36 => ?_)
          · have r_37 : rgI (24) (24) y6_44 := rg_w (rg_leR rl_24 ry6_44 c_36) (by decide) (by decide)
            obtain ⟨x_38, ex_38⟩ : ∃ y : Int32, y = y3_7 + 1 := ⟨_, rfl⟩
            have rx_38 : rgI (1) (4) x_38 := by rw [ex_38]; exact rg_w (rg_add ry3_44 rl_1 (by decide) (by decide)) (by decide) (by decide)
            have qx_38 : x_38.toInt = (y3_7 : Int32).toInt + 1 := by rw [ex_38]; exact rg_addE ry3_44 rl_1 (by decide) (by decide)
            refine lv_iinc (v := x_38) (lv' := [(3, .int x_38), (0, .ref h0), (1, .int y1_44), (2, .int y2_44), (4, .int y4_44), (5, .int y5_44), (6, .int y6_44)]) hx hb dX11_widest_162 hl (k := 3) rfl (by rw [ex_38]; rfl) (by decide) rfl (fun ls hl => ?_)
            refine lv_goto (tgt := 7) hx hb dX11_widest_165 (by decide) ?_
            exact ih_7 H locs y1_44 y2_44 x_38 ls ry1_44 (rg_w rx_38 (by decide) (by decide)) (by have h1 := qx_38; have h2 := ry3_44.1; have h3 := ry3_44.2; have h4 := hm_7; omega) (lv_sub hl [1, 2, 3, 0] rfl) hH hS
          · have r_39 : rgI (0) (23) y6_44 := rg_w (rg_ltL ry6_44 rl_24 (nle_lt c_36)) (by decide) (by decide)
            refine lv_aload_n hx hb dX11_widest_51 rfl (lv_at hl 0 rfl) ?_
            obtain ⟨_, ⟨q_55, rfl, kq_41, kq_42, kq_43, kq_44, kq_45, kq_46, kq_47, kq_48, kq_49, kq_50, kq_51, kq_52, kq_53, kq_54⟩, o_c_40⟩ := hH h0 _ k_h0
            refine hg_get hx hb hG igX11 hown hK o_c_40 rfl 0 (by decide) (hG _ mw_357) rfl dX11_widest_52 ?_
            refine lv_iload hx hb dX11_widest_55 (lv_at hl 6 rfl) ?_
            obtain ⟨_, ⟨q_57, q_58, q_59, q_60, q_61, q_62, q_63, rfl, kq_57, kq_58, kq_59⟩, o_c_56⟩ := hH (g.2.2 0) _ kq_41
            refine vp_callSi (W.runV (As := [.int y6_44]) (rest := []) ⟨hx, hb, hml, hown, hts⟩ (c_X10_has l g Ty G (g.2.2 0) y6_44 kq_41) (cwV 1 hts (gwV mw_603 mw_604 mw_605 mw_77 mw_606) rfl rfl rfl hv_X10_has ⟨Nat.le_of_ble_eq_true rfl, Nat.le_of_ble_eq_true rfl⟩) ⟨PcH_blind, hg_recv hK o_c_56 rfl, PcH_pre hK hH⟩ rfl rfl hl.1 rfl (lv_room (Nat.le_of_ble_eq_true rfl)) dX11_widest_57 ⟨Nat.zero_le _, Nat.zero_le _⟩) (fun x_64 hx_64 => ?_)
            have rx_64 : rgI (0) (1) x_64 := hx_64.1
            refine lv_if_eq (tgt := 156) hx hb dX11_widest_60 (by decide) (fun c_65 => ?_) (fun c_65 => ?_)
            · have r_66 : rgI (0) (0) x_64 := rg_w (rg_eq rl_0 c_65) (by decide) (by decide)
              exact L_156 H locs y1_44 y2_44 ls ry1_44 ry3_44 r_39 (lv_sub hl [0, 1, 2, 3, 4, 5, 6] rfl) hH hS
            · have r_67 : rgI (1) (1) x_64 := rg_w (rg_neL rx_64 rl_0 c_65) (by decide) (by decide)
              refine lv_iload hx hb dX11_widest_63 (lv_at hl 4 rfl) ?_
              refine lv_iconst (v := 1) hx hb dX11_widest_65 (by decide) ?_
              refine lv_iload hx hb dX11_widest_66 (lv_at hl 6 rfl) ?_
              refine lv_ishl hx hb dX11_widest_68 ?_
              refine lv_topi (fun x_68 ex_68 => ?_)
              refine lv_iand hx hb dX11_widest_69 ?_
              refine lv_topi (fun x_69 ex_69 => ?_)
              refine lv_if_ne (tgt := 156) hx hb dX11_widest_70 (by decide) (fun c_70 => ?_) (fun c_70 => ?_)
              · exact L_156 H locs y1_44 y2_44 ls ry1_44 ry3_44 r_39 (lv_sub hl [0, 1, 2, 3, 4, 5, 6] rfl) hH hS
              · have r_71 : rgI (0) (0) x_69 := rg_w (rg_eq rl_0 c_70) (by decide) (by decide)
                refine lv_aload_n hx hb dX11_widest_73 rfl (lv_at hl 0 rfl) ?_
                refine hg_get hx hb hG igX11 hown hK o_c_40 rfl 0 (by decide) (hG _ mw_357) rfl dX11_widest_74 ?_
                refine lv_iload hx hb dX11_widest_77 (lv_at hl 6 rfl) ?_
                refine vp_callSi (W.runV (As := [.int y6_44]) (rest := []) ⟨hx, hb, hml, hown, hts⟩ (c_X10_spreadOf l g Ty G (g.2.2 0) y6_44 kq_41) (cwV 1 hts (gwV mw_914 mw_650 mw_651 mw_77 mw_652) rfl rfl rfl hv_X10_spreadOf ⟨Nat.le_of_ble_eq_true rfl, Nat.le_of_ble_eq_true rfl⟩) ⟨PcH_blind, hg_recv hK o_c_56 rfl, PcH_pre hK hH⟩ rfl rfl hl.1 rfl (lv_room (Nat.le_of_ble_eq_true rfl)) dX11_widest_79 ⟨Nat.zero_le _, Nat.zero_le _⟩) (fun x_72 hx_72 => ?_)
                refine lv_iload hx hb dX11_widest_82 (lv_at hl 5 rfl) ?_
                refine lv_iand hx hb dX11_widest_84 ?_
                refine lv_topi (fun x_73 ex_73 => ?_)
                refine lv_iconst (v := 1) hx hb dX11_widest_85 (by decide) ?_
                refine lv_iload hx hb dX11_widest_86 (lv_at hl 6 rfl) ?_
                refine lv_ishl hx hb dX11_widest_88 ?_
                refine lv_topi (fun x_74 ex_74 => ?_)
                refine lv_ior hx hb dX11_widest_89 ?_
                refine lv_topi (fun x_75 ex_75 => ?_)
                refine vp_callSi (W.runS (As := [.int x_75]) (rest := []) ⟨hx, hb, hml, hown, hts⟩ (c_J6_bitCount_0f7a4 l g Ty G x_75 ) (cwSx 1 hts hG (gwC mw_620) mw_99 mw_618 mw_619 rfl rfl rfl hd_J6_bitCount_0f7a4 ⟨Nat.le_of_ble_eq_true rfl, Nat.le_of_ble_eq_true rfl⟩) ⟨PcH_blind, PcH_pre hK hH⟩ rfl rfl hl.1 rfl (lv_room (Nat.le_of_ble_eq_true rfl)) dX11_widest_90 ⟨Nat.zero_le _, Nat.zero_le _⟩) (fun x_76 hx_76 => ?_)
                refine lv_istore (lv' := [(7, .int x_76), (0, .ref h0), (1, .int y1_44), (2, .int y2_44), (3, .int y3_7), (4, .int y4_44), (5, .int y5_44), (6, .int y6_44)]) hx hb dX11_widest_93 hl (by decide) rfl (fun ls hl => ?_)
                refine lv_iload hx hb dX11_widest_95 (lv_at hl 0 rfl) ?_
                refine lv_iload_n hx hb dX11_widest_97 rfl (lv_at hl 3 rfl) ?_
                refine lv_icmp_gt (tgt := 118) hx hb dX11_widest_98 (by decide) (fun c_77 => ?_) (fun c_77 => ?_)
                · have r_78 : rgI (-2147483648) (2147483646) y2_44 := rg_w (rg_ltL (rg_top y2_44) (rg_top x_76) c_77) (by decide) (by decide)
                  have r_79 : rgI (-2147483647) (2147483647) x_76 := rg_w (rg_ltR (rg_top y2_44) (rg_top x_76) c_77) (by decide) (by decide)
                  exact L_118 H locs y1_44 y2_44 x_76 ls ry1_44 ry3_44 r_39 (lv_sub hl [1, 2, 3, 4, 5, 6, 7, 0] rfl) hH hS
                · refine lv_iload hx hb dX11_widest_101 (lv_at hl 0 rfl) ?_
                  refine lv_iload_n hx hb dX11_widest_103 rfl (lv_at hl 3 rfl) ?_
                  refine lv_icmp_ne (tgt := 122) hx hb dX11_widest_104 (by decide) (fun c_80 => ?_) (fun c_80 => ?_)
                  · exact L_122 H locs y1_44 y2_44 x_76 ls ry1_44 ry3_44 r_39 (lv_sub hl [1, 2, 3, 4, 5, 6, 7, 0] rfl) hH hS
                  · refine lv_bipush (v := 10) hx hb dX11_widest_107 (by decide) ?_
                    refine lv_iload hx hb dX11_widest_109 (lv_at hl 7 rfl) ?_
                    refine lv_imul hx hb dX11_widest_111 ?_
                    refine lv_topi (fun x_81 ex_81 => ?_)
                    have rx_81 : rgI (0) (230) x_81 := by rw [ex_81]; exact rg_w (rg_mul rl_10 r_39 (by decide) (by decide) (by decide)) (by decide) (by decide)
                    refine lv_iload_n hx hb dX11_widest_112 rfl (lv_at hl 4 rfl) ?_
                    refine lv_iadd hx hb dX11_widest_113 ?_
                    refine lv_topi (fun x_82 ex_82 => ?_)
                    have rx_82 : rgI (0) (233) x_82 := by rw [ex_82]; exact rg_w (rg_add rx_81 ry3_44 (by decide) (by decide)) (by decide) (by decide)
                    refine lv_iload_n hx hb dX11_widest_114 rfl (lv_at hl 2 rfl) ?_
                    refine lv_icmp_ge (tgt := 122) hx hb dX11_widest_115 (by decide) (fun c_83 => ?_) (fun c_83 => ?_)
                    · have r_84 : rgI (-2) (233) y1_44 := rg_w (rg_leL ry1_44 rx_82 c_83) (by decide) (by decide)
                      exact L_122 H locs y1_44 y2_44 x_76 ls (rg_w r_84 (by decide) (by decide)) ry3_44 r_39 (lv_sub hl [1, 2, 3, 4, 5, 6, 7, 0] rfl) hH hS
                    · have r_85 : rgI (1) (2147483647) y1_44 := rg_w (rg_ltR rx_82 ry1_44 (nle_lt c_83)) (by decide) (by decide)
                      exact L_118 H locs y1_44 y2_44 x_76 ls (rg_w r_85 (by decide) (by decide)) ry3_44 r_39 (lv_sub hl [1, 2, 3, 4, 5, 6, 7, 0] rfl) hH hS
      refine lv_iload_n hx hb dX11_widest_7 rfl (lv_at hl 3 rfl) ?_
      refine lv_iconst (v := 4) hx hb dX11_widest_8 (by decide) ?_
      refine lv_icmp_ge (tgt := 168) hx hb dX11_widest_9 (by decide) (fun c_86 => ?_) (fun c_86 => ?_)
      · have r_87 : rgI (4) (4) y3_7 := rg_w (rg_leR rl_4 ry3_7 c_86) (by decide) (by decide)
        refine lv_iload_n hx hb dX11_widest_168 rfl (lv_at hl 2 rfl) ?_
        refine lv_if_le (tgt := 181) hx hb dX11_widest_169 (by decide) (fun c_88 => ?_) (fun c_88 => ?_)
        · have r_89 : rgI (-2147483648) (0) y2_7 := rg_w (rg_leL (rg_top y2_7) rl_0 c_88) (by decide) (by decide)
          exact L_181 H locs y1_7 ls ry1_7 (lv_sub hl [1] rfl) hH hS
        · have r_90 : rgI (1) (2147483647) y2_7 := rg_w (rg_ltR rl_0 (rg_top y2_7) (nle_lt c_88)) (by decide) (by decide)
          refine lv_aload_n hx hb dX11_widest_172 rfl (lv_at hl 0 rfl) ?_
          obtain ⟨_, ⟨q_106, rfl, kq_92, kq_93, kq_94, kq_95, kq_96, kq_97, kq_98, kq_99, kq_100, kq_101, kq_102, kq_103, kq_104, kq_105⟩, o_c_91⟩ := hH h0 _ k_h0
          refine hg_get hx hb hG igX11 hown hK o_c_91 rfl 5 (by decide) (hG _ mw_362) rfl dX11_widest_173 ?_
          refine lv_iload_n hx hb dX11_widest_176 rfl (lv_at hl 2 rfl) ?_
          refine lv_i2l hx hb dX11_widest_177 rfl ?_
          refine lv_topl (fun u_107 eu_107 => ?_)
          obtain ⟨_, ⟨q_109, q_110, rfl, kq_109, rq_110⟩, o_c_108⟩ := hH (g.2.2 5) _ kq_97
          refine va_callv (va_runV (As := [.long u_107]) (rest := []) ⟨hx, hb, hml, hown, hts⟩ (c_X7_tell l g Ty G H.size (g.2.2 5) u_107 kq_97) (cwV 1 hts (gwV mw_583 mw_584 mw_585 mw_80 mw_586) rfl rfl rfl hv_X7_tell ⟨Nat.le_of_ble_eq_true rfl, Nat.le_of_ble_eq_true rfl⟩) ⟨PcT_blind, hg_recv hK o_c_108 rfl, PcT_pre hK hH⟩ rfl rfl hl.1 rfl (lv_room (Nat.le_of_ble_eq_true rfl)) dX11_widest_178 ⟨Nat.zero_le _, Nat.zero_le _⟩) hS (fun q _ h => AF.mono hS.1 h) (fun q h => AF.mono hS.1 h) (fun ux_111 t H locs ht hvm hx_111 hB hz hk hS => ?_)
          have hH : HT g Ty G H := by rw [← ht]; rw [hx_111] at hB; exact hB
          exact L_181 H locs y1_7 ls ry1_7 (lv_sub hl [1] rfl) hH hS
      · have r_112 : rgI (0) (3) y3_7 := rg_w (rg_ltL ry3_7 rl_4 (nle_lt c_86)) (by decide) (by decide)
        refine lv_aload_n hx hb dX11_widest_12 rfl (lv_at hl 0 rfl) ?_
        obtain ⟨_, ⟨q_128, rfl, kq_114, kq_115, kq_116, kq_117, kq_118, kq_119, kq_120, kq_121, kq_122, kq_123, kq_124, kq_125, kq_126, kq_127⟩, o_c_113⟩ := hH h0 _ k_h0
        refine hg_get hx hb hG igX11 hown hK o_c_113 rfl 0 (by decide) (hG _ mw_357) rfl dX11_widest_13 ?_
        refine lv_iload_n hx hb dX11_widest_16 rfl (lv_at hl 3 rfl) ?_
        obtain ⟨_, ⟨q_130, q_131, q_132, q_133, q_134, q_135, q_136, rfl, kq_130, kq_131, kq_132⟩, o_c_129⟩ := hH (g.2.2 0) _ kq_114
        refine vp_callSi (W.runV (As := [.int y3_7]) (rest := []) ⟨hx, hb, hml, hown, hts⟩ (c_X10_takenAt l g Ty G (g.2.2 0) y3_7 kq_114) (cwV 1 hts (gwV mw_1004 mw_646 mw_647 mw_77 mw_648) rfl rfl rfl hv_X10_takenAt ⟨Nat.le_of_ble_eq_true rfl, Nat.le_of_ble_eq_true rfl⟩) ⟨PcH_blind, hg_recv hK o_c_129 rfl, PcH_pre hK hH⟩ rfl rfl hl.1 rfl (lv_room (Nat.le_of_ble_eq_true rfl)) dX11_widest_17 ⟨Nat.zero_le _, Nat.zero_le _⟩) (fun x_137 hx_137 => ?_)
        refine lv_istore (lv' := [(4, .int x_137), (0, .ref h0), (1, .int y1_7), (2, .int y2_7), (3, .int y3_7)]) hx hb dX11_widest_20 hl (by decide) rfl (fun ls hl => ?_)
        refine lv_aload_n hx hb dX11_widest_22 rfl (lv_at hl 1 rfl) ?_
        refine hg_get hx hb hG igX11 hown hK o_c_113 rfl 6 (by decide) (hG _ mw_363) rfl dX11_widest_23 ?_
        refine lv_aload_n hx hb dX11_widest_26 rfl (lv_at hl 1 rfl) ?_
        refine hg_get hx hb hG igX11 hown hK o_c_113 rfl 0 (by decide) (hG _ mw_357) rfl dX11_widest_27 ?_
        refine lv_iload_n hx hb dX11_widest_30 rfl (lv_at hl 4 rfl) ?_
        obtain ⟨_, ⟨q_139, q_140, q_141, q_142, q_143, q_144, q_145, q_146, q_147, q_148, rfl, kq_139, kq_141, kq_147, kq_148, rq_140, rq_143⟩, o_c_138⟩ := hH (g.2.2 6) _ kq_120
        refine va_calli (va_runV (As := [.ref (g.2.2 0), .int y3_7]) (rest := []) ⟨hx, hb, hml, hown, hts⟩ (c_X8_letting l g Ty G H.size (g.2.2 6) (g.2.2 0) y3_7 kq_120 kq_114) (cwV 2 hts (gwV mw_1005 mw_670 mw_671 mw_81 mw_672) rfl rfl rfl hv_X8_letting ⟨Nat.le_of_ble_eq_true rfl, Nat.le_of_ble_eq_true rfl⟩) ⟨PcT_blind, hg_recv hK o_c_138 rfl, PcT_pre hK hH⟩ rfl rfl hl.1 rfl (lv_room (Nat.le_of_ble_eq_true rfl)) dX11_widest_31 ⟨Nat.zero_le _, Nat.zero_le _⟩) hS (fun q _ h => AF.mono hS.1 h) (fun q h => AF.mono hS.1 h) (fun x_149 ux_149 t H locs ht hvm hx_149 hB hz hk hS => ?_)
        have hH : HT g Ty G H := by rw [← ht]; rw [hx_149] at hB; exact hB
        refine lv_iload hx hb dX11_widest_34 (lv_at hl 0 rfl) ?_
        refine lv_iconst (v := (-1)) hx hb dX11_widest_36 (by decide) ?_
        refine lv_ixor hx hb dX11_widest_37 ?_
        refine lv_topi (fun x_150 ex_150 => ?_)
        refine lv_iand hx hb dX11_widest_38 ?_
        refine lv_topi (fun x_151 ex_151 => ?_)
        refine lv_istore (lv' := [(5, .int x_151), (4, .int x_137), (0, .ref h0), (1, .int y1_7), (2, .int y2_7), (3, .int y3_7)]) hx hb dX11_widest_39 hl (by decide) rfl (fun ls hl => ?_)
        refine lv_iconst (v := 0) hx hb dX11_widest_41 (by decide) ?_
        refine lv_istore (lv' := [(6, .int 0), (5, .int x_151), (4, .int x_137), (0, .ref h0), (1, .int y1_7), (2, .int y2_7), (3, .int y3_7)]) hx hb dX11_widest_42 hl (by decide) rfl (fun ls hl => ?_)
        exact L_44 _ H locs y1_7 y2_7 x_137 x_151 0 ls ry1_7 r_112 (rg_w rl_0 (by decide) (by decide)) (Nat.lt_succ_self _) (lv_sub hl [3, 4, 5, 6, 2, 1, 0] rfl) hH hS
  refine lv_bipush (v := (-2)) hx hb dX11_widest_0 (by decide) ?_
  refine lv_istore_n (lv' := [(1, .int (-2)), (0, .ref h0)]) hx hb dX11_widest_2 rfl hl (by decide) rfl (fun ls hl => ?_)
  refine lv_iconst (v := 0) hx hb dX11_widest_3 (by decide) ?_
  refine lv_istore_n (lv' := [(2, .int 0), (1, .int (-2)), (0, .ref h0)]) hx hb dX11_widest_4 rfl hl (by decide) rfl (fun ls hl => ?_)
  refine lv_iconst (v := 0) hx hb dX11_widest_5 (by decide) ?_
  refine lv_istore_n (lv' := [(3, .int 0), (2, .int 0), (1, .int (-2)), (0, .ref h0)]) hx hb dX11_widest_6 rfl hl (by decide) rfl (fun ls hl => ?_)
  exact L_7 _ s.heap [] (-2) 0 0 ls (rg_w rl_m2 (by decide) (by decide)) (rg_w rl_0 (by decide) (by decide)) (Nat.lt_succ_self _) (lv_sub hl [3, 2, 1, 0] rfl) hH hS

set_option maxHeartbeats 4000000 in
set_option maxRecDepth 100000 in
theorem c_X11_fits (l : Launch) (g : Gx) (Ty : TyM) (G : Gh) (sz : Nat) (h0 : Nat) (k_h0 : Ty h0 = some (21, 0)) : Met l yX11_fits (wsG yX11_fits cX11_fits 1 (some .int)) ({ frames := 6, cells := 0, slots := 0, locals := 137 }) (PcT g Ty G sz [.ref h0]) (QwI g Ty sz (fun r u => u = (Ty, G))) 0 0 (AF Ty sz) := by
  refine Met.ofW (cc := cX11_fits) (maxL := 1) (ret := (some .int)) (by decide) rfl ?_
  intro p e s m args below meth c s₁ B hml hv
  obtain ⟨rfl, hsz, hK, hH⟩ := hv
  subst hsz
  have hx := B.exec
  have hb := B.bytes
  have hr := B.returns
  have hts := atoms_spec (ws := (wsG yX11_fits cX11_fits 1 (some .int))) B.pre
  have hG : ∀ w ∈ GW, w.before ([.ref h0] : List Value).toArray s = true := fun w h => hts w (List.mem_cons_of_mem _ h)
  have hown : s.vm.findClass RX11 = some m.cls := findClass_of_methodNamed B.named
  have hlocks := B.notSynchronized
  have hl := lv_entry [.ref h0] (n := 1) (Nat.le_of_ble_eq_true rfl)
  rw [lg_entry_eq]
  generalize (lg_sl [.ref h0] ++ List.replicate (1 - (lg_sl [.ref h0]).length) Slot.unset).toArray = ls at hl ⊢
  have hl : lv_has ls 1 [(0, .ref h0)] := hl
  have hS : va_S (AF Ty s.heap.size) s.heap s.heap [] := va_S.rf
  refine lv_aload_n hx hb dX11_fits_0 rfl (lv_at hl 0 rfl) ?_
  refine lv_aload_n hx hb dX11_fits_1 rfl (lv_at hl 0 rfl) ?_
  obtain ⟨_, ⟨q_16, rfl, kq_2, kq_3, kq_4, kq_5, kq_6, kq_7, kq_8, kq_9, kq_10, kq_11, kq_12, kq_13, kq_14, kq_15⟩, o_c_1⟩ := hH h0 _ k_h0
  refine hg_get hx hb hG igX11 hown hK o_c_1 rfl 11 (by decide) (hG _ mw_368) rfl dX11_fits_2 ?_
  obtain ⟨_, ⟨q_18, q_19, q_20, q_22, q_23, rfl, kq_18, kq_19, kq_20, kq_22, rq_21, t_24⟩, o_c_17⟩ := hH (g.2.2 11) _ kq_13
  refine va_calli (va_runV (As := []) (rest := [.ref h0]) ⟨hx, hb, hml, hown, hts⟩ (c_X3_fitting l g Ty G s.heap.size (g.2.2 11) kq_13) (cwV 0 hts (gwV mw_1024 mw_1025 mw_1026 mw_85 mw_1027) rfl rfl rfl hv_X3_fitting ⟨Nat.le_of_ble_eq_true rfl, Nat.le_of_ble_eq_true rfl⟩) ⟨PcT_blind, hg_recv hK o_c_17 rfl, PcT_pre hK hH⟩ rfl rfl hl.1 rfl (lv_room (Nat.le_of_ble_eq_true rfl)) dX11_fits_5 ⟨Nat.zero_le _, Nat.zero_le _⟩) hS (fun q _ h => AF.mono hS.1 h) (fun q h => AF.mono hS.1 h) (fun x_25 ux_25 t H locs ht hvm hx_25 hB hz hk hS => ?_)
  have hH : HT g Ty G H := by rw [← ht]; rw [hx_25] at hB; exact hB
  obtain ⟨_, ⟨q_41, rfl, kq_27, kq_28, kq_29, kq_30, kq_31, kq_32, kq_33, kq_34, kq_35, kq_36, kq_37, kq_38, kq_39, kq_40⟩, o_c_26⟩ := hH h0 _ k_h0
  refine va_calli (va_runV (As := [.int x_25]) (rest := []) ⟨hx, hb, hml, hown, hts⟩ (c_X11_toldWithSize l g Ty G H.size h0 x_25 k_h0) (cwV 1 hts (gwV mw_915 mw_917 mw_22 mw_76 mw_918) rfl rfl rfl hv_X11_toldWithSize ⟨Nat.le_of_ble_eq_true rfl, Nat.le_of_ble_eq_true rfl⟩) ⟨PcT_blind, hg_recv hK o_c_26 rfl, PcT_pre hK hH⟩ rfl rfl hl.1 rfl (lv_room (Nat.le_of_ble_eq_true rfl)) dX11_fits_8 ⟨Nat.zero_le _, Nat.zero_le _⟩) hS (fun q _ h => AF.mono hS.1 h) (fun q h => AF.mono hS.1 h) (fun x_42 ux_42 t H locs ht hvm hx_42 hB hz hk hS => ?_)
  have hH : HT g Ty G H := by rw [← ht]; rw [hx_42] at hB; exact hB
  exact W.iret hx hb hr (fun t ht hWm => ⟨⟨x_42, (Ty, G), rfl, rfl, by show HT g Ty G t.heap; rw [ht]; exact hH⟩, hS.F ht⟩) hS.2.2 dX11_fits_11

set_option maxHeartbeats 4000000 in
set_option maxRecDepth 100000 in
theorem c_X11_asks (l : Launch) (g : Gx) (Ty : TyM) (G : Gh) (sz : Nat) (h0 : Nat) (k_h0 : Ty h0 = some (21, 0)) : Met l yX11_asks (wsG yX11_asks cX11_asks 2 (some .int)) ({ frames := 7, cells := 0, slots := 0, locals := 163 }) (PcO g Ty G sz [.ref h0]) (QwI g Ty sz (fun r u => u = (Ty, G))) 0 0 (AF Ty sz) := by
  refine Met.ofW (cc := cX11_asks) (maxL := 2) (ret := (some .int)) (by decide) rfl ?_
  intro p e s m args below meth c s₁ B hml hv
  obtain ⟨rfl, hsz, hK, hH, hO⟩ := hv
  subst hsz
  have hx := B.exec
  have hb := B.bytes
  have hr := B.returns
  have hts := atoms_spec (ws := (wsG yX11_asks cX11_asks 2 (some .int))) B.pre
  have hG : ∀ w ∈ GW, w.before ([.ref h0] : List Value).toArray s = true := fun w h => hts w (List.mem_cons_of_mem _ h)
  have hown : s.vm.findClass RX11 = some m.cls := findClass_of_methodNamed B.named
  have hlocks := B.notSynchronized
  have hl := lv_entry [.ref h0] (n := 2) (Nat.le_of_ble_eq_true rfl)
  rw [lg_entry_eq]
  generalize (lg_sl [.ref h0] ++ List.replicate (2 - (lg_sl [.ref h0]).length) Slot.unset).toArray = ls at hl ⊢
  have hl : lv_has ls 2 [(0, .ref h0)] := hl
  have hS : va_S (AF Ty s.heap.size) s.heap s.heap [] := va_S.rf
  refine lv_aload_n hx hb dX11_asks_0 rfl (lv_at hl 0 rfl) ?_
  obtain ⟨_, ⟨q_16, rfl, kq_2, kq_3, kq_4, kq_5, kq_6, kq_7, kq_8, kq_9, kq_10, kq_11, kq_12, kq_13, kq_14, kq_15⟩, o_c_1⟩ := hH h0 _ k_h0
  refine hg_get hx hb hG igX11 hown hK o_c_1 rfl 11 (by decide) (hG _ mw_368) rfl dX11_asks_1 ?_
  obtain ⟨_, ⟨q_18, q_19, q_20, q_22, q_23, rfl, kq_18, kq_19, kq_20, kq_22, rq_21, t_24⟩, o_c_17⟩ := hH (g.2.2 11) _ kq_13
  refine va_calli (va_runV (As := []) (rest := []) ⟨hx, hb, hml, hown, hts⟩ (c_X3_bestQuestion l g Ty G s.heap.size (g.2.2 11) kq_13) (cwV 0 hts (gwV mw_1051 mw_1052 mw_1053 mw_85 mw_1054) rfl rfl rfl hv_X3_bestQuestion ⟨Nat.le_of_ble_eq_true rfl, Nat.le_of_ble_eq_true rfl⟩) ⟨PcO_blind, hg_recv hK o_c_17 rfl, PcO_pre hK hH hO hS⟩ rfl rfl hl.1 rfl (lv_room (Nat.le_of_ble_eq_true rfl)) dX11_asks_4 ⟨Nat.zero_le _, Nat.zero_le _⟩) hS (fun q _ h => AF.mono hS.1 h) (fun q h => AF.mono hS.1 h) (fun x_25 ux_25 t H locs ht hvm hx_25 hB hz hk hS => ?_)
  have hH : HT g Ty G H := by rw [← ht]; rw [hx_25] at hB; exact hB
  refine lv_istore_n (lv' := [(1, .int x_25), (0, .ref h0)]) hx hb dX11_asks_7 rfl hl (by decide) rfl (fun ls hl => ?_)
  refine lv_iload_n hx hb dX11_asks_8 rfl (lv_at hl 0 rfl) ?_
  refine lv_iconst (v := (-1)) hx hb dX11_asks_9 (by decide) ?_
  refine lv_icmp_ne (tgt := 16) hx hb dX11_asks_10 (by decide) (fun c_26 => ?_) (fun c_26 => ?_)
  · refine lv_aload_n hx hb dX11_asks_16 rfl (lv_at hl 1 rfl) ?_
    obtain ⟨_, ⟨q_42, rfl, kq_28, kq_29, kq_30, kq_31, kq_32, kq_33, kq_34, kq_35, kq_36, kq_37, kq_38, kq_39, kq_40, kq_41⟩, o_c_27⟩ := hH h0 _ k_h0
    refine hg_get hx hb hG igX11 hown hK o_c_27 rfl 5 (by decide) (hG _ mw_362) rfl dX11_asks_17 ?_
    refine lv_aload_n hx hb dX11_asks_20 rfl (lv_at hl 1 rfl) ?_
    refine hg_get hx hb hG igX11 hown hK o_c_27 rfl 11 (by decide) (hG _ mw_368) rfl dX11_asks_21 ?_
    obtain ⟨_, ⟨q_44, q_45, q_46, q_48, q_49, rfl, kq_44, kq_45, kq_46, kq_48, rq_47, t_50⟩, o_c_43⟩ := hH (g.2.2 11) _ kq_39
    refine hg_getN hx hb hG igX3 hown hK o_c_43 rfl 5 (by decide) ((hK.2.1 _ nwf_301).use rfl) rfl dX11_asks_24 ?_
    refine lv_i2l hx hb dX11_asks_27 rfl ?_
    refine lv_topl (fun u_51 eu_51 => ?_)
    obtain ⟨_, ⟨q_53, q_54, rfl, kq_53, rq_54⟩, o_c_52⟩ := hH (g.2.2 5) _ kq_33
    refine va_callv (va_runV (As := [.long u_51]) (rest := []) ⟨hx, hb, hml, hown, hts⟩ (c_X7_tell l g Ty G H.size (g.2.2 5) u_51 kq_33) (cwV 1 hts (gwV mw_583 mw_584 mw_585 mw_80 mw_586) rfl rfl rfl hv_X7_tell ⟨Nat.le_of_ble_eq_true rfl, Nat.le_of_ble_eq_true rfl⟩) ⟨PcT_blind, hg_recv hK o_c_52 rfl, PcT_pre hK hH⟩ rfl rfl hl.1 rfl (lv_room (Nat.le_of_ble_eq_true rfl)) dX11_asks_28 ⟨Nat.zero_le _, Nat.zero_le _⟩) hS (fun q _ h => AF.mono hS.1 h) (fun q h => AF.mono hS.1 h) (fun ux_55 t H locs ht hvm hx_55 hB hz hk hS => ?_)
    have hH : HT g Ty G H := by rw [← ht]; rw [hx_55] at hB; exact hB
    refine lv_iload_n hx hb dX11_asks_31 rfl (lv_at hl 0 rfl) ?_
    exact W.iret hx hb hr (fun t ht hWm => ⟨⟨x_25, (Ty, G), rfl, rfl, by show HT g Ty G t.heap; rw [ht]; exact hH⟩, hS.F ht⟩) hS.2.2 dX11_asks_32
  · have r_56 : rgI (-1) (-1) x_25 := rg_w (rg_eq rl_m1 c_26) (by decide) (by decide)
    refine lv_bipush (v := (-2)) hx hb dX11_asks_13 (by decide) ?_
    exact W.iret hx hb hr (fun t ht hWm => ⟨⟨(-2), (Ty, G), rfl, rfl, by show HT g Ty G t.heap; rw [ht]; exact hH⟩, hS.F ht⟩) hS.2.2 dX11_asks_15

set_option maxHeartbeats 4000000 in
set_option maxRecDepth 100000 in
theorem c_X11_laws (l : Launch) (g : Gx) (Ty : TyM) (G : Gh) (sz : Nat) (h0 : Nat) (k_h0 : Ty h0 = some (21, 0)) : Met l yX11_laws (wsG yX11_laws cX11_laws 4 (some .int)) ({ frames := 3, cells := 0, slots := 0, locals := 71 }) (PcT g Ty G sz [.ref h0]) (QwI g Ty sz (fun r u => u = (Ty, G))) 0 0 (AF Ty sz) := by
  refine Met.ofW (cc := cX11_laws) (maxL := 4) (ret := (some .int)) (by decide) rfl ?_
  intro p e s m args below meth c s₁ B hml hv
  obtain ⟨rfl, hsz, hK, hH⟩ := hv
  subst hsz
  have hx := B.exec
  have hb := B.bytes
  have hr := B.returns
  have hts := atoms_spec (ws := (wsG yX11_laws cX11_laws 4 (some .int))) B.pre
  have hG : ∀ w ∈ GW, w.before ([.ref h0] : List Value).toArray s = true := fun w h => hts w (List.mem_cons_of_mem _ h)
  have hown : s.vm.findClass RX11 = some m.cls := findClass_of_methodNamed B.named
  have hlocks := B.notSynchronized
  have hl := lv_entry [.ref h0] (n := 4) (Nat.le_of_ble_eq_true rfl)
  rw [lg_entry_eq]
  generalize (lg_sl [.ref h0] ++ List.replicate (4 - (lg_sl [.ref h0]).length) Slot.unset).toArray = ls at hl ⊢
  have hl : lv_has ls 4 [(0, .ref h0)] := hl
  have hS : va_S (AF Ty s.heap.size) s.heap s.heap [] := va_S.rf
  have L_66 : ∀ (H : Heap) (locs : List Loc) (y1_66 : Int64) (ls : Array Slot), lv_has ls 4 [(1, .long y1_66)] → HT g Ty G H → va_S (AF Ty s.heap.size) s.heap H locs → Wm p l e (wsG yX11_laws cX11_laws 4 (some .int)) ({ frames := 3, cells := 0, slots := 0, locals := 71 }) s m [.ref h0] below meth c H locs (0) (0) (QwI g Ty s.heap.size (fun r u => u = (Ty, G))) 0 0 (AF Ty s.heap.size) (F0 m 66 ls []) := by
    intro H locs y1_66 ls hl hH hS
    refine lv_lload_n hx hb dX11_laws_66 rfl (lv_at hl 0 rfl) ?_
    refine vp_callSi (W.runS (As := [.long y1_66]) (rest := []) ⟨hx, hb, hml, hown, hts⟩ (c_J13_bitCount_95d88 l g Ty G y1_66 ) (cwSx 1 hts hG (gwC mw_1092) mw_100 mw_1090 mw_1091 rfl rfl rfl hd_J13_bitCount_95d88 ⟨Nat.le_of_ble_eq_true rfl, Nat.le_of_ble_eq_true rfl⟩) ⟨PcH_blind, PcH_pre hK hH⟩ rfl rfl hl.1 rfl (lv_room (Nat.le_of_ble_eq_true rfl)) dX11_laws_67 ⟨Nat.zero_le _, Nat.zero_le _⟩) (fun x_1 hx_1 => ?_)
    exact W.iret hx hb hr (fun t ht hWm => ⟨⟨x_1, (Ty, G), rfl, rfl, by show HT g Ty G t.heap; rw [ht]; exact hH⟩, hS.F ht⟩) hS.2.2 dX11_laws_70
  have L_17 : ∀ (n : Nat) (H : Heap) (locs : List Loc) (y1_17 : Int64) (y3_17 : Int32) (ls : Array Slot), rgI (0) (35) y3_17 → (35 - (y3_17).toInt).toNat < n → lv_has ls 4 [(0, .ref h0), (1, .long y1_17), (3, .int y3_17)] → HT g Ty G H → va_S (AF Ty s.heap.size) s.heap H locs → Wm p l e (wsG yX11_laws cX11_laws 4 (some .int)) ({ frames := 3, cells := 0, slots := 0, locals := 71 }) s m [.ref h0] below meth c H locs (0) (0) (QwI g Ty s.heap.size (fun r u => u = (Ty, G))) 0 0 (AF Ty s.heap.size) (F0 m 17 ls []) := by
    intro n
    induction n with
    | zero => intro H locs y1_17 y3_17 ls ry3_17 hm; exact absurd hm (Nat.not_lt_zero _)
    | succ n ih_17 =>
      intro H locs y1_17 y3_17 ls ry3_17 hm_17 hl hH hS
      have L_60 : ∀ (H : Heap) (locs : List Loc) (ls : Array Slot), rgI (0) (34) y3_17 → lv_has ls 4 [(0, .ref h0), (1, .long y1_17), (3, .int y3_17)] → HT g Ty G H → va_S (AF Ty s.heap.size) s.heap H locs → Wm p l e (wsG yX11_laws cX11_laws 4 (some .int)) ({ frames := 3, cells := 0, slots := 0, locals := 71 }) s m [.ref h0] below meth c H locs (0) (0) (QwI g Ty s.heap.size (fun r u => u = (Ty, G))) 0 0 (AF Ty s.heap.size) (F0 m 60 ls []) := by
        intro H locs ls ry3_60 hl hH hS
        obtain ⟨x_2, ex_2⟩ : ∃ y : Int32, y = y3_17 + 1 := ⟨_, rfl⟩
        have rx_2 : rgI (1) (35) x_2 := by rw [ex_2]; exact rg_w (rg_add ry3_60 rl_1 (by decide) (by decide)) (by decide) (by decide)
        have qx_2 : x_2.toInt = (y3_17 : Int32).toInt + 1 := by rw [ex_2]; exact rg_addE ry3_60 rl_1 (by decide) (by decide)
        refine lv_iinc (v := x_2) (lv' := [(3, .int x_2), (0, .ref h0), (1, .long y1_17)]) hx hb dX11_laws_60 hl (k := 2) rfl (by rw [ex_2]; rfl) (by decide) rfl (fun ls hl => ?_)
        refine lv_goto (tgt := 17) hx hb dX11_laws_63 (by decide) ?_
        exact ih_17 H locs y1_17 x_2 ls (rg_w rx_2 (by decide) (by decide)) (by have h1 := qx_2; have h2 := ry3_60.1; have h3 := ry3_60.2; have h4 := hm_17; omega) (lv_sub hl [1, 2, 0] rfl) hH hS
      refine lv_iload_n hx hb dX11_laws_17 rfl (lv_at hl 2 rfl) ?_
      refine lv_bipush (v := 35) hx hb dX11_laws_18 (by decide) ?_
      refine lv_icmp_ge (tgt := 66) hx hb dX11_laws_20 (by decide) (fun c_3 => ?_) (fun c_3 => ?_)
      · have r_4 : rgI (35) (35) y3_17 := rg_w (rg_leR rl_35 ry3_17 c_3) (by decide) (by decide)
        exact L_66 H locs y1_17 ls (lv_sub hl [1] rfl) hH hS
      · have r_5 : rgI (0) (34) y3_17 := rg_w (rg_ltL ry3_17 rl_35 (nle_lt c_3)) (by decide) (by decide)
        refine lv_aload_n hx hb dX11_laws_23 rfl (lv_at hl 0 rfl) ?_
        obtain ⟨_, ⟨q_21, rfl, kq_7, kq_8, kq_9, kq_10, kq_11, kq_12, kq_13, kq_14, kq_15, kq_16, kq_17, kq_18, kq_19, kq_20⟩, o_c_6⟩ := hH h0 _ k_h0
        refine hg_get hx hb hG igX11 hown hK o_c_6 rfl 5 (by decide) (hG _ mw_362) rfl dX11_laws_24 ?_
        obtain ⟨_, ⟨q_23, q_24, rfl, kq_23, rq_24⟩, o_c_22⟩ := hH (g.2.2 5) _ kq_12
        refine hg_getN hx hb hG igX7 hown hK o_c_22 rfl 1 (by decide) ((hK.2.1 _ nwf_189).use rfl) rfl dX11_laws_27 ?_
        refine lv_if_ne (tgt := 66) hx hb dX11_laws_30 (by decide) (fun c_25 => ?_) (fun c_25 => ?_)
        · have r_26 : rgI (1) (24) q_24 := rg_w (rg_neL rq_24 rl_0 c_25) (by decide) (by decide)
          exact L_66 H locs y1_17 ls (lv_sub hl [1] rfl) hH hS
        · have r_27 : rgI (0) (0) q_24 := rg_w (rg_eq rl_0 c_25) (by decide) (by decide)
          refine lv_lload_n hx hb dX11_laws_33 rfl (lv_at hl 1 rfl) ?_
          refine lv_lconst (v := 1) hx hb dX11_laws_34 (by decide) ?_
          refine lv_iload_n hx hb dX11_laws_35 rfl (lv_at hl 2 rfl) ?_
          refine lv_lshl hx hb dX11_laws_36 rfl ?_
          refine lv_topl (fun u_28 eu_28 => ?_)
          refine lv_land hx hb dX11_laws_37 ?_
          refine lv_topl (fun u_29 eu_29 => ?_)
          refine lv_lconst (v := 0) hx hb dX11_laws_38 (by decide) ?_
          refine W.lcmp hx hb dX11_laws_39 ?_
          refine lv_topi (fun x_30 ex_30 => ?_)
          refine lv_if_eq (tgt := 60) hx hb dX11_laws_40 (by decide) (fun c_31 => ?_) (fun c_31 => ?_)
          · have r_32 : rgI (0) (0) x_30 := rg_w (rg_eq rl_0 c_31) (by decide) (by decide)
            exact L_60 H locs ls r_5 (lv_sub hl [0, 1, 2] rfl) hH hS
          · refine lv_aload_n hx hb dX11_laws_43 rfl (lv_at hl 0 rfl) ?_
            refine hg_get hx hb hG igX11 hown hK o_c_6 rfl 5 (by decide) (hG _ mw_362) rfl dX11_laws_44 ?_
            refine lv_iload_n hx hb dX11_laws_47 rfl (lv_at hl 2 rfl) ?_
            refine vp_callSi (W.runS (As := [.int y3_17]) (rest := [.ref (g.2.2 5)]) ⟨hx, hb, hml, hown, hts⟩ (c_X5_farthest l g Ty G y3_17 ) (cwSx 1 hts hG (gwC mw_1083) mw_86 mw_1088 mw_1082 rfl rfl rfl hd_X5_farthest ⟨Nat.le_of_ble_eq_true rfl, Nat.le_of_ble_eq_true rfl⟩) ⟨PcH_blind, PcH_pre hK hH⟩ rfl rfl hl.1 rfl (lv_room (Nat.le_of_ble_eq_true rfl)) dX11_laws_48 ⟨Nat.zero_le _, Nat.zero_le _⟩) (fun x_33 hx_33 => ?_)
            refine lv_i2l hx hb dX11_laws_51 rfl ?_
            refine lv_topl (fun u_34 eu_34 => ?_)
            refine lv_iload_n hx hb dX11_laws_52 rfl (lv_at hl 2 rfl) ?_
            refine vp_callSi (W.runS (As := [.int y3_17]) (rest := [.long u_34, .ref (g.2.2 5)]) ⟨hx, hb, hml, hown, hts⟩ (c_X5_fewest l g Ty G y3_17 ) (cwSx 1 hts hG (gwC mw_1086) mw_86 mw_1089 mw_1085 rfl rfl rfl hd_X5_fewest ⟨Nat.le_of_ble_eq_true rfl, Nat.le_of_ble_eq_true rfl⟩) ⟨PcH_blind, PcH_pre hK hH⟩ rfl rfl hl.1 rfl (lv_room (Nat.le_of_ble_eq_true rfl)) dX11_laws_53 ⟨Nat.zero_le _, Nat.zero_le _⟩) (fun x_35 hx_35 => ?_)
            refine lv_i2l hx hb dX11_laws_56 rfl ?_
            refine lv_topl (fun u_36 eu_36 => ?_)
            refine va_callv (va_runV (As := [.long u_34, .long u_36]) (rest := []) ⟨hx, hb, hml, hown, hts⟩ (c_X7_tellTwo l g Ty G H.size (g.2.2 5) u_34 u_36 kq_12) (cwV 2 hts (gwV mw_753 mw_754 mw_755 mw_80 mw_756) rfl rfl rfl hv_X7_tellTwo ⟨Nat.le_of_ble_eq_true rfl, Nat.le_of_ble_eq_true rfl⟩) ⟨PcT_blind, hg_recv hK o_c_22 rfl, PcT_pre hK hH⟩ rfl rfl hl.1 rfl (lv_room (Nat.le_of_ble_eq_true rfl)) dX11_laws_57 ⟨Nat.zero_le _, Nat.zero_le _⟩) hS (fun q _ h => AF.mono hS.1 h) (fun q h => AF.mono hS.1 h) (fun ux_37 t H locs ht hvm hx_37 hB hz hk hS => ?_)
            have hH : HT g Ty G H := by rw [← ht]; rw [hx_37] at hB; exact hB
            exact L_60 H locs ls r_5 (lv_sub hl [0, 1, 2] rfl) hH hS
  refine lv_aload_n hx hb dX11_laws_0 rfl (lv_at hl 0 rfl) ?_
  obtain ⟨_, ⟨q_53, rfl, kq_39, kq_40, kq_41, kq_42, kq_43, kq_44, kq_45, kq_46, kq_47, kq_48, kq_49, kq_50, kq_51, kq_52⟩, o_c_38⟩ := hH h0 _ k_h0
  refine hg_get hx hb hG igX11 hown hK o_c_38 rfl 12 (by decide) (hG _ mw_369) rfl dX11_laws_1 ?_
  obtain ⟨_, ⟨q_55, q_56, q_57, q_59, rfl, kq_55, kq_56, kq_57, rq_58, t_60⟩, o_c_54⟩ := hH (g.2.2 12) _ kq_51
  refine vp_callSl (W.runV (As := []) (rest := []) ⟨hx, hb, hml, hown, hts⟩ (c_X5_fitting l g Ty G (g.2.2 12) kq_51) (cwV 0 hts (gwV mw_1073 mw_1074 mw_1075 mw_86 mw_1076) rfl rfl rfl hv_X5_fitting ⟨Nat.le_of_ble_eq_true rfl, Nat.le_of_ble_eq_true rfl⟩) ⟨PcH_blind, hg_recv hK o_c_54 rfl, PcH_pre hK hH⟩ rfl rfl hl.1 rfl (lv_room (Nat.le_of_ble_eq_true rfl)) dX11_laws_4 ⟨Nat.zero_le _, Nat.zero_le _⟩) (fun x_61 hx_61 => ?_)
  refine lv_lstore_n (lv' := [(1, .long x_61), (0, .ref h0)]) hx hb dX11_laws_7 rfl hl (by decide) rfl (fun ls hl => ?_)
  refine lv_aload_n hx hb dX11_laws_8 rfl (lv_at hl 1 rfl) ?_
  refine hg_get hx hb hG igX11 hown hK o_c_38 rfl 5 (by decide) (hG _ mw_362) rfl dX11_laws_9 ?_
  obtain ⟨_, ⟨q_63, q_64, rfl, kq_63, rq_64⟩, o_c_62⟩ := hH (g.2.2 5) _ kq_44
  refine va_callv (va_runV (As := []) (rest := []) ⟨hx, hb, hml, hown, hts⟩ (c_X7_clear l g Ty G s.heap.size (g.2.2 5) kq_44) (cwV 0 hts (gwV mw_932 mw_588 mw_589 mw_80 mw_590) rfl rfl rfl hv_X7_clear ⟨Nat.le_of_ble_eq_true rfl, Nat.le_of_ble_eq_true rfl⟩) ⟨PcT_blind, hg_recv hK o_c_62 rfl, PcT_pre hK hH⟩ rfl rfl hl.1 rfl (lv_room (Nat.le_of_ble_eq_true rfl)) dX11_laws_12 ⟨Nat.zero_le _, Nat.zero_le _⟩) hS (fun q _ h => AF.mono hS.1 h) (fun q h => AF.mono hS.1 h) (fun ux_65 t H locs ht hvm hx_65 hB hz hk hS => ?_)
  have hH : HT g Ty G H := by rw [← ht]; rw [hx_65] at hB; exact hB
  refine lv_iconst (v := 0) hx hb dX11_laws_15 (by decide) ?_
  refine lv_istore_n (lv' := [(3, .int 0), (1, .long x_61), (0, .ref h0)]) hx hb dX11_laws_16 rfl hl (by decide) rfl (fun ls hl => ?_)
  exact L_17 _ H locs x_61 0 ls (rg_w rl_0 (by decide) (by decide)) (Nat.lt_succ_self _) (lv_sub hl [2, 1, 0] rfl) hH hS

set_option maxHeartbeats 4000000 in
set_option maxRecDepth 100000 in
theorem c_X11_looks (l : Launch) (g : Gx) (Ty : TyM) (G : Gh) (sz : Nat) (h0 : Nat) (k_h0 : Ty h0 = some (21, 0)) : Met l yX11_looks (wsG yX11_looks cX11_looks 2 (some .int)) ({ frames := 4, cells := 0, slots := 0, locals := 98 }) (PcT g Ty G sz [.ref h0]) (QwI g Ty sz (fun r u => u = (Ty, G))) 0 0 (AF Ty sz) := by
  refine Met.ofW (cc := cX11_looks) (maxL := 2) (ret := (some .int)) (by decide) rfl ?_
  intro p e s m args below meth c s₁ B hml hv
  obtain ⟨rfl, hsz, hK, hH⟩ := hv
  subst hsz
  have hx := B.exec
  have hb := B.bytes
  have hr := B.returns
  have hts := atoms_spec (ws := (wsG yX11_looks cX11_looks 2 (some .int))) B.pre
  have hG : ∀ w ∈ GW, w.before ([.ref h0] : List Value).toArray s = true := fun w h => hts w (List.mem_cons_of_mem _ h)
  have hown : s.vm.findClass RX11 = some m.cls := findClass_of_methodNamed B.named
  have hlocks := B.notSynchronized
  have hl := lv_entry [.ref h0] (n := 2) (Nat.le_of_ble_eq_true rfl)
  rw [lg_entry_eq]
  generalize (lg_sl [.ref h0] ++ List.replicate (2 - (lg_sl [.ref h0]).length) Slot.unset).toArray = ls at hl ⊢
  have hl : lv_has ls 2 [(0, .ref h0)] := hl
  have hS : va_S (AF Ty s.heap.size) s.heap s.heap [] := va_S.rf
  refine lv_aload_n hx hb dX11_looks_0 rfl (lv_at hl 0 rfl) ?_
  obtain ⟨_, ⟨q_16, rfl, kq_2, kq_3, kq_4, kq_5, kq_6, kq_7, kq_8, kq_9, kq_10, kq_11, kq_12, kq_13, kq_14, kq_15⟩, o_c_1⟩ := hH h0 _ k_h0
  refine hg_get hx hb hG igX11 hown hK o_c_1 rfl 12 (by decide) (hG _ mw_369) rfl dX11_looks_1 ?_
  obtain ⟨_, ⟨q_18, q_19, q_20, q_22, rfl, kq_18, kq_19, kq_20, rq_21, t_23⟩, o_c_17⟩ := hH (g.2.2 12) _ kq_14
  refine va_calli (va_runV (As := []) (rest := []) ⟨hx, hb, hml, hown, hts⟩ (c_X5_bestLook l g Ty G s.heap.size (g.2.2 12) kq_14) (cwV 0 hts (gwV mw_1100 mw_1101 mw_1102 mw_86 mw_1103) rfl rfl rfl hv_X5_bestLook ⟨Nat.le_of_ble_eq_true rfl, Nat.le_of_ble_eq_true rfl⟩) ⟨PcT_blind, hg_recv hK o_c_17 rfl, PcT_pre hK hH⟩ rfl rfl hl.1 rfl (lv_room (Nat.le_of_ble_eq_true rfl)) dX11_looks_4 ⟨Nat.zero_le _, Nat.zero_le _⟩) hS (fun q _ h => AF.mono hS.1 h) (fun q h => AF.mono hS.1 h) (fun x_24 ux_24 t H locs ht hvm hx_24 hB hz hk hS => ?_)
  have hH : HT g Ty G H := by rw [← ht]; rw [hx_24] at hB; exact hB
  refine lv_istore_n (lv' := [(1, .int x_24), (0, .ref h0)]) hx hb dX11_looks_7 rfl hl (by decide) rfl (fun ls hl => ?_)
  refine lv_iload_n hx hb dX11_looks_8 rfl (lv_at hl 0 rfl) ?_
  refine lv_iconst (v := (-1)) hx hb dX11_looks_9 (by decide) ?_
  refine lv_icmp_ne (tgt := 16) hx hb dX11_looks_10 (by decide) (fun c_25 => ?_) (fun c_25 => ?_)
  · refine lv_aload_n hx hb dX11_looks_16 rfl (lv_at hl 1 rfl) ?_
    obtain ⟨_, ⟨q_41, rfl, kq_27, kq_28, kq_29, kq_30, kq_31, kq_32, kq_33, kq_34, kq_35, kq_36, kq_37, kq_38, kq_39, kq_40⟩, o_c_26⟩ := hH h0 _ k_h0
    refine hg_get hx hb hG igX11 hown hK o_c_26 rfl 5 (by decide) (hG _ mw_362) rfl dX11_looks_17 ?_
    refine lv_aload_n hx hb dX11_looks_20 rfl (lv_at hl 1 rfl) ?_
    refine hg_get hx hb hG igX11 hown hK o_c_26 rfl 12 (by decide) (hG _ mw_369) rfl dX11_looks_21 ?_
    obtain ⟨_, ⟨q_43, q_44, q_45, q_47, rfl, kq_43, kq_44, kq_45, rq_46, t_48⟩, o_c_42⟩ := hH (g.2.2 12) _ kq_39
    refine hg_getN hx hb hG igX5 hown hK o_c_42 rfl 4 (by decide) ((hK.2.1 _ nwf_327).use rfl) rfl dX11_looks_24 ?_
    refine lv_i2l hx hb dX11_looks_27 rfl ?_
    refine lv_topl (fun u_49 eu_49 => ?_)
    obtain ⟨_, ⟨q_51, q_52, rfl, kq_51, rq_52⟩, o_c_50⟩ := hH (g.2.2 5) _ kq_32
    refine va_callv (va_runV (As := [.long u_49]) (rest := []) ⟨hx, hb, hml, hown, hts⟩ (c_X7_tell l g Ty G H.size (g.2.2 5) u_49 kq_32) (cwV 1 hts (gwV mw_583 mw_584 mw_585 mw_80 mw_586) rfl rfl rfl hv_X7_tell ⟨Nat.le_of_ble_eq_true rfl, Nat.le_of_ble_eq_true rfl⟩) ⟨PcT_blind, hg_recv hK o_c_50 rfl, PcT_pre hK hH⟩ rfl rfl hl.1 rfl (lv_room (Nat.le_of_ble_eq_true rfl)) dX11_looks_28 ⟨Nat.zero_le _, Nat.zero_le _⟩) hS (fun q _ h => AF.mono hS.1 h) (fun q h => AF.mono hS.1 h) (fun ux_53 t H locs ht hvm hx_53 hB hz hk hS => ?_)
    have hH : HT g Ty G H := by rw [← ht]; rw [hx_53] at hB; exact hB
    refine lv_iload_n hx hb dX11_looks_31 rfl (lv_at hl 0 rfl) ?_
    exact W.iret hx hb hr (fun t ht hWm => ⟨⟨x_24, (Ty, G), rfl, rfl, by show HT g Ty G t.heap; rw [ht]; exact hH⟩, hS.F ht⟩) hS.2.2 dX11_looks_32
  · have r_54 : rgI (-1) (-1) x_24 := rg_w (rg_eq rl_m1 c_25) (by decide) (by decide)
    refine lv_bipush (v := (-2)) hx hb dX11_looks_13 (by decide) ?_
    exact W.iret hx hb hr (fun t ht hWm => ⟨⟨(-2), (Ty, G), rfl, rfl, by show HT g Ty G t.heap; rw [ht]; exact hH⟩, hS.F ht⟩) hS.2.2 dX11_looks_15

set_option maxHeartbeats 4000000 in
set_option maxRecDepth 100000 in
theorem c_X11_odds (l : Launch) (g : Gx) (Ty : TyM) (G : Gh) (sz : Nat) (h0 : Nat) (a0 : Int32) (a1 : Int32) (a2 : Int32) (k_h0 : Ty h0 = some (21, 0)) : Met l yX11_odds (wsG yX11_odds cX11_odds 5 (some .int)) ({ frames := 3, cells := 0, slots := 0, locals := 71 }) (PcT g Ty G sz [.ref h0, .int a0, .int a1, .int a2]) (QwI g Ty sz (fun r u => u = (Ty, G))) 0 0 (AF Ty sz) := by
  refine Met.ofW (cc := cX11_odds) (maxL := 5) (ret := (some .int)) (by decide) rfl ?_
  intro p e s m args below meth c s₁ B hml hv
  obtain ⟨rfl, hsz, hK, hH⟩ := hv
  subst hsz
  have hx := B.exec
  have hb := B.bytes
  have hr := B.returns
  have hts := atoms_spec (ws := (wsG yX11_odds cX11_odds 5 (some .int))) B.pre
  have hG : ∀ w ∈ GW, w.before ([.ref h0, .int a0, .int a1, .int a2] : List Value).toArray s = true := fun w h => hts w (List.mem_cons_of_mem _ h)
  have hown : s.vm.findClass RX11 = some m.cls := findClass_of_methodNamed B.named
  have hlocks := B.notSynchronized
  have hl := lv_entry [.ref h0, .int a0, .int a1, .int a2] (n := 5) (Nat.le_of_ble_eq_true rfl)
  rw [lg_entry_eq]
  generalize (lg_sl [.ref h0, .int a0, .int a1, .int a2] ++ List.replicate (5 - (lg_sl [.ref h0, .int a0, .int a1, .int a2]).length) Slot.unset).toArray = ls at hl ⊢
  have hl : lv_has ls 5 [(0, .ref h0), (1, .int a0), (2, .int a1), (3, .int a2)] := hl
  have hS : va_S (AF Ty s.heap.size) s.heap s.heap [] := va_S.rf
  have L_31 : ∀ (H : Heap) (locs : List Loc) (ls : Array Slot), lv_has ls 5 [] → HT g Ty G H → va_S (AF Ty s.heap.size) s.heap H locs → Wm p l e (wsG yX11_odds cX11_odds 5 (some .int)) ({ frames := 3, cells := 0, slots := 0, locals := 71 }) s m [.ref h0, .int a0, .int a1, .int a2] below meth c H locs (0) (0) (QwI g Ty s.heap.size (fun r u => u = (Ty, G))) 0 0 (AF Ty s.heap.size) (F0 m 31 ls []) := by
    intro H locs ls hl hH hS
    refine lv_iconst (v := (-1)) hx hb dX11_odds_31 (by decide) ?_
    exact W.iret hx hb hr (fun t ht hWm => ⟨⟨(-1), (Ty, G), rfl, rfl, by show HT g Ty G t.heap; rw [ht]; exact hH⟩, hS.F ht⟩) hS.2.2 dX11_odds_32
  refine lv_aload_n hx hb dX11_odds_0 rfl (lv_at hl 0 rfl) ?_
  obtain ⟨_, ⟨q_16, rfl, kq_2, kq_3, kq_4, kq_5, kq_6, kq_7, kq_8, kq_9, kq_10, kq_11, kq_12, kq_13, kq_14, kq_15⟩, o_c_1⟩ := hH h0 _ k_h0
  refine hg_get hx hb hG igX11 hown hK o_c_1 rfl 0 (by decide) (hG _ mw_357) rfl dX11_odds_1 ?_
  refine lv_iload_n hx hb dX11_odds_4 rfl (lv_at hl 1 rfl) ?_
  obtain ⟨_, ⟨q_18, q_19, q_20, q_21, q_22, q_23, q_24, rfl, kq_18, kq_19, kq_20⟩, o_c_17⟩ := hH (g.2.2 0) _ kq_2
  refine vp_callSi (W.runV (As := [.int a0]) (rest := []) ⟨hx, hb, hml, hown, hts⟩ (c_X10_has l g Ty G (g.2.2 0) a0 kq_2) (cwV 1 hts (gwV mw_603 mw_604 mw_605 mw_77 mw_606) rfl rfl rfl hv_X10_has ⟨Nat.le_of_ble_eq_true rfl, Nat.le_of_ble_eq_true rfl⟩) ⟨PcH_blind, hg_recv hK o_c_17 rfl, PcH_pre hK hH⟩ rfl rfl hl.1 rfl (lv_room (Nat.le_of_ble_eq_true rfl)) dX11_odds_5 ⟨Nat.zero_le _, Nat.zero_le _⟩) (fun x_25 hx_25 => ?_)
  have rx_25 : rgI (0) (1) x_25 := hx_25.1
  refine lv_if_eq (tgt := 31) hx hb dX11_odds_8 (by decide) (fun c_26 => ?_) (fun c_26 => ?_)
  · have r_27 : rgI (0) (0) x_25 := rg_w (rg_eq rl_0 c_26) (by decide) (by decide)
    exact L_31 s.heap [] ls (lv_sub hl [] rfl) hH hS
  · have r_28 : rgI (1) (1) x_25 := rg_w (rg_neL rx_25 rl_0 c_26) (by decide) (by decide)
    have r_29 : rgI (0) (23) a0 := rg_w (hx_25.2.resolve_left c_26) (by decide) (by decide)
    refine lv_iload_n hx hb dX11_odds_11 rfl (lv_at hl 2 rfl) ?_
    refine lv_if_lt (tgt := 31) hx hb dX11_odds_12 (by decide) (fun c_30 => ?_) (fun c_30 => ?_)
    · have r_31 : rgI (-2147483648) (-1) a1 := rg_w (rg_ltL (rg_top a1) rl_0 c_30) (by decide) (by decide)
      exact L_31 s.heap [] ls (lv_sub hl [] rfl) hH hS
    · have r_32 : rgI (0) (2147483647) a1 := rg_w (rg_leR rl_0 (rg_top a1) (nlt_le c_30)) (by decide) (by decide)
      refine lv_iload_n hx hb dX11_odds_15 rfl (lv_at hl 2 rfl) ?_
      refine lv_bipush (v := 16) hx hb dX11_odds_16 (by decide) ?_
      refine lv_icmp_gt (tgt := 31) hx hb dX11_odds_18 (by decide) (fun c_33 => ?_) (fun c_33 => ?_)
      · have r_34 : rgI (17) (2147483647) a1 := rg_w (rg_ltR rl_16 r_32 c_33) (by decide) (by decide)
        exact L_31 s.heap [] ls (lv_sub hl [] rfl) hH hS
      · have r_35 : rgI (0) (16) a1 := rg_w (rg_leL r_32 rl_16 (nlt_le c_33)) (by decide) (by decide)
        refine lv_iload_n hx hb dX11_odds_21 rfl (lv_at hl 3 rfl) ?_
        refine lv_if_lt (tgt := 31) hx hb dX11_odds_22 (by decide) (fun c_36 => ?_) (fun c_36 => ?_)
        · have r_37 : rgI (-2147483648) (-1) a2 := rg_w (rg_ltL (rg_top a2) rl_0 c_36) (by decide) (by decide)
          exact L_31 s.heap [] ls (lv_sub hl [] rfl) hH hS
        · have r_38 : rgI (0) (2147483647) a2 := rg_w (rg_leR rl_0 (rg_top a2) (nlt_le c_36)) (by decide) (by decide)
          refine lv_iload_n hx hb dX11_odds_25 rfl (lv_at hl 3 rfl) ?_
          refine lv_bipush (v := 10) hx hb dX11_odds_26 (by decide) ?_
          refine lv_icmp_le (tgt := 33) hx hb dX11_odds_28 (by decide) (fun c_39 => ?_) (fun c_39 => ?_)
          · have r_40 : rgI (0) (10) a2 := rg_w (rg_leL r_38 rl_10 c_39) (by decide) (by decide)
            refine lv_aload_n hx hb dX11_odds_33 rfl (lv_at hl 0 rfl) ?_
            refine hg_get hx hb hG igX11 hown hK o_c_1 rfl 0 (by decide) (hG _ mw_357) rfl dX11_odds_34 ?_
            refine lv_iload_n hx hb dX11_odds_37 rfl (lv_at hl 1 rfl) ?_
            refine vp_callSi (W.runV (As := [.int a0]) (rest := []) ⟨hx, hb, hml, hown, hts⟩ (c_X10_spreadOf l g Ty G (g.2.2 0) a0 kq_2) (cwV 1 hts (gwV mw_914 mw_650 mw_651 mw_77 mw_652) rfl rfl rfl hv_X10_spreadOf ⟨Nat.le_of_ble_eq_true rfl, Nat.le_of_ble_eq_true rfl⟩) ⟨PcH_blind, hg_recv hK o_c_17 rfl, PcH_pre hK hH⟩ rfl rfl hl.1 rfl (lv_room (Nat.le_of_ble_eq_true rfl)) dX11_odds_38 ⟨Nat.zero_le _, Nat.zero_le _⟩) (fun x_41 hx_41 => ?_)
            refine vp_callSi (W.runS (As := [.int x_41]) (rest := []) ⟨hx, hb, hml, hown, hts⟩ (c_J6_bitCount_0f7a4 l g Ty G x_41 ) (cwSx 1 hts hG (gwC mw_620) mw_99 mw_618 mw_619 rfl rfl rfl hd_J6_bitCount_0f7a4 ⟨Nat.le_of_ble_eq_true rfl, Nat.le_of_ble_eq_true rfl⟩) ⟨PcH_blind, PcH_pre hK hH⟩ rfl rfl hl.1 rfl (lv_room (Nat.le_of_ble_eq_true rfl)) dX11_odds_41 ⟨Nat.zero_le _, Nat.zero_le _⟩) (fun x_42 hx_42 => ?_)
            refine lv_iconst (v := 1) hx hb dX11_odds_44 (by decide) ?_
            refine lv_isub hx hb dX11_odds_45 ?_
            refine lv_topi (fun x_43 ex_43 => ?_)
            refine lv_istore (lv' := [(4, .int x_43), (0, .ref h0), (1, .int a0), (2, .int a1), (3, .int a2)]) hx hb dX11_odds_46 hl (by decide) rfl (fun ls hl => ?_)
            refine lv_iload hx hb dX11_odds_48 (lv_at hl 0 rfl) ?_
            refine lv_bipush (v := 16) hx hb dX11_odds_50 (by decide) ?_
            refine lv_icmp_le (tgt := 57) hx hb dX11_odds_52 (by decide) (fun c_44 => ?_) (fun c_44 => ?_)
            · have r_45 : rgI (-2147483648) (16) x_43 := rg_w (rg_leL (rg_top x_43) rl_16 c_44) (by decide) (by decide)
              refine lv_aload_n hx hb dX11_odds_57 rfl (lv_at hl 1 rfl) ?_
              refine hg_get hx hb hG igX11 hown hK o_c_1 rfl 13 (by decide) (hG _ mw_370) rfl dX11_odds_58 ?_
              refine lv_iload hx hb dX11_odds_61 (lv_at hl 0 rfl) ?_
              refine lv_iload_n hx hb dX11_odds_63 rfl (lv_at hl 3 rfl) ?_
              refine lv_iload_n hx hb dX11_odds_64 rfl (lv_at hl 4 rfl) ?_
              obtain ⟨_, ⟨q_47, q_48, q_49, rfl, kq_47⟩, o_c_46⟩ := hH (g.2.2 13) _ kq_15
              refine va_callv (va_runV (As := [.int x_43, .int a1, .int a2]) (rest := []) ⟨hx, hb, hml, hown, hts⟩ (c_X1_reckon l g Ty G s.heap.size (g.2.2 13) x_43 a1 a2 kq_15) (cwV 3 hts (gwV mw_1111 mw_1112 mw_1113 mw_87 mw_1114) rfl rfl rfl hv_X1_reckon ⟨Nat.le_of_ble_eq_true rfl, Nat.le_of_ble_eq_true rfl⟩) ⟨PcT_blind, hg_recv hK o_c_46 rfl, PcT_pre hK hH⟩ rfl rfl hl.1 rfl (lv_room (Nat.le_of_ble_eq_true rfl)) dX11_odds_65 ⟨Nat.zero_le _, Nat.zero_le _⟩) hS (fun q _ h => AF.mono hS.1 h) (fun q h => AF.mono hS.1 h) (fun ux_50 t H locs ht hvm hx_50 hB hz hk hS => ?_)
              have hH : HT g Ty G H := by rw [← ht]; rw [hx_50] at hB; exact hB
              refine lv_aload_n hx hb dX11_odds_68 rfl (lv_at hl 1 rfl) ?_
              obtain ⟨_, ⟨q_66, rfl, kq_52, kq_53, kq_54, kq_55, kq_56, kq_57, kq_58, kq_59, kq_60, kq_61, kq_62, kq_63, kq_64, kq_65⟩, o_c_51⟩ := hH h0 _ k_h0
              refine hg_get hx hb hG igX11 hown hK o_c_51 rfl 5 (by decide) (hG _ mw_362) rfl dX11_odds_69 ?_
              refine lv_aload_n hx hb dX11_odds_72 rfl (lv_at hl 1 rfl) ?_
              refine hg_get hx hb hG igX11 hown hK o_c_51 rfl 13 (by decide) (hG _ mw_370) rfl dX11_odds_73 ?_
              obtain ⟨_, ⟨q_68, q_69, q_70, rfl, kq_68⟩, o_c_67⟩ := hH (g.2.2 13) _ kq_65
              refine hg_getN hx hb hG igX1 hown hK o_c_67 rfl 1 (by decide) ((hK.2.1 _ nwf_347).use rfl) rfl dX11_odds_76 ?_
              refine lv_aload_n hx hb dX11_odds_79 rfl (lv_at hl 1 rfl) ?_
              refine hg_get hx hb hG igX11 hown hK o_c_51 rfl 13 (by decide) (hG _ mw_370) rfl dX11_odds_80 ?_
              refine hg_getN hx hb hG igX1 hown hK o_c_67 rfl 2 (by decide) ((hK.2.1 _ nwf_349).use rfl) rfl dX11_odds_83 ?_
              obtain ⟨_, ⟨q_72, q_73, rfl, kq_72, rq_73⟩, o_c_71⟩ := hH (g.2.2 5) _ kq_57
              refine va_callv (va_runV (As := [.long q_69, .long q_70]) (rest := []) ⟨hx, hb, hml, hown, hts⟩ (c_X7_tellTwo l g Ty G H.size (g.2.2 5) q_69 q_70 kq_57) (cwV 2 hts (gwV mw_753 mw_754 mw_755 mw_80 mw_756) rfl rfl rfl hv_X7_tellTwo ⟨Nat.le_of_ble_eq_true rfl, Nat.le_of_ble_eq_true rfl⟩) ⟨PcT_blind, hg_recv hK o_c_71 rfl, PcT_pre hK hH⟩ rfl rfl hl.1 rfl (lv_room (Nat.le_of_ble_eq_true rfl)) dX11_odds_86 ⟨Nat.zero_le _, Nat.zero_le _⟩) hS (fun q _ h => AF.mono hS.1 h) (fun q h => AF.mono hS.1 h) (fun ux_74 t H locs ht hvm hx_74 hB hz hk hS => ?_)
              have hH : HT g Ty G H := by rw [← ht]; rw [hx_74] at hB; exact hB
              refine lv_iconst (v := 0) hx hb dX11_odds_89 (by decide) ?_
              exact W.iret hx hb hr (fun t ht hWm => ⟨⟨0, (Ty, G), rfl, rfl, by show HT g Ty G t.heap; rw [ht]; exact hH⟩, hS.F ht⟩) hS.2.2 dX11_odds_90
            · have r_75 : rgI (17) (2147483647) x_43 := rg_w (rg_ltR rl_16 (rg_top x_43) (nle_lt c_44)) (by decide) (by decide)
              refine lv_iconst (v := (-1)) hx hb dX11_odds_55 (by decide) ?_
              exact W.iret hx hb hr (fun t ht hWm => ⟨⟨(-1), (Ty, G), rfl, rfl, by show HT g Ty G t.heap; rw [ht]; exact hH⟩, hS.F ht⟩) hS.2.2 dX11_odds_56
          · have r_76 : rgI (11) (2147483647) a2 := rg_w (rg_ltR rl_10 r_38 (nle_lt c_39)) (by decide) (by decide)
            exact L_31 s.heap [] ls (lv_sub hl [] rfl) hH hS

set_option maxHeartbeats 4000000 in
set_option maxRecDepth 100000 in
theorem c_X11_gain (l : Launch) (g : Gx) (Ty : TyM) (G : Gh) (a0 : Int32) (a1 : Int32) (a2 : Int32) : Met l yX11_gain (wsG yX11_gain cX11_gain 3 (some .int)) ({ frames := 0, cells := 0, slots := 0, locals := 0 }) (PcH g Ty G [.int a0, .int a1, .int a2]) (vp_Si (fun r => True)) 0 0 (fun _ => False) := by
  refine Met.ofW (cc := cX11_gain) (maxL := 3) (ret := (some .int)) (by decide) rfl ?_
  intro p e s m args below meth c s₁ B hml hv
  obtain ⟨rfl, hK, hH⟩ := hv
  have hx := B.exec
  have hb := B.bytes
  have hr := B.returns
  have hts := atoms_spec (ws := (wsG yX11_gain cX11_gain 3 (some .int))) B.pre
  have hG : ∀ w ∈ GW, w.before ([.int a0, .int a1, .int a2] : List Value).toArray s = true := fun w h => hts w (List.mem_cons_of_mem _ h)
  have hown : s.vm.findClass RX11 = some m.cls := findClass_of_methodNamed B.named
  have hlocks := B.notSynchronized
  have hl := lv_entry [.int a0, .int a1, .int a2] (n := 3) (Nat.le_of_ble_eq_true rfl)
  rw [lg_entry_eq]
  generalize (lg_sl [.int a0, .int a1, .int a2] ++ List.replicate (3 - (lg_sl [.int a0, .int a1, .int a2]).length) Slot.unset).toArray = ls at hl ⊢
  have hl : lv_has ls 3 [(0, .int a0), (1, .int a1), (2, .int a2)] := hl
  refine lv_iload_n hx hb dX11_gain_0 rfl (lv_at hl 1 rfl) ?_
  refine lv_iload_n hx hb dX11_gain_1 rfl (lv_at hl 2 rfl) ?_
  refine lv_icmp_le (tgt := 9) hx hb dX11_gain_2 (by decide) (fun c_1 => ?_) (fun c_1 => ?_)
  · refine lv_iload_n hx hb dX11_gain_9 rfl (lv_at hl 1 rfl) ?_
    refine lv_iload_n hx hb dX11_gain_10 rfl (lv_at hl 2 rfl) ?_
    refine lv_icmp_ge (tgt := 24) hx hb dX11_gain_11 (by decide) (fun c_2 => ?_) (fun c_2 => ?_)
    · refine lv_iload_n hx hb dX11_gain_24 rfl (lv_at hl 0 rfl) ?_
      refine lv_iconst (v := 3) hx hb dX11_gain_25 (by decide) ?_
      refine lv_idiv hx hb dX11_gain_26 (by decide) ?_
      refine lv_topi (fun x_3 ex_3 => ?_)
      refine lv_iload_n hx hb dX11_gain_27 rfl (lv_at hl 1 rfl) ?_
      refine lv_isub hx hb dX11_gain_28 ?_
      refine lv_topi (fun x_4 ex_4 => ?_)
      exact W.iret hx hb hr (fun t ht hW => ⟨x_4, rfl, trivial, ht⟩) (fun q h => by cases h) dX11_gain_29
    · have r_5 : rgI (-2147483648) (2147483646) a1 := rg_w (rg_ltL (rg_top a1) (rg_top a2) (nle_lt c_2)) (by decide) (by decide)
      have r_6 : rgI (-2147483647) (2147483647) a2 := rg_w (rg_ltR (rg_top a1) (rg_top a2) (nle_lt c_2)) (by decide) (by decide)
      refine lv_iload_n hx hb dX11_gain_14 rfl (lv_at hl 0 rfl) ?_
      refine lv_iconst (v := 2) hx hb dX11_gain_15 (by decide) ?_
      refine lv_idiv hx hb dX11_gain_16 (by decide) ?_
      refine lv_topi (fun x_7 ex_7 => ?_)
      refine lv_iconst (v := 2) hx hb dX11_gain_17 (by decide) ?_
      refine lv_iload_n hx hb dX11_gain_18 rfl (lv_at hl 1 rfl) ?_
      refine lv_imul hx hb dX11_gain_19 ?_
      refine lv_topi (fun x_8 ex_8 => ?_)
      refine lv_isub hx hb dX11_gain_20 ?_
      refine lv_topi (fun x_9 ex_9 => ?_)
      refine lv_goto (tgt := 29) hx hb dX11_gain_21 (by decide) ?_
      exact W.iret hx hb hr (fun t ht hW => ⟨x_9, rfl, trivial, ht⟩) (fun q h => by cases h) dX11_gain_29
  · have r_10 : rgI (-2147483648) (2147483646) a2 := rg_w (rg_ltL (rg_top a2) (rg_top a1) (nle_lt c_1)) (by decide) (by decide)
    have r_11 : rgI (-2147483647) (2147483647) a1 := rg_w (rg_ltR (rg_top a2) (rg_top a1) (nle_lt c_1)) (by decide) (by decide)
    refine lv_iload_n hx hb dX11_gain_5 rfl (lv_at hl 0 rfl) ?_
    refine lv_iload_n hx hb dX11_gain_6 rfl (lv_at hl 1 rfl) ?_
    refine lv_isub hx hb dX11_gain_7 ?_
    refine lv_topi (fun x_12 ex_12 => ?_)
    exact W.iret hx hb hr (fun t ht hW => ⟨x_12, rfl, trivial, ht⟩) (fun q h => by cases h) dX11_gain_8

set_option maxHeartbeats 4000000 in
set_option maxRecDepth 100000 in
theorem c_X11_isBest (l : Launch) (g : Gx) (Ty : TyM) (G : Gh) (a0 : Int32) (a1 : Int32) (a2 : Int32) : Met l yX11_isBest (wsG yX11_isBest cX11_isBest 4 (some .boolean)) ({ frames := 1, cells := 0, slots := 0, locals := 22 }) (PcH g Ty G [.int a0, .int a1, .int a2]) (vp_Si (fun r => rgI (0) (1) r)) 0 0 (fun _ => False) := by
  refine Met.ofW (cc := cX11_isBest) (maxL := 4) (ret := (some .boolean)) (by decide) rfl ?_
  intro p e s m args below meth c s₁ B hml hv
  obtain ⟨rfl, hK, hH⟩ := hv
  have hx := B.exec
  have hb := B.bytes
  have hr := B.returns
  have hts := atoms_spec (ws := (wsG yX11_isBest cX11_isBest 4 (some .boolean))) B.pre
  have hG : ∀ w ∈ GW, w.before ([.int a0, .int a1, .int a2] : List Value).toArray s = true := fun w h => hts w (List.mem_cons_of_mem _ h)
  have hown : s.vm.findClass RX11 = some m.cls := findClass_of_methodNamed B.named
  have hlocks := B.notSynchronized
  have hl := lv_entry [.int a0, .int a1, .int a2] (n := 4) (Nat.le_of_ble_eq_true rfl)
  rw [lg_entry_eq]
  generalize (lg_sl [.int a0, .int a1, .int a2] ++ List.replicate (4 - (lg_sl [.int a0, .int a1, .int a2]).length) Slot.unset).toArray = ls at hl ⊢
  have hl : lv_has ls 4 [(0, .int a0), (1, .int a1), (2, .int a2)] := hl
  have L_2 : ∀ (n : Nat) (y3_2 : Int32) (ls : Array Slot), rgI (0) (10) y3_2 → (10 - (y3_2).toInt).toNat < n → lv_has ls 4 [(0, .int a0), (1, .int a1), (2, .int a2), (3, .int y3_2)] → Wm p l e (wsG yX11_isBest cX11_isBest 4 (some .boolean)) ({ frames := 1, cells := 0, slots := 0, locals := 22 }) s m [.int a0, .int a1, .int a2] below meth c s.heap [] (0) (0) (vp_Si (fun r => rgI (0) (1) r)) 0 0 (fun _ => False) (F0 m 2 ls []) := by
    intro n
    induction n with
    | zero => intro y3_2 ls ry3_2 hm; exact absurd hm (Nat.not_lt_zero _)
    | succ n ih_2 =>
      intro y3_2 ls ry3_2 hm_2 hl
      refine lv_iload_n hx hb dX11_isBest_2 rfl (lv_at hl 3 rfl) ?_
      refine lv_bipush (v := 9) hx hb dX11_isBest_3 (by decide) ?_
      refine lv_icmp_gt (tgt := 31) hx hb dX11_isBest_5 (by decide) (fun c_1 => ?_) (fun c_1 => ?_)
      · have r_2 : rgI (10) (10) y3_2 := rg_w (rg_ltR rl_9 ry3_2 c_1) (by decide) (by decide)
        refine lv_iconst (v := 1) hx hb dX11_isBest_31 (by decide) ?_
        exact W.zret hx hb hr rfl (fun t ht hW => ⟨1, rfl, rg_w rl_1 (by decide) (by decide), ht⟩) (fun q h => by cases h) dX11_isBest_32
      · have r_3 : rgI (0) (9) y3_2 := rg_w (rg_leL ry3_2 rl_9 (nlt_le c_1)) (by decide) (by decide)
        refine lv_iload_n hx hb dX11_isBest_8 rfl (lv_at hl 0 rfl) ?_
        refine lv_iload_n hx hb dX11_isBest_9 rfl (lv_at hl 3 rfl) ?_
        refine lv_iload_n hx hb dX11_isBest_10 rfl (lv_at hl 2 rfl) ?_
        refine vp_callSi (W.runS (As := [.int a0, .int y3_2, .int a2]) (rest := []) ⟨hx, hb, hml, hown, hts⟩ (c_X11_gain l g Ty G a0 y3_2 a2 ) (cwSx 3 hts hG (gwC mw_1140) mw_76 mw_1138 mw_1139 rfl rfl rfl hd_X11_gain ⟨Nat.le_of_ble_eq_true rfl, Nat.le_of_ble_eq_true rfl⟩) ⟨PcH_blind, PcH_pre hK hH⟩ rfl rfl hl.1 rfl (lv_room (Nat.le_of_ble_eq_true rfl)) dX11_isBest_11 ⟨Nat.zero_le _, Nat.zero_le _⟩) (fun x_4 hx_4 => ?_)
        refine lv_iload_n hx hb dX11_isBest_14 rfl (lv_at hl 0 rfl) ?_
        refine lv_iload_n hx hb dX11_isBest_15 rfl (lv_at hl 1 rfl) ?_
        refine lv_iload_n hx hb dX11_isBest_16 rfl (lv_at hl 2 rfl) ?_
        refine vp_callSi (W.runS (As := [.int a0, .int a1, .int a2]) (rest := [.int x_4]) ⟨hx, hb, hml, hown, hts⟩ (c_X11_gain l g Ty G a0 a1 a2 ) (cwSx 3 hts hG (gwC mw_1140) mw_76 mw_1138 mw_1139 rfl rfl rfl hd_X11_gain ⟨Nat.le_of_ble_eq_true rfl, Nat.le_of_ble_eq_true rfl⟩) ⟨PcH_blind, PcH_pre hK hH⟩ rfl rfl hl.1 rfl (lv_room (Nat.le_of_ble_eq_true rfl)) dX11_isBest_17 ⟨Nat.zero_le _, Nat.zero_le _⟩) (fun x_5 hx_5 => ?_)
        refine lv_icmp_le (tgt := 25) hx hb dX11_isBest_20 (by decide) (fun c_6 => ?_) (fun c_6 => ?_)
        · obtain ⟨x_7, ex_7⟩ : ∃ y : Int32, y = y3_2 + 1 := ⟨_, rfl⟩
          have rx_7 : rgI (1) (10) x_7 := by rw [ex_7]; exact rg_w (rg_add r_3 rl_1 (by decide) (by decide)) (by decide) (by decide)
          have qx_7 : x_7.toInt = (y3_2 : Int32).toInt + 1 := by rw [ex_7]; exact rg_addE r_3 rl_1 (by decide) (by decide)
          refine lv_iinc (v := x_7) (lv' := [(3, .int x_7), (0, .int a0), (1, .int a1), (2, .int a2)]) hx hb dX11_isBest_25 hl (k := 3) rfl (by rw [ex_7]; rfl) (by decide) rfl (fun ls hl => ?_)
          refine lv_goto (tgt := 2) hx hb dX11_isBest_28 (by decide) ?_
          exact ih_2 x_7 ls (rg_w rx_7 (by decide) (by decide)) (by have h1 := qx_7; have h2 := r_3.1; have h3 := r_3.2; have h4 := hm_2; omega) (lv_sub hl [1, 2, 3, 0] rfl)
        · have r_8 : rgI (-2147483648) (2147483646) x_5 := rg_w (rg_ltL (rg_top x_5) (rg_top x_4) (nle_lt c_6)) (by decide) (by decide)
          have r_9 : rgI (-2147483647) (2147483647) x_4 := rg_w (rg_ltR (rg_top x_5) (rg_top x_4) (nle_lt c_6)) (by decide) (by decide)
          refine lv_iconst (v := 0) hx hb dX11_isBest_23 (by decide) ?_
          exact W.zret hx hb hr rfl (fun t ht hW => ⟨0, rfl, rg_w rl_0 (by decide) (by decide), ht⟩) (fun q h => by cases h) dX11_isBest_24
  refine lv_iconst (v := 0) hx hb dX11_isBest_0 (by decide) ?_
  refine lv_istore_n (lv' := [(3, .int 0), (0, .int a0), (1, .int a1), (2, .int a2)]) hx hb dX11_isBest_1 rfl hl (by decide) rfl (fun ls hl => ?_)
  exact L_2 _ 0 ls (rg_w rl_0 (by decide) (by decide)) (Nat.lt_succ_self _) (lv_sub hl [1, 2, 3, 0] rfl)

set_option maxHeartbeats 4000000 in
set_option maxRecDepth 100000 in
theorem c_X11_rests (l : Launch) (g : Gx) (Ty : TyM) (G : Gh) (sz : Nat) (h0 : Nat) (a0 : Int32) (k_h0 : Ty h0 = some (21, 0)) : Met l yX11_rests (wsG yX11_rests cX11_rests 5 (some .int)) ({ frames := 2, cells := 0, slots := 0, locals := 46 }) (PcT g Ty G sz [.ref h0, .int a0]) (QwI g Ty sz (fun r u => u = (Ty, G))) 0 0 (AF Ty sz) := by
  refine Met.ofW (cc := cX11_rests) (maxL := 5) (ret := (some .int)) (by decide) rfl ?_
  intro p e s m args below meth c s₁ B hml hv
  obtain ⟨rfl, hsz, hK, hH⟩ := hv
  subst hsz
  have hx := B.exec
  have hb := B.bytes
  have hr := B.returns
  have hts := atoms_spec (ws := (wsG yX11_rests cX11_rests 5 (some .int))) B.pre
  have hG : ∀ w ∈ GW, w.before ([.ref h0, .int a0] : List Value).toArray s = true := fun w h => hts w (List.mem_cons_of_mem _ h)
  have hown : s.vm.findClass RX11 = some m.cls := findClass_of_methodNamed B.named
  have hlocks := B.notSynchronized
  have hl := lv_entry [.ref h0, .int a0] (n := 5) (Nat.le_of_ble_eq_true rfl)
  rw [lg_entry_eq]
  generalize (lg_sl [.ref h0, .int a0] ++ List.replicate (5 - (lg_sl [.ref h0, .int a0]).length) Slot.unset).toArray = ls at hl ⊢
  have hl : lv_has ls 5 [(0, .ref h0), (1, .int a0)] := hl
  have hS : va_S (AF Ty s.heap.size) s.heap s.heap [] := va_S.rf
  have L_23 : ∀ (n : Nat) (H : Heap) (locs : List Loc) (y2_23 : Int32) (y3_23 : Int32) (ls : Array Slot), rgI (0) (20) a0 → rgI (0) (10) y3_23 → (10 - (y3_23).toInt).toNat < n → lv_has ls 5 [(0, .ref h0), (1, .int a0), (2, .int y2_23), (3, .int y3_23)] → HT g Ty G H → va_S (AF Ty s.heap.size) s.heap H locs → Wm p l e (wsG yX11_rests cX11_rests 5 (some .int)) ({ frames := 2, cells := 0, slots := 0, locals := 46 }) s m [.ref h0, .int a0] below meth c H locs (0) (0) (QwI g Ty s.heap.size (fun r u => u = (Ty, G))) 0 0 (AF Ty s.heap.size) (F0 m 23 ls []) := by
    intro n
    induction n with
    | zero => intro H locs y2_23 y3_23 ls ry1_23 ry3_23 hm; exact absurd hm (Nat.not_lt_zero _)
    | succ n ih_23 =>
      intro H locs y2_23 y3_23 ls ry1_23 ry3_23 hm_23 hl hH hS
      have L_32 : ∀ (n : Nat) (H : Heap) (locs : List Loc) (y2_32 : Int32) (y4_32 : Int32) (ls : Array Slot), rgI (0) (20) a0 → rgI (0) (9) y3_23 → rgI (0) (10) y4_32 → (10 - (y4_32).toInt).toNat < n → lv_has ls 5 [(0, .ref h0), (1, .int a0), (2, .int y2_32), (3, .int y3_23), (4, .int y4_32)] → HT g Ty G H → va_S (AF Ty s.heap.size) s.heap H locs → Wm p l e (wsG yX11_rests cX11_rests 5 (some .int)) ({ frames := 2, cells := 0, slots := 0, locals := 46 }) s m [.ref h0, .int a0] below meth c H locs (0) (0) (QwI g Ty s.heap.size (fun r u => u = (Ty, G))) 0 0 (AF Ty s.heap.size) (F0 m 32 ls []) := by
        intro n
        induction n with
        | zero => intro H locs y2_32 y4_32 ls ry1_32 ry3_32 ry4_32 hm; exact absurd hm (Nat.not_lt_zero _)
        | succ n ih_32 =>
          intro H locs y2_32 y4_32 ls ry1_32 ry3_32 ry4_32 hm_32 hl hH hS
          have L_79 : ∀ (H : Heap) (locs : List Loc) (y2_79 : Int32) (ls : Array Slot), rgI (0) (20) a0 → rgI (0) (9) y3_23 → rgI (0) (9) y4_32 → lv_has ls 5 [(0, .ref h0), (1, .int a0), (2, .int y2_79), (3, .int y3_23), (4, .int y4_32)] → HT g Ty G H → va_S (AF Ty s.heap.size) s.heap H locs → Wm p l e (wsG yX11_rests cX11_rests 5 (some .int)) ({ frames := 2, cells := 0, slots := 0, locals := 46 }) s m [.ref h0, .int a0] below meth c H locs (0) (0) (QwI g Ty s.heap.size (fun r u => u = (Ty, G))) 0 0 (AF Ty s.heap.size) (F0 m 79 ls []) := by
            intro H locs y2_79 ls ry1_79 ry3_79 ry4_79 hl hH hS
            obtain ⟨x_1, ex_1⟩ : ∃ y : Int32, y = y4_32 + 1 := ⟨_, rfl⟩
            have rx_1 : rgI (1) (10) x_1 := by rw [ex_1]; exact rg_w (rg_add ry4_79 rl_1 (by decide) (by decide)) (by decide) (by decide)
            have qx_1 : x_1.toInt = (y4_32 : Int32).toInt + 1 := by rw [ex_1]; exact rg_addE ry4_79 rl_1 (by decide) (by decide)
            refine lv_iinc (v := x_1) (lv' := [(4, .int x_1), (0, .ref h0), (1, .int a0), (2, .int y2_79), (3, .int y3_23)]) hx hb dX11_rests_79 hl (k := 4) rfl (by rw [ex_1]; rfl) (by decide) rfl (fun ls hl => ?_)
            refine lv_goto (tgt := 32) hx hb dX11_rests_82 (by decide) ?_
            exact ih_32 H locs y2_79 x_1 ls ry1_79 ry3_79 (rg_w rx_1 (by decide) (by decide)) (by have h1 := qx_1; have h2 := ry4_79.1; have h3 := ry4_79.2; have h4 := hm_32; omega) (lv_sub hl [1, 2, 3, 4, 0] rfl) hH hS
          refine lv_iload hx hb dX11_rests_32 (lv_at hl 4 rfl) ?_
          refine lv_bipush (v := 9) hx hb dX11_rests_34 (by decide) ?_
          refine lv_icmp_gt (tgt := 85) hx hb dX11_rests_36 (by decide) (fun c_2 => ?_) (fun c_2 => ?_)
          · have r_3 : rgI (10) (10) y4_32 := rg_w (rg_ltR rl_9 ry4_32 c_2) (by decide) (by decide)
            obtain ⟨x_4, ex_4⟩ : ∃ y : Int32, y = y3_23 + 1 := ⟨_, rfl⟩
            have rx_4 : rgI (1) (10) x_4 := by rw [ex_4]; exact rg_w (rg_add ry3_32 rl_1 (by decide) (by decide)) (by decide) (by decide)
            have qx_4 : x_4.toInt = (y3_23 : Int32).toInt + 1 := by rw [ex_4]; exact rg_addE ry3_32 rl_1 (by decide) (by decide)
            refine lv_iinc (v := x_4) (lv' := [(3, .int x_4), (0, .ref h0), (1, .int a0), (2, .int y2_32), (4, .int y4_32)]) hx hb dX11_rests_85 hl (k := 3) rfl (by rw [ex_4]; rfl) (by decide) rfl (fun ls hl => ?_)
            refine lv_goto (tgt := 23) hx hb dX11_rests_88 (by decide) ?_
            exact ih_23 H locs y2_32 x_4 ls ry1_32 (rg_w rx_4 (by decide) (by decide)) (by have h1 := qx_4; have h2 := ry3_32.1; have h3 := ry3_32.2; have h4 := hm_23; omega) (lv_sub hl [1, 2, 3, 0] rfl) hH hS
          · have r_5 : rgI (0) (9) y4_32 := rg_w (rg_leL ry4_32 rl_9 (nlt_le c_2)) (by decide) (by decide)
            refine lv_iload_n hx hb dX11_rests_39 rfl (lv_at hl 1 rfl) ?_
            refine lv_iload_n hx hb dX11_rests_40 rfl (lv_at hl 3 rfl) ?_
            refine lv_iload hx hb dX11_rests_41 (lv_at hl 4 rfl) ?_
            refine vp_callSi (W.runS (As := [.int a0, .int y3_23, .int y4_32]) (rest := []) ⟨hx, hb, hml, hown, hts⟩ (c_X11_isBest l g Ty G a0 y3_23 y4_32 ) (cwSx 3 hts hG (gwC mw_1137) mw_76 mw_1135 mw_1136 rfl rfl rfl hd_X11_isBest ⟨Nat.le_of_ble_eq_true rfl, Nat.le_of_ble_eq_true rfl⟩) ⟨PcH_blind, PcH_pre hK hH⟩ rfl rfl hl.1 rfl (lv_room (Nat.le_of_ble_eq_true rfl)) dX11_rests_43 ⟨Nat.zero_le _, Nat.zero_le _⟩) (fun x_6 hx_6 => ?_)
            have rx_6 : rgI (0) (1) x_6 := hx_6
            refine lv_if_eq (tgt := 79) hx hb dX11_rests_46 (by decide) (fun c_7 => ?_) (fun c_7 => ?_)
            · have r_8 : rgI (0) (0) x_6 := rg_w (rg_eq rl_0 c_7) (by decide) (by decide)
              exact L_79 H locs y2_32 ls ry1_32 ry3_32 r_5 (lv_sub hl [0, 1, 2, 3, 4] rfl) hH hS
            · have r_9 : rgI (1) (1) x_6 := rg_w (rg_neL rx_6 rl_0 c_7) (by decide) (by decide)
              refine lv_iload_n hx hb dX11_rests_49 rfl (lv_at hl 1 rfl) ?_
              refine lv_iload hx hb dX11_rests_50 (lv_at hl 4 rfl) ?_
              refine lv_iload_n hx hb dX11_rests_52 rfl (lv_at hl 3 rfl) ?_
              refine vp_callSi (W.runS (As := [.int a0, .int y4_32, .int y3_23]) (rest := []) ⟨hx, hb, hml, hown, hts⟩ (c_X11_isBest l g Ty G a0 y4_32 y3_23 ) (cwSx 3 hts hG (gwC mw_1137) mw_76 mw_1135 mw_1136 rfl rfl rfl hd_X11_isBest ⟨Nat.le_of_ble_eq_true rfl, Nat.le_of_ble_eq_true rfl⟩) ⟨PcH_blind, PcH_pre hK hH⟩ rfl rfl hl.1 rfl (lv_room (Nat.le_of_ble_eq_true rfl)) dX11_rests_53 ⟨Nat.zero_le _, Nat.zero_le _⟩) (fun x_10 hx_10 => ?_)
              have rx_10 : rgI (0) (1) x_10 := hx_10
              refine lv_if_eq (tgt := 79) hx hb dX11_rests_56 (by decide) (fun c_11 => ?_) (fun c_11 => ?_)
              · have r_12 : rgI (0) (0) x_10 := rg_w (rg_eq rl_0 c_11) (by decide) (by decide)
                exact L_79 H locs y2_32 ls ry1_32 ry3_32 r_5 (lv_sub hl [0, 1, 2, 3, 4] rfl) hH hS
              · have r_13 : rgI (1) (1) x_10 := rg_w (rg_neL rx_10 rl_0 c_11) (by decide) (by decide)
                obtain ⟨x_14, ex_14⟩ : ∃ y : Int32, y = y2_32 + 1 := ⟨_, rfl⟩
                refine lv_iinc (v := x_14) (lv' := [(2, .int x_14), (0, .ref h0), (1, .int a0), (3, .int y3_23), (4, .int y4_32)]) hx hb dX11_rests_59 hl (k := 2) rfl (by rw [ex_14]; rfl) (by decide) rfl (fun ls hl => ?_)
                refine lv_iload_n hx hb dX11_rests_62 rfl (lv_at hl 0 rfl) ?_
                refine lv_iconst (v := 1) hx hb dX11_rests_63 (by decide) ?_
                refine lv_icmp_ne (tgt := 79) hx hb dX11_rests_64 (by decide) (fun c_15 => ?_) (fun c_15 => ?_)
                · exact L_79 H locs x_14 ls ry1_32 ry3_32 r_5 (lv_sub hl [1, 2, 0, 3, 4] rfl) hH hS
                · have r_16 : rgI (1) (1) x_14 := rg_w (rg_eq rl_1 c_15) (by decide) (by decide)
                  refine lv_aload_n hx hb dX11_rests_67 rfl (lv_at hl 1 rfl) ?_
                  obtain ⟨_, ⟨q_32, rfl, kq_18, kq_19, kq_20, kq_21, kq_22, kq_23, kq_24, kq_25, kq_26, kq_27, kq_28, kq_29, kq_30, kq_31⟩, o_c_17⟩ := hH h0 _ k_h0
                  refine hg_get hx hb hG igX11 hown hK o_c_17 rfl 5 (by decide) (hG _ mw_362) rfl dX11_rests_68 ?_
                  refine lv_iload_n hx hb dX11_rests_71 rfl (lv_at hl 3 rfl) ?_
                  refine lv_i2l hx hb dX11_rests_72 rfl ?_
                  refine lv_topl (fun u_33 eu_33 => ?_)
                  refine lv_iload hx hb dX11_rests_73 (lv_at hl 4 rfl) ?_
                  refine lv_i2l hx hb dX11_rests_75 rfl ?_
                  refine lv_topl (fun u_34 eu_34 => ?_)
                  obtain ⟨_, ⟨q_36, q_37, rfl, kq_36, rq_37⟩, o_c_35⟩ := hH (g.2.2 5) _ kq_23
                  refine va_callv (va_runV (As := [.long u_33, .long u_34]) (rest := []) ⟨hx, hb, hml, hown, hts⟩ (c_X7_tellTwo l g Ty G H.size (g.2.2 5) u_33 u_34 kq_23) (cwV 2 hts (gwV mw_753 mw_754 mw_755 mw_80 mw_756) rfl rfl rfl hv_X7_tellTwo ⟨Nat.le_of_ble_eq_true rfl, Nat.le_of_ble_eq_true rfl⟩) ⟨PcT_blind, hg_recv hK o_c_35 rfl, PcT_pre hK hH⟩ rfl rfl hl.1 rfl (lv_room (Nat.le_of_ble_eq_true rfl)) dX11_rests_76 ⟨Nat.zero_le _, Nat.zero_le _⟩) hS (fun q _ h => AF.mono hS.1 h) (fun q h => AF.mono hS.1 h) (fun ux_38 t H locs ht hvm hx_38 hB hz hk hS => ?_)
                  have hH : HT g Ty G H := by rw [← ht]; rw [hx_38] at hB; exact hB
                  exact L_79 H locs x_14 ls ry1_32 ry3_32 r_5 (lv_sub hl [1, 2, 0, 3, 4] rfl) hH hS
      refine lv_iload_n hx hb dX11_rests_23 rfl (lv_at hl 3 rfl) ?_
      refine lv_bipush (v := 9) hx hb dX11_rests_24 (by decide) ?_
      refine lv_icmp_gt (tgt := 91) hx hb dX11_rests_26 (by decide) (fun c_39 => ?_) (fun c_39 => ?_)
      · have r_40 : rgI (10) (10) y3_23 := rg_w (rg_ltR rl_9 ry3_23 c_39) (by decide) (by decide)
        refine lv_iload_n hx hb dX11_rests_91 rfl (lv_at hl 2 rfl) ?_
        exact W.iret hx hb hr (fun t ht hWm => ⟨⟨y2_23, (Ty, G), rfl, rfl, by show HT g Ty G t.heap; rw [ht]; exact hH⟩, hS.F ht⟩) hS.2.2 dX11_rests_92
      · have r_41 : rgI (0) (9) y3_23 := rg_w (rg_leL ry3_23 rl_9 (nlt_le c_39)) (by decide) (by decide)
        refine lv_iconst (v := 0) hx hb dX11_rests_29 (by decide) ?_
        refine lv_istore (lv' := [(4, .int 0), (0, .ref h0), (1, .int a0), (2, .int y2_23), (3, .int y3_23)]) hx hb dX11_rests_30 hl (by decide) rfl (fun ls hl => ?_)
        exact L_32 _ H locs y2_23 0 ls ry1_23 r_41 (rg_w rl_0 (by decide) (by decide)) (Nat.lt_succ_self _) (lv_sub hl [1, 2, 3, 4, 0] rfl) hH hS
  have L_10 : ∀ (H : Heap) (locs : List Loc) (ls : Array Slot), lv_has ls 5 [] → HT g Ty G H → va_S (AF Ty s.heap.size) s.heap H locs → Wm p l e (wsG yX11_rests cX11_rests 5 (some .int)) ({ frames := 2, cells := 0, slots := 0, locals := 46 }) s m [.ref h0, .int a0] below meth c H locs (0) (0) (QwI g Ty s.heap.size (fun r u => u = (Ty, G))) 0 0 (AF Ty s.heap.size) (F0 m 10 ls []) := by
    intro H locs ls hl hH hS
    refine lv_iconst (v := (-1)) hx hb dX11_rests_10 (by decide) ?_
    exact W.iret hx hb hr (fun t ht hWm => ⟨⟨(-1), (Ty, G), rfl, rfl, by show HT g Ty G t.heap; rw [ht]; exact hH⟩, hS.F ht⟩) hS.2.2 dX11_rests_11
  refine lv_iload_n hx hb dX11_rests_0 rfl (lv_at hl 1 rfl) ?_
  refine lv_if_lt (tgt := 10) hx hb dX11_rests_1 (by decide) (fun c_42 => ?_) (fun c_42 => ?_)
  · have r_43 : rgI (-2147483648) (-1) a0 := rg_w (rg_ltL (rg_top a0) rl_0 c_42) (by decide) (by decide)
    exact L_10 s.heap [] ls (lv_sub hl [] rfl) hH hS
  · have r_44 : rgI (0) (2147483647) a0 := rg_w (rg_leR rl_0 (rg_top a0) (nlt_le c_42)) (by decide) (by decide)
    refine lv_iload_n hx hb dX11_rests_4 rfl (lv_at hl 1 rfl) ?_
    refine lv_bipush (v := 20) hx hb dX11_rests_5 (by decide) ?_
    refine lv_icmp_le (tgt := 12) hx hb dX11_rests_7 (by decide) (fun c_45 => ?_) (fun c_45 => ?_)
    · have r_46 : rgI (0) (20) a0 := rg_w (rg_leL r_44 rl_20 c_45) (by decide) (by decide)
      refine lv_iconst (v := 0) hx hb dX11_rests_12 (by decide) ?_
      refine lv_istore_n (lv' := [(2, .int 0), (0, .ref h0), (1, .int a0)]) hx hb dX11_rests_13 rfl hl (by decide) rfl (fun ls hl => ?_)
      refine lv_aload_n hx hb dX11_rests_14 rfl (lv_at hl 1 rfl) ?_
      obtain ⟨_, ⟨q_62, rfl, kq_48, kq_49, kq_50, kq_51, kq_52, kq_53, kq_54, kq_55, kq_56, kq_57, kq_58, kq_59, kq_60, kq_61⟩, o_c_47⟩ := hH h0 _ k_h0
      refine hg_get hx hb hG igX11 hown hK o_c_47 rfl 5 (by decide) (hG _ mw_362) rfl dX11_rests_15 ?_
      obtain ⟨_, ⟨q_64, q_65, rfl, kq_64, rq_65⟩, o_c_63⟩ := hH (g.2.2 5) _ kq_53
      refine va_callv (va_runV (As := []) (rest := []) ⟨hx, hb, hml, hown, hts⟩ (c_X7_clear l g Ty G s.heap.size (g.2.2 5) kq_53) (cwV 0 hts (gwV mw_932 mw_588 mw_589 mw_80 mw_590) rfl rfl rfl hv_X7_clear ⟨Nat.le_of_ble_eq_true rfl, Nat.le_of_ble_eq_true rfl⟩) ⟨PcT_blind, hg_recv hK o_c_63 rfl, PcT_pre hK hH⟩ rfl rfl hl.1 rfl (lv_room (Nat.le_of_ble_eq_true rfl)) dX11_rests_18 ⟨Nat.zero_le _, Nat.zero_le _⟩) hS (fun q _ h => AF.mono hS.1 h) (fun q h => AF.mono hS.1 h) (fun ux_66 t H locs ht hvm hx_66 hB hz hk hS => ?_)
      have hH : HT g Ty G H := by rw [← ht]; rw [hx_66] at hB; exact hB
      refine lv_iconst (v := 0) hx hb dX11_rests_21 (by decide) ?_
      refine lv_istore_n (lv' := [(3, .int 0), (2, .int 0), (0, .ref h0), (1, .int a0)]) hx hb dX11_rests_22 rfl hl (by decide) rfl (fun ls hl => ?_)
      exact L_23 _ H locs 0 0 ls r_46 (rg_w rl_0 (by decide) (by decide)) (Nat.lt_succ_self _) (lv_sub hl [2, 3, 1, 0] rfl) hH hS
    · have r_67 : rgI (21) (2147483647) a0 := rg_w (rg_ltR rl_20 r_44 (nle_lt c_45)) (by decide) (by decide)
      exact L_10 s.heap [] ls (lv_sub hl [] rfl) hH hS

set_option maxHeartbeats 4000000 in
set_option maxRecDepth 100000 in
theorem c_X11_broughtBy (l : Launch) (g : Gx) (Ty : TyM) (G : Gh) (sz : Nat) (h0 : Nat) (b0 : Nat) (a1 : Int32) (a2 : Int32) (k_h0 : Ty h0 = some (21, 0)) (k_b0 : Ty b0 = some (18, 0)) : Met l yX11_broughtBy (wsG yX11_broughtBy cX11_broughtBy 5 (some .int)) ({ frames := 5, cells := 0, slots := 0, locals := 117 }) (PcT g Ty G sz [.ref h0, .ref b0, .int a1, .int a2]) (QwI g Ty sz (fun r u => u = (Ty, G))) 0 0 (AF Ty sz) := by
  refine Met.ofW (cc := cX11_broughtBy) (maxL := 5) (ret := (some .int)) (by decide) rfl ?_
  intro p e s m args below meth c s₁ B hml hv
  obtain ⟨rfl, hsz, hK, hH⟩ := hv
  subst hsz
  have hx := B.exec
  have hb := B.bytes
  have hr := B.returns
  have hts := atoms_spec (ws := (wsG yX11_broughtBy cX11_broughtBy 5 (some .int))) B.pre
  have hG : ∀ w ∈ GW, w.before ([.ref h0, .ref b0, .int a1, .int a2] : List Value).toArray s = true := fun w h => hts w (List.mem_cons_of_mem _ h)
  have hown : s.vm.findClass RX11 = some m.cls := findClass_of_methodNamed B.named
  have hlocks := B.notSynchronized
  have hl := lv_entry [.ref h0, .ref b0, .int a1, .int a2] (n := 5) (Nat.le_of_ble_eq_true rfl)
  rw [lg_entry_eq]
  generalize (lg_sl [.ref h0, .ref b0, .int a1, .int a2] ++ List.replicate (5 - (lg_sl [.ref h0, .ref b0, .int a1, .int a2]).length) Slot.unset).toArray = ls at hl ⊢
  have hl : lv_has ls 5 [(0, .ref h0), (1, .ref b0), (2, .int a1), (3, .int a2)] := hl
  have hS : va_S (AF Ty s.heap.size) s.heap s.heap [] := va_S.rf
  refine lv_aload_n hx hb dX11_broughtBy_0 rfl (lv_at hl 0 rfl) ?_
  obtain ⟨_, ⟨q_16, rfl, kq_2, kq_3, kq_4, kq_5, kq_6, kq_7, kq_8, kq_9, kq_10, kq_11, kq_12, kq_13, kq_14, kq_15⟩, o_c_1⟩ := hH h0 _ k_h0
  refine hg_get hx hb hG igX11 hown hK o_c_1 rfl 8 (by decide) (hG _ mw_365) rfl dX11_broughtBy_1 ?_
  refine lv_aload_n hx hb dX11_broughtBy_4 rfl (lv_at hl 1 rfl) ?_
  refine lv_iload_n hx hb dX11_broughtBy_5 rfl (lv_at hl 2 rfl) ?_
  refine lv_iload_n hx hb dX11_broughtBy_6 rfl (lv_at hl 3 rfl) ?_
  obtain ⟨_, ⟨q_18, q_19, q_20, rfl, kq_18, kq_19, kq_20⟩, o_c_17⟩ := hH (g.2.2 8) _ kq_10
  refine va_calli (va_runV (As := [.ref b0, .int a1, .int a2]) (rest := []) ⟨hx, hb, hml, hown, hts⟩ (c_X0_parentsBy l g Ty G s.heap.size (g.2.2 8) b0 a1 a2 kq_10 k_b0) (cwV 3 hts (gwV mw_994 mw_637 mw_638 mw_82 mw_639) rfl rfl rfl hv_X0_parentsBy ⟨Nat.le_of_ble_eq_true rfl, Nat.le_of_ble_eq_true rfl⟩) ⟨PcT_blind, hg_recv hK o_c_17 rfl, PcT_pre hK hH⟩ rfl rfl hl.1 rfl (lv_room (Nat.le_of_ble_eq_true rfl)) dX11_broughtBy_7 ⟨Nat.zero_le _, Nat.zero_le _⟩) hS (fun q _ h => AF.mono hS.1 h) (fun q h => AF.mono hS.1 h) (fun x_21 ux_21 t H locs ht hvm hx_21 hB hz hk hS => ?_)
  have hH : HT g Ty G H := by rw [← ht]; rw [hx_21] at hB; exact hB
  refine lv_istore (lv' := [(4, .int x_21), (0, .ref h0), (1, .ref b0), (2, .int a1), (3, .int a2)]) hx hb dX11_broughtBy_10 hl (by decide) rfl (fun ls hl => ?_)
  refine lv_iload hx hb dX11_broughtBy_12 (lv_at hl 0 rfl) ?_
  refine lv_if_ge (tgt := 21) hx hb dX11_broughtBy_14 (by decide) (fun c_22 => ?_) (fun c_22 => ?_)
  · have r_23 : rgI (0) (2147483647) x_21 := rg_w (rg_leR rl_0 (rg_top x_21) c_22) (by decide) (by decide)
    refine lv_iload hx hb dX11_broughtBy_21 (lv_at hl 0 rfl) ?_
    refine vp_callSi (W.runS (As := [.int x_21]) (rest := []) ⟨hx, hb, hml, hown, hts⟩ (c_J6_bitCount_0f7a4 l g Ty G x_21 ) (cwSx 1 hts hG (gwC mw_620) mw_99 mw_618 mw_619 rfl rfl rfl hd_J6_bitCount_0f7a4 ⟨Nat.le_of_ble_eq_true rfl, Nat.le_of_ble_eq_true rfl⟩) ⟨PcH_blind, PcH_pre hK hH⟩ rfl rfl hl.1 rfl (lv_room (Nat.le_of_ble_eq_true rfl)) dX11_broughtBy_23 ⟨Nat.zero_le _, Nat.zero_le _⟩) (fun x_24 hx_24 => ?_)
    exact W.iret hx hb hr (fun t ht hWm => ⟨⟨x_24, (Ty, G), rfl, rfl, by show HT g Ty G t.heap; rw [ht]; exact hH⟩, hS.F ht⟩) hS.2.2 dX11_broughtBy_26
  · have r_25 : rgI (-2147483648) (-1) x_21 := rg_w (rg_ltL (rg_top x_21) rl_0 (nle_lt c_22)) (by decide) (by decide)
    refine lv_iconst (v := 0) hx hb dX11_broughtBy_17 (by decide) ?_
    refine lv_goto (tgt := 26) hx hb dX11_broughtBy_18 (by decide) ?_
    exact W.iret hx hb hr (fun t ht hWm => ⟨⟨0, (Ty, G), rfl, rfl, by show HT g Ty G t.heap; rw [ht]; exact hH⟩, hS.F ht⟩) hS.2.2 dX11_broughtBy_26

set_option maxHeartbeats 4000000 in
set_option maxRecDepth 100000 in
theorem c_X11_broughtBy_o (l : Launch) (g : Gx) (Ty : TyM) (G : Gh) (sz : Nat) (h0 : Nat) (b0 : Nat) (a1 : Int32) (a2 : Int32) (k_h0 : Ty h0 = some (21, 0)) (k_b0 : Ty b0 = some (23, 0)) : Met l yX11_broughtBy (wsG yX11_broughtBy cX11_broughtBy 5 (some .int)) ({ frames := 5, cells := 0, slots := 0, locals := 117 }) (PcT g Ty G sz [.ref h0, .ref b0, .int a1, .int a2]) (QwI g Ty sz (fun r u => u = (Ty, G))) 0 0 (AF Ty sz) := by
  refine Met.ofW (cc := cX11_broughtBy) (maxL := 5) (ret := (some .int)) (by decide) rfl ?_
  intro p e s m args below meth c s₁ B hml hv
  obtain ⟨rfl, hsz, hK, hH⟩ := hv
  subst hsz
  have hx := B.exec
  have hb := B.bytes
  have hr := B.returns
  have hts := atoms_spec (ws := (wsG yX11_broughtBy cX11_broughtBy 5 (some .int))) B.pre
  have hG : ∀ w ∈ GW, w.before ([.ref h0, .ref b0, .int a1, .int a2] : List Value).toArray s = true := fun w h => hts w (List.mem_cons_of_mem _ h)
  have hown : s.vm.findClass RX11 = some m.cls := findClass_of_methodNamed B.named
  have hlocks := B.notSynchronized
  have hl := lv_entry [.ref h0, .ref b0, .int a1, .int a2] (n := 5) (Nat.le_of_ble_eq_true rfl)
  rw [lg_entry_eq]
  generalize (lg_sl [.ref h0, .ref b0, .int a1, .int a2] ++ List.replicate (5 - (lg_sl [.ref h0, .ref b0, .int a1, .int a2]).length) Slot.unset).toArray = ls at hl ⊢
  have hl : lv_has ls 5 [(0, .ref h0), (1, .ref b0), (2, .int a1), (3, .int a2)] := hl
  have hS : va_S (AF Ty s.heap.size) s.heap s.heap [] := va_S.rf
  refine lv_aload_n hx hb dX11_broughtBy_0 rfl (lv_at hl 0 rfl) ?_
  obtain ⟨_, ⟨q_16, rfl, kq_2, kq_3, kq_4, kq_5, kq_6, kq_7, kq_8, kq_9, kq_10, kq_11, kq_12, kq_13, kq_14, kq_15⟩, o_c_1⟩ := hH h0 _ k_h0
  refine hg_get hx hb hG igX11 hown hK o_c_1 rfl 8 (by decide) (hG _ mw_365) rfl dX11_broughtBy_1 ?_
  refine lv_aload_n hx hb dX11_broughtBy_4 rfl (lv_at hl 1 rfl) ?_
  refine lv_iload_n hx hb dX11_broughtBy_5 rfl (lv_at hl 2 rfl) ?_
  refine lv_iload_n hx hb dX11_broughtBy_6 rfl (lv_at hl 3 rfl) ?_
  obtain ⟨_, ⟨q_18, q_19, q_20, rfl, kq_18, kq_19, kq_20⟩, o_c_17⟩ := hH (g.2.2 8) _ kq_10
  refine va_calli (va_runV (As := [.ref b0, .int a1, .int a2]) (rest := []) ⟨hx, hb, hml, hown, hts⟩ (c_X0_parentsBy_o l g Ty G s.heap.size (g.2.2 8) b0 a1 a2 kq_10 k_b0) (cwV 3 hts (gwV mw_994 mw_637 mw_638 mw_82 mw_639) rfl rfl rfl hv_X0_parentsBy ⟨Nat.le_of_ble_eq_true rfl, Nat.le_of_ble_eq_true rfl⟩) ⟨PcT_blind, hg_recv hK o_c_17 rfl, PcT_pre hK hH⟩ rfl rfl hl.1 rfl (lv_room (Nat.le_of_ble_eq_true rfl)) dX11_broughtBy_7 ⟨Nat.zero_le _, Nat.zero_le _⟩) hS (fun q _ h => AF.mono hS.1 h) (fun q h => AF.mono hS.1 h) (fun x_21 ux_21 t H locs ht hvm hx_21 hB hz hk hS => ?_)
  have hH : HT g Ty G H := by rw [← ht]; rw [hx_21] at hB; exact hB
  refine lv_istore (lv' := [(4, .int x_21), (0, .ref h0), (1, .ref b0), (2, .int a1), (3, .int a2)]) hx hb dX11_broughtBy_10 hl (by decide) rfl (fun ls hl => ?_)
  refine lv_iload hx hb dX11_broughtBy_12 (lv_at hl 0 rfl) ?_
  refine lv_if_ge (tgt := 21) hx hb dX11_broughtBy_14 (by decide) (fun c_22 => ?_) (fun c_22 => ?_)
  · have r_23 : rgI (0) (2147483647) x_21 := rg_w (rg_leR rl_0 (rg_top x_21) c_22) (by decide) (by decide)
    refine lv_iload hx hb dX11_broughtBy_21 (lv_at hl 0 rfl) ?_
    refine vp_callSi (W.runS (As := [.int x_21]) (rest := []) ⟨hx, hb, hml, hown, hts⟩ (c_J6_bitCount_0f7a4 l g Ty G x_21 ) (cwSx 1 hts hG (gwC mw_620) mw_99 mw_618 mw_619 rfl rfl rfl hd_J6_bitCount_0f7a4 ⟨Nat.le_of_ble_eq_true rfl, Nat.le_of_ble_eq_true rfl⟩) ⟨PcH_blind, PcH_pre hK hH⟩ rfl rfl hl.1 rfl (lv_room (Nat.le_of_ble_eq_true rfl)) dX11_broughtBy_23 ⟨Nat.zero_le _, Nat.zero_le _⟩) (fun x_24 hx_24 => ?_)
    exact W.iret hx hb hr (fun t ht hWm => ⟨⟨x_24, (Ty, G), rfl, rfl, by show HT g Ty G t.heap; rw [ht]; exact hH⟩, hS.F ht⟩) hS.2.2 dX11_broughtBy_26
  · have r_25 : rgI (-2147483648) (-1) x_21 := rg_w (rg_ltL (rg_top x_21) rl_0 (nle_lt c_22)) (by decide) (by decide)
    refine lv_iconst (v := 0) hx hb dX11_broughtBy_17 (by decide) ?_
    refine lv_goto (tgt := 26) hx hb dX11_broughtBy_18 (by decide) ?_
    exact W.iret hx hb hr (fun t ht hWm => ⟨⟨0, (Ty, G), rfl, rfl, by show HT g Ty G t.heap; rw [ht]; exact hH⟩, hS.F ht⟩) hS.2.2 dX11_broughtBy_26

set_option maxHeartbeats 4000000 in
set_option maxRecDepth 100000 in
theorem c_X11_draw (l : Launch) (g : Gx) (Ty : TyM) (G : Gh) (sz : Nat) (h0 : Nat) (a0 : Int32) (k_h0 : Ty h0 = some (21, 0)) : Met l yX11_draw (wsG yX11_draw cX11_draw 2 (some .int)) ({ frames := 0, cells := 0, slots := 0, locals := 0 }) (PcT g Ty G sz [.ref h0, .int a0]) (QwI g Ty sz (fun r u => u = (Ty, G))) 0 0 (AF Ty sz) := by
  refine Met.ofW (cc := cX11_draw) (maxL := 2) (ret := (some .int)) (by decide) rfl ?_
  intro p e s m args below meth c s₁ B hml hv
  obtain ⟨rfl, hsz, hK, hH⟩ := hv
  subst hsz
  have hx := B.exec
  have hb := B.bytes
  have hr := B.returns
  have hts := atoms_spec (ws := (wsG yX11_draw cX11_draw 2 (some .int))) B.pre
  have hG : ∀ w ∈ GW, w.before ([.ref h0, .int a0] : List Value).toArray s = true := fun w h => hts w (List.mem_cons_of_mem _ h)
  have hown : s.vm.findClass RX11 = some m.cls := findClass_of_methodNamed B.named
  have hlocks := B.notSynchronized
  have hl := lv_entry [.ref h0, .int a0] (n := 2) (Nat.le_of_ble_eq_true rfl)
  rw [lg_entry_eq]
  generalize (lg_sl [.ref h0, .int a0] ++ List.replicate (2 - (lg_sl [.ref h0, .int a0]).length) Slot.unset).toArray = ls at hl ⊢
  have hl : lv_has ls 2 [(0, .ref h0), (1, .int a0)] := hl
  have hS : va_S (AF Ty s.heap.size) s.heap s.heap [] := va_S.rf
  refine lv_aload_n hx hb dX11_draw_0 rfl (lv_at hl 0 rfl) ?_
  refine lv_aload_n hx hb dX11_draw_1 rfl (lv_at hl 0 rfl) ?_
  obtain ⟨_, ⟨q_16, rfl, kq_2, kq_3, kq_4, kq_5, kq_6, kq_7, kq_8, kq_9, kq_10, kq_11, kq_12, kq_13, kq_14, kq_15⟩, o_c_1⟩ := hH h0 _ k_h0
  refine hg_get hx hb hG igX11 hown hK o_c_1 rfl 14 (by decide) (hG _ mw_371) rfl dX11_draw_2 ?_
  refine lv_ldcw (v := 1103515245) hx hb hown (hG _ mw_1158) dX11_draw_5 ?_
  refine lv_imul hx hb dX11_draw_8 ?_
  refine lv_topi (fun x_17 ex_17 => ?_)
  refine lv_sipush (v := 12345) hx hb dX11_draw_9 (by decide) ?_
  refine lv_iadd hx hb dX11_draw_12 ?_
  refine lv_topi (fun x_18 ex_18 => ?_)
  refine hg_put (ty := .int) hx hb hG igX11 tyX11 tyX11_ok nmX11 hown hK hS o_c_1 (AF.of k_h0) rfl 14 (by decide) (hG _ mw_371) rfl (by decide +kernel) rfl rfl (Nat.le_of_ble_eq_true rfl) dX11_draw_13 (fun H locs o_c_1 hz oq hS => ?_)
  have o_c_1 : va_at g.1 vwCl (h0, .inr (11, [.ref (g.2.2 0), .ref (g.2.2 1), .ref (g.2.2 2), .ref (g.2.2 3), .ref (g.2.2 4), .ref (g.2.2 5), .ref (g.2.2 6), .ref (g.2.2 7), .ref (g.2.2 8), .ref (g.2.2 9), .ref (g.2.2 10), .ref (g.2.2 11), .ref (g.2.2 12), .ref (g.2.2 13), .int x_18])) H := o_c_1
  have hH : HT g Ty G H := hH.put k_h0 ⟨x_18, rfl, kq_2, kq_3, kq_4, kq_5, kq_6, kq_7, kq_8, kq_9, kq_10, kq_11, kq_12, kq_13, kq_14, kq_15⟩ o_c_1 oq
  clear oq hz
  refine lv_iload_n hx hb dX11_draw_16 rfl (lv_at hl 1 rfl) ?_
  refine lv_if_le (tgt := 32) hx hb dX11_draw_17 (by decide) (fun c_19 => ?_) (fun c_19 => ?_)
  · have r_20 : rgI (-2147483648) (0) a0 := rg_w (rg_leL (rg_top a0) rl_0 c_19) (by decide) (by decide)
    refine lv_iconst (v := 0) hx hb dX11_draw_32 (by decide) ?_
    exact W.iret hx hb hr (fun t ht hWm => ⟨⟨0, (Ty, G), rfl, rfl, by show HT g Ty G t.heap; rw [ht]; exact hH⟩, hS.F ht⟩) hS.2.2 dX11_draw_33
  · have r_21 : rgI (1) (2147483647) a0 := rg_w (rg_ltR rl_0 (rg_top a0) (nle_lt c_19)) (by decide) (by decide)
    refine lv_aload_n hx hb dX11_draw_20 rfl (lv_at hl 0 rfl) ?_
    refine hg_get hx hb hG igX11 hown hK o_c_1 rfl 14 (by decide) (hG _ mw_371) rfl dX11_draw_21 ?_
    refine lv_bipush (v := 16) hx hb dX11_draw_24 (by decide) ?_
    refine lv_iushr hx hb dX11_draw_26 rfl ?_
    refine lv_topi (fun x_22 ex_22 => ?_)
    refine lv_iload_n hx hb dX11_draw_27 rfl (lv_at hl 1 rfl) ?_
    refine lv_irem hx hb dX11_draw_28 (rg_ne0 r_21 (by decide)) ?_
    refine lv_topi (fun x_23 ex_23 => ?_)
    refine lv_goto (tgt := 33) hx hb dX11_draw_29 (by decide) ?_
    exact W.iret hx hb hr (fun t ht hWm => ⟨⟨x_23, (Ty, G), rfl, rfl, by show HT g Ty G t.heap; rw [ht]; exact hH⟩, hS.F ht⟩) hS.2.2 dX11_draw_33

set_option maxHeartbeats 4000000 in
set_option maxRecDepth 100000 in
theorem c_X11_count (l : Launch) (g : Gx) (Ty : TyM) (G : Gh) (h0 : Nat) (a0 : Int32) (k_h0 : Ty h0 = some (21, 0)) : Met l yX11_count (wsG yX11_count cX11_count 2 (some .int)) ({ frames := 2, cells := 0, slots := 0, locals := 43 }) (PcH g Ty G [.ref h0, .int a0]) (vp_Si (fun r => True)) 0 0 (fun _ => False) := by
  refine Met.ofW (cc := cX11_count) (maxL := 2) (ret := (some .int)) (by decide) rfl ?_
  intro p e s m args below meth c s₁ B hml hv
  obtain ⟨rfl, hK, hH⟩ := hv
  have hx := B.exec
  have hb := B.bytes
  have hr := B.returns
  have hts := atoms_spec (ws := (wsG yX11_count cX11_count 2 (some .int))) B.pre
  have hG : ∀ w ∈ GW, w.before ([.ref h0, .int a0] : List Value).toArray s = true := fun w h => hts w (List.mem_cons_of_mem _ h)
  have hown : s.vm.findClass RX11 = some m.cls := findClass_of_methodNamed B.named
  have hlocks := B.notSynchronized
  have hl := lv_entry [.ref h0, .int a0] (n := 2) (Nat.le_of_ble_eq_true rfl)
  rw [lg_entry_eq]
  generalize (lg_sl [.ref h0, .int a0] ++ List.replicate (2 - (lg_sl [.ref h0, .int a0]).length) Slot.unset).toArray = ls at hl ⊢
  have hl : lv_has ls 2 [(0, .ref h0), (1, .int a0)] := hl
  refine lv_iload_n hx hb dX11_count_0 rfl (lv_at hl 1 rfl) ?_
  by_cases c_1 : a0 = 0
  · refine lv_tableIn (tgt := 60) hx hb dX11_count_1 (by rw [c_1]; decide) (by rw [c_1]; decide) (off := 59) (by rw [c_1]; rfl) (by decide) ?_
    have r_2 : rgI (0) (0) a0 := rg_w (rg_eq rl_0 c_1) (by decide) (by decide)
    refine lv_aload_n hx hb dX11_count_60 rfl (lv_at hl 0 rfl) ?_
    obtain ⟨_, ⟨q_18, rfl, kq_4, kq_5, kq_6, kq_7, kq_8, kq_9, kq_10, kq_11, kq_12, kq_13, kq_14, kq_15, kq_16, kq_17⟩, o_c_3⟩ := hH h0 _ k_h0
    refine hg_get hx hb hG igX11 hown hK o_c_3 rfl 0 (by decide) (hG _ mw_357) rfl dX11_count_61 ?_
    obtain ⟨_, ⟨q_20, q_21, q_22, q_23, q_24, q_25, q_26, rfl, kq_20, kq_21, kq_22⟩, o_c_19⟩ := hH (g.2.2 0) _ kq_4
    refine hg_getN hx hb hG igX10 hown hK o_c_19 rfl 3 (by decide) ((hK.2.1 _ nwf_121).use rfl) rfl dX11_count_64 ?_
    exact W.iret hx hb hr (fun t ht hW => ⟨q_23, rfl, trivial, ht⟩) (fun q h => by cases h) dX11_count_67
  by_cases c_27 : a0 = 1
  · refine lv_tableIn (tgt := 68) hx hb dX11_count_1 (by rw [c_27]; decide) (by rw [c_27]; decide) (off := 67) (by rw [c_27]; rfl) (by decide) ?_
    have r_28 : rgI (1) (1) a0 := rg_w (rg_eq rl_1 c_27) (by decide) (by decide)
    refine lv_aload_n hx hb dX11_count_68 rfl (lv_at hl 0 rfl) ?_
    obtain ⟨_, ⟨q_44, rfl, kq_30, kq_31, kq_32, kq_33, kq_34, kq_35, kq_36, kq_37, kq_38, kq_39, kq_40, kq_41, kq_42, kq_43⟩, o_c_29⟩ := hH h0 _ k_h0
    refine hg_get hx hb hG igX11 hown hK o_c_29 rfl 0 (by decide) (hG _ mw_357) rfl dX11_count_69 ?_
    obtain ⟨_, ⟨q_46, q_47, q_48, q_49, q_50, q_51, q_52, rfl, kq_46, kq_47, kq_48⟩, o_c_45⟩ := hH (g.2.2 0) _ kq_30
    refine vp_callSi (W.runV (As := []) (rest := []) ⟨hx, hb, hml, hown, hts⟩ (c_X10_withAnyGroup l g Ty G (g.2.2 0) kq_30) (cwV 0 hts (gwV mw_1175 mw_1176 mw_1177 mw_77 mw_1178) rfl rfl rfl hv_X10_withAnyGroup ⟨Nat.le_of_ble_eq_true rfl, Nat.le_of_ble_eq_true rfl⟩) ⟨PcH_blind, hg_recv hK o_c_45 rfl, PcH_pre hK hH⟩ rfl rfl hl.1 rfl (lv_room (Nat.le_of_ble_eq_true rfl)) dX11_count_72 ⟨Nat.zero_le _, Nat.zero_le _⟩) (fun x_53 hx_53 => ?_)
    exact W.iret hx hb hr (fun t ht hW => ⟨x_53, rfl, trivial, ht⟩) (fun q h => by cases h) dX11_count_75
  by_cases c_54 : a0 = 2
  · refine lv_tableIn (tgt := 76) hx hb dX11_count_1 (by rw [c_54]; decide) (by rw [c_54]; decide) (off := 75) (by rw [c_54]; rfl) (by decide) ?_
    have r_55 : rgI (2) (2) a0 := rg_w (rg_eq rl_2 c_54) (by decide) (by decide)
    refine lv_aload_n hx hb dX11_count_76 rfl (lv_at hl 0 rfl) ?_
    obtain ⟨_, ⟨q_71, rfl, kq_57, kq_58, kq_59, kq_60, kq_61, kq_62, kq_63, kq_64, kq_65, kq_66, kq_67, kq_68, kq_69, kq_70⟩, o_c_56⟩ := hH h0 _ k_h0
    refine hg_get hx hb hG igX11 hown hK o_c_56 rfl 0 (by decide) (hG _ mw_357) rfl dX11_count_77 ?_
    obtain ⟨_, ⟨q_73, q_74, q_75, q_76, q_77, q_78, q_79, rfl, kq_73, kq_74, kq_75⟩, o_c_72⟩ := hH (g.2.2 0) _ kq_57
    refine vp_callSi (W.runV (As := []) (rest := []) ⟨hx, hb, hml, hown, hts⟩ (c_X10_withAnyMaster l g Ty G (g.2.2 0) kq_57) (cwV 0 hts (gwV mw_1179 mw_1180 mw_1181 mw_77 mw_1182) rfl rfl rfl hv_X10_withAnyMaster ⟨Nat.le_of_ble_eq_true rfl, Nat.le_of_ble_eq_true rfl⟩) ⟨PcH_blind, hg_recv hK o_c_72 rfl, PcH_pre hK hH⟩ rfl rfl hl.1 rfl (lv_room (Nat.le_of_ble_eq_true rfl)) dX11_count_80 ⟨Nat.zero_le _, Nat.zero_le _⟩) (fun x_80 hx_80 => ?_)
    exact W.iret hx hb hr (fun t ht hW => ⟨x_80, rfl, trivial, ht⟩) (fun q h => by cases h) dX11_count_83
  by_cases c_81 : a0 = 3
  · refine lv_tableIn (tgt := 84) hx hb dX11_count_1 (by rw [c_81]; decide) (by rw [c_81]; decide) (off := 83) (by rw [c_81]; rfl) (by decide) ?_
    have r_82 : rgI (3) (3) a0 := rg_w (rg_eq rl_3 c_81) (by decide) (by decide)
    refine lv_aload_n hx hb dX11_count_84 rfl (lv_at hl 0 rfl) ?_
    obtain ⟨_, ⟨q_98, rfl, kq_84, kq_85, kq_86, kq_87, kq_88, kq_89, kq_90, kq_91, kq_92, kq_93, kq_94, kq_95, kq_96, kq_97⟩, o_c_83⟩ := hH h0 _ k_h0
    refine hg_get hx hb hG igX11 hown hK o_c_83 rfl 0 (by decide) (hG _ mw_357) rfl dX11_count_85 ?_
    obtain ⟨_, ⟨q_100, q_101, q_102, q_103, q_104, q_105, q_106, rfl, kq_100, kq_101, kq_102⟩, o_c_99⟩ := hH (g.2.2 0) _ kq_84
    refine hg_getN hx hb hG igX10 hown hK o_c_99 rfl 4 (by decide) ((hK.2.1 _ nwf_123).use rfl) rfl dX11_count_88 ?_
    exact W.iret hx hb hr (fun t ht hW => ⟨q_104, rfl, trivial, ht⟩) (fun q h => by cases h) dX11_count_91
  by_cases c_107 : a0 = 4
  · refine lv_tableIn (tgt := 92) hx hb dX11_count_1 (by rw [c_107]; decide) (by rw [c_107]; decide) (off := 91) (by rw [c_107]; rfl) (by decide) ?_
    have r_108 : rgI (4) (4) a0 := rg_w (rg_eq rl_4 c_107) (by decide) (by decide)
    refine lv_aload_n hx hb dX11_count_92 rfl (lv_at hl 0 rfl) ?_
    obtain ⟨_, ⟨q_124, rfl, kq_110, kq_111, kq_112, kq_113, kq_114, kq_115, kq_116, kq_117, kq_118, kq_119, kq_120, kq_121, kq_122, kq_123⟩, o_c_109⟩ := hH h0 _ k_h0
    refine hg_get hx hb hG igX11 hown hK o_c_109 rfl 0 (by decide) (hG _ mw_357) rfl dX11_count_93 ?_
    obtain ⟨_, ⟨q_126, q_127, q_128, q_129, q_130, q_131, q_132, rfl, kq_126, kq_127, kq_128⟩, o_c_125⟩ := hH (g.2.2 0) _ kq_110
    refine hg_getN hx hb hG igX10 hown hK o_c_125 rfl 5 (by decide) ((hK.2.1 _ nwf_127).use rfl) rfl dX11_count_96 ?_
    exact W.iret hx hb hr (fun t ht hW => ⟨q_131, rfl, trivial, ht⟩) (fun q h => by cases h) dX11_count_99
  by_cases c_133 : a0 = 5
  · refine lv_tableIn (tgt := 100) hx hb dX11_count_1 (by rw [c_133]; decide) (by rw [c_133]; decide) (off := 99) (by rw [c_133]; rfl) (by decide) ?_
    have r_134 : rgI (5) (5) a0 := rg_w (rg_eq rl_5 c_133) (by decide) (by decide)
    refine lv_aload_n hx hb dX11_count_100 rfl (lv_at hl 0 rfl) ?_
    obtain ⟨_, ⟨q_150, rfl, kq_136, kq_137, kq_138, kq_139, kq_140, kq_141, kq_142, kq_143, kq_144, kq_145, kq_146, kq_147, kq_148, kq_149⟩, o_c_135⟩ := hH h0 _ k_h0
    refine hg_get hx hb hG igX11 hown hK o_c_135 rfl 0 (by decide) (hG _ mw_357) rfl dX11_count_101 ?_
    obtain ⟨_, ⟨q_152, q_153, q_154, q_155, q_156, q_157, q_158, rfl, kq_152, kq_153, kq_154⟩, o_c_151⟩ := hH (g.2.2 0) _ kq_136
    refine hg_getN hx hb hG igX10 hown hK o_c_151 rfl 6 (by decide) ((hK.2.1 _ nwf_129).use rfl) rfl dX11_count_104 ?_
    exact W.iret hx hb hr (fun t ht hW => ⟨q_158, rfl, trivial, ht⟩) (fun q h => by cases h) dX11_count_107
  by_cases c_159 : a0 = 6
  · refine lv_tableIn (tgt := 108) hx hb dX11_count_1 (by rw [c_159]; decide) (by rw [c_159]; decide) (off := 107) (by rw [c_159]; rfl) (by decide) ?_
    have r_160 : rgI (6) (6) a0 := rg_w (rg_eq rl_6 c_159) (by decide) (by decide)
    refine lv_aload_n hx hb dX11_count_108 rfl (lv_at hl 0 rfl) ?_
    obtain ⟨_, ⟨q_176, rfl, kq_162, kq_163, kq_164, kq_165, kq_166, kq_167, kq_168, kq_169, kq_170, kq_171, kq_172, kq_173, kq_174, kq_175⟩, o_c_161⟩ := hH h0 _ k_h0
    refine hg_get hx hb hG igX11 hown hK o_c_161 rfl 11 (by decide) (hG _ mw_368) rfl dX11_count_109 ?_
    obtain ⟨_, ⟨q_178, q_179, q_180, q_182, q_183, rfl, kq_178, kq_179, kq_180, kq_182, rq_181, t_184⟩, o_c_177⟩ := hH (g.2.2 11) _ kq_173
    refine hg_getN hx hb hG igX3 hown hK o_c_177 rfl 3 (by decide) ((hK.2.1 _ nwf_298).use rfl) rfl dX11_count_112 ?_
    exact W.iret hx hb hr (fun t ht hW => ⟨(G.1 1), rfl, trivial, ht⟩) (fun q h => by cases h) dX11_count_115
  by_cases c_185 : a0 = 7
  · refine lv_tableIn (tgt := 116) hx hb dX11_count_1 (by rw [c_185]; decide) (by rw [c_185]; decide) (off := 115) (by rw [c_185]; rfl) (by decide) ?_
    have r_186 : rgI (7) (7) a0 := rg_w (rg_eq rl_7 c_185) (by decide) (by decide)
    refine lv_aload_n hx hb dX11_count_116 rfl (lv_at hl 0 rfl) ?_
    obtain ⟨_, ⟨q_202, rfl, kq_188, kq_189, kq_190, kq_191, kq_192, kq_193, kq_194, kq_195, kq_196, kq_197, kq_198, kq_199, kq_200, kq_201⟩, o_c_187⟩ := hH h0 _ k_h0
    refine hg_get hx hb hG igX11 hown hK o_c_187 rfl 12 (by decide) (hG _ mw_369) rfl dX11_count_117 ?_
    obtain ⟨_, ⟨q_204, q_205, q_206, q_208, rfl, kq_204, kq_205, kq_206, rq_207, t_209⟩, o_c_203⟩ := hH (g.2.2 12) _ kq_200
    refine hg_getN hx hb hG igX5 hown hK o_c_203 rfl 3 (by decide) ((hK.2.1 _ nwf_325).use rfl) rfl dX11_count_120 ?_
    exact W.iret hx hb hr (fun t ht hW => ⟨(G.1 2), rfl, trivial, ht⟩) (fun q h => by cases h) dX11_count_123
  by_cases c_210 : a0 = 8
  · refine lv_tableIn (tgt := 124) hx hb dX11_count_1 (by rw [c_210]; decide) (by rw [c_210]; decide) (off := 123) (by rw [c_210]; rfl) (by decide) ?_
    have r_211 : rgI (8) (8) a0 := rg_w (rg_eq rl_8 c_210) (by decide) (by decide)
    refine lv_aload_n hx hb dX11_count_124 rfl (lv_at hl 0 rfl) ?_
    obtain ⟨_, ⟨q_227, rfl, kq_213, kq_214, kq_215, kq_216, kq_217, kq_218, kq_219, kq_220, kq_221, kq_222, kq_223, kq_224, kq_225, kq_226⟩, o_c_212⟩ := hH h0 _ k_h0
    refine hg_get hx hb hG igX11 hown hK o_c_212 rfl 2 (by decide) (hG _ mw_359) rfl dX11_count_125 ?_
    obtain ⟨_, ⟨q_229, q_230, q_231, rfl, kq_229⟩, o_c_228⟩ := hH (g.2.2 2) _ kq_215
    refine hg_getN hx hb hG igX4 hown hK o_c_228 rfl 2 (by decide) ((hK.2.1 _ nwf_157).use rfl) rfl dX11_count_128 ?_
    exact W.iret hx hb hr (fun t ht hW => ⟨q_231, rfl, trivial, ht⟩) (fun q h => by cases h) dX11_count_131
  by_cases c_232 : a0 = 9
  · refine lv_tableIn (tgt := 132) hx hb dX11_count_1 (by rw [c_232]; decide) (by rw [c_232]; decide) (off := 131) (by rw [c_232]; rfl) (by decide) ?_
    have r_233 : rgI (9) (9) a0 := rg_w (rg_eq rl_9 c_232) (by decide) (by decide)
    refine lv_aload_n hx hb dX11_count_132 rfl (lv_at hl 0 rfl) ?_
    obtain ⟨_, ⟨q_249, rfl, kq_235, kq_236, kq_237, kq_238, kq_239, kq_240, kq_241, kq_242, kq_243, kq_244, kq_245, kq_246, kq_247, kq_248⟩, o_c_234⟩ := hH h0 _ k_h0
    refine hg_get hx hb hG igX11 hown hK o_c_234 rfl 5 (by decide) (hG _ mw_362) rfl dX11_count_133 ?_
    obtain ⟨_, ⟨q_251, q_252, rfl, kq_251, rq_252⟩, o_c_250⟩ := hH (g.2.2 5) _ kq_240
    refine hg_getN hx hb hG igX7 hown hK o_c_250 rfl 1 (by decide) ((hK.2.1 _ nwf_189).use rfl) rfl dX11_count_136 ?_
    exact W.iret hx hb hr (fun t ht hW => ⟨q_252, rfl, trivial, ht⟩) (fun q h => by cases h) dX11_count_139
  by_cases c_253 : a0 = 10
  · refine lv_tableIn (tgt := 140) hx hb dX11_count_1 (by rw [c_253]; decide) (by rw [c_253]; decide) (off := 139) (by rw [c_253]; rfl) (by decide) ?_
    have r_254 : rgI (10) (10) a0 := rg_w (rg_eq rl_10 c_253) (by decide) (by decide)
    refine lv_aload_n hx hb dX11_count_140 rfl (lv_at hl 0 rfl) ?_
    obtain ⟨_, ⟨q_270, rfl, kq_256, kq_257, kq_258, kq_259, kq_260, kq_261, kq_262, kq_263, kq_264, kq_265, kq_266, kq_267, kq_268, kq_269⟩, o_c_255⟩ := hH h0 _ k_h0
    refine hg_get hx hb hG igX11 hown hK o_c_255 rfl 4 (by decide) (hG _ mw_361) rfl dX11_count_141 ?_
    obtain ⟨_, ⟨q_272, rfl, kq_272, rq_273, t_274⟩, o_c_271⟩ := hH (g.2.2 4) _ kq_260
    refine hg_getN hx hb hG igX9 hown hK o_c_271 rfl 1 (by decide) ((hK.2.1 _ nwf_174).use rfl) rfl dX11_count_144 ?_
    exact W.iret hx hb hr (fun t ht hW => ⟨(G.1 0), rfl, trivial, ht⟩) (fun q h => by cases h) dX11_count_147
  refine lv_tableOut (tgt := 148) hx hb dX11_count_1 (by have := lv_neT (a := 0) c_1 rfl; have := lv_neT (a := 1) c_27 rfl; have := lv_neT (a := 2) c_54 rfl; have := lv_neT (a := 3) c_81 rfl; have := lv_neT (a := 4) c_107 rfl; have := lv_neT (a := 5) c_133 rfl; have := lv_neT (a := 6) c_159 rfl; have := lv_neT (a := 7) c_185 rfl; have := lv_neT (a := 8) c_210 rfl; have := lv_neT (a := 9) c_232 rfl; have := lv_neT (a := 10) c_253 rfl; omega) (by decide) ?_
  refine lv_iconst (v := (-1)) hx hb dX11_count_148 (by decide) ?_
  exact W.iret hx hb hr (fun t ht hW => ⟨(-1), rfl, trivial, ht⟩) (fun q h => by cases h) dX11_count_149
