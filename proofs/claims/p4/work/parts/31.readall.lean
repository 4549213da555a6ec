set_option maxHeartbeats 4000000 in
set_option maxRecDepth 100000 in
theorem c_X8_startsThing (l : Launch) (g : Gx) (Ty : TyM) (G : Gh) (sz : Nat) (h0 : Nat) (a0 : Int32) (k_h0 : Ty h0 = some (23, 0)) (hW : RW g G) (hp : (G.1 5).toInt ≤ 39) : Met l yX8_startsThing (wsG yX8_startsThing cX8_startsThing 3 (some .boolean)) ({ frames := 7, cells := 0, slots := 0, locals := 159 }) (PcO g Ty G sz [.ref h0, .int a0]) (QwI g Ty sz (fun r u => (rgI (0) (1) r) ∧ u.1 = Ty ∧ STEP g G u.2 ∧ STA g G u.2 1 r a0)) 0 0 (AF Ty sz) := by
  refine Met.ofW (cc := cX8_startsThing) (maxL := 3) (ret := (some .boolean)) (by decide) rfl ?_
  intro p e s m args below meth c s₁ B hml hv
  obtain ⟨rfl, hsz, hK, hH, hO⟩ := hv
  subst hsz
  have hx := B.exec
  have hb := B.bytes
  have hr := B.returns
  have hts := atoms_spec (ws := (wsG yX8_startsThing cX8_startsThing 3 (some .boolean))) B.pre
  have hG : ∀ w ∈ GW, w.before ([.ref h0, .int a0] : List Value).toArray s = true := fun w h => hts w (List.mem_cons_of_mem _ h)
  have hown : s.vm.findClass RX8 = some m.cls := findClass_of_methodNamed B.named
  have hlocks := B.notSynchronized
  have hl := lv_entry [.ref h0, .int a0] (n := 3) (Nat.le_of_ble_eq_true rfl)
  rw [lg_entry_eq]
  generalize (lg_sl [.ref h0, .int a0] ++ List.replicate (3 - (lg_sl [.ref h0, .int a0]).length) Slot.unset).toArray = ls at hl ⊢
  have hl : lv_has ls 3 [(0, .ref h0), (1, .int a0)] := hl
  have hS : va_S (AF Ty s.heap.size) s.heap s.heap [] := va_S.rf
  refine lv_iload_n hx hb dX8_startsThing_0 rfl (lv_at hl 1 rfl) ?_
  refine lv_bipush (v := 45) hx hb dX8_startsThing_1 (by decide) ?_
  refine lv_icmp_ne (tgt := 15) hx hb dX8_startsThing_3 (by decide) (fun c_1 => ?_) (fun c_1 => ?_)
  · refine lv_iload_n hx hb dX8_startsThing_15 rfl (lv_at hl 1 rfl) ?_
    refine lv_bipush (v := 40) hx hb dX8_startsThing_16 (by decide) ?_
    refine lv_icmp_ne (tgt := 26) hx hb dX8_startsThing_18 (by decide) (fun c_2 => ?_) (fun c_2 => ?_)
    · refine lv_iload_n hx hb dX8_startsThing_26 rfl (lv_at hl 1 rfl) ?_
      refine lv_if_lt (tgt := 40) hx hb dX8_startsThing_27 (by decide) (fun c_3 => ?_) (fun c_3 => ?_)
      · have r_4 : rgI (-2147483648) (-1) a0 := rg_w (rg_ltL (rg_top a0) rl_0 c_3) (by decide) (by decide)
        refine lv_iconst (v := (-1)) hx hb dX8_startsThing_40 (by decide) ?_
        refine lv_istore_n (lv' := [(2, .int (-1)), (0, .ref h0), (1, .int a0)]) hx hb dX8_startsThing_41 rfl hl (by decide) rfl (fun ls hl => ?_)
        refine lv_iload_n hx hb dX8_startsThing_42 rfl (lv_at hl 2 rfl) ?_
        refine vp_callSi (W.runS (As := [.int a0]) (rest := []) ⟨hx, hb, hml, hown, hts⟩ (c_X8_isDigit l g Ty G a0 ) (cwSx 1 hts hG (gwC mw_532) mw_81 mw_530 mw_531 rfl rfl rfl hd_X8_isDigit ⟨Nat.le_of_ble_eq_true rfl, Nat.le_of_ble_eq_true rfl⟩) ⟨PcH_blind, PcH_pre hK hH⟩ rfl rfl hl.1 rfl (lv_room (Nat.le_of_ble_eq_true rfl)) dX8_startsThing_43 ⟨Nat.zero_le _, Nat.zero_le _⟩) (fun x_5 hx_5 => ?_)
        have rx_5 : rgI (0) (1) x_5 := hx_5.1
        refine lv_if_eq (tgt := 65) hx hb dX8_startsThing_46 (by decide) (fun c_6 => ?_) (fun c_6 => ?_)
        · have r_7 : rgI (0) (0) x_5 := rg_w (rg_eq rl_0 c_6) (by decide) (by decide)
          refine lv_iload_n hx hb dX8_startsThing_65 rfl (lv_at hl 0 rfl) ?_
          refine lv_if_lt (tgt := 81) hx hb dX8_startsThing_66 (by decide) (fun c_8 => ?_) (fun c_8 => ?_)
          · refine lv_iconst (v := 0) hx hb dX8_startsThing_81 (by decide) ?_
            exact W.zret hx hb hr rfl (fun t ht hWm => ⟨⟨0, (Ty, G), rfl, ⟨rg_w rl_0 (by decide) (by decide), ⟨rfl, st_no hW c_1 c_2 (dg_n hx_5.2 c_6) (ix_neg c_3)⟩⟩, by show HT g Ty G t.heap; rw [ht]; exact hH⟩, hS.F ht⟩) hS.2.2 dX8_startsThing_82
          · exact rg_no2 rl_0 rl_m1 (nlt_le c_8) (by decide)
        · have r_9 : rgI (1) (1) x_5 := rg_w (rg_neL rx_5 rl_0 c_6) (by decide) (by decide)
          refine lv_aload_n hx hb dX8_startsThing_49 rfl (lv_at hl 1 rfl) ?_
          refine lv_iload_n hx hb dX8_startsThing_50 rfl (lv_at hl 2 rfl) ?_
          refine lv_bipush (v := 48) hx hb dX8_startsThing_51 (by decide) ?_
          refine lv_isub hx hb dX8_startsThing_53 ?_
          refine lv_topi (fun x_10 ex_10 => ?_)
          obtain ⟨_, ⟨q_12, q_20, q_21, rfl, kq_12, kq_14, kq_20, kq_21, rq_13, rq_16, t_22⟩, o_c_11⟩ := hH h0 _ k_h0
          refine va_callv (va_runV (As := [.int x_10]) (rest := []) ⟨hx, hb, hml, hown, hts⟩ (c_X8_emit l g Ty G s.heap.size h0 x_10 k_h0) (cwV 1 hts (gwV mw_533 mw_535 mw_3 mw_81 mw_536) rfl rfl rfl hv_X8_emit ⟨Nat.le_of_ble_eq_true rfl, Nat.le_of_ble_eq_true rfl⟩) ⟨PcT_blind, hg_recv hK o_c_11 rfl, PcT_pre hK hH⟩ rfl rfl hl.1 rfl (lv_room (Nat.le_of_ble_eq_true rfl)) dX8_startsThing_54 ⟨Nat.zero_le _, Nat.zero_le _⟩) hS (fun q _ h => AF.mono hS.1 h) (fun q h => AF.mono hS.1 h) (fun ux_23 t H locs ht hvm hx_23 hB hz hk hS => ?_)
          obtain ⟨eTx_23, eGx_23⟩ := hx_23
          obtain ⟨G_24, eG_24⟩ : ∃ z, z = ux_23.2 := ⟨_, rfl⟩
          rw [← eG_24] at eGx_23
          have u_25 : G_24.1 5 = (G.1 5) := (EmitR.keep eGx_23 (by decide))
          have u_26 : G_24.1 6 = (G.1 6) := (EmitR.keep eGx_23 (by decide))
          have u_27 : G_24.1 9 = (G.1 9) := (EmitR.keep eGx_23 (by decide))
          have u_28 : G_24.1 10 = (G.1 10) := (EmitR.keep eGx_23 (by decide))
          have hH : HT g Ty G_24 H := by rw [← ht, ← eTx_23, eG_24]; exact hB
          refine lv_aload_n hx hb dX8_startsThing_57 rfl (lv_at hl 1 rfl) ?_
          refine lv_iconst (v := 1) hx hb dX8_startsThing_58 (by decide) ?_
          obtain ⟨_, ⟨q_30, q_38, q_39, rfl, kq_30, kq_32, kq_38, kq_39, rq_31, rq_34, t_40⟩, o_c_29⟩ := hH h0 _ k_h0
          refine hg_put (ty := .int) hx hb hG igX8 tyX8 tyX8_ok nmX8 hown hK hS o_c_29 (AF.of k_h0) rfl 5 (by decide) (hG _ mw_207) rfl (by decide +kernel) rfl rfl (Nat.le_of_ble_eq_true rfl) dX8_startsThing_59 (fun H locs o_c_29 hz oq hS => ?_)
          obtain ⟨G_41, eG_41⟩ : ∃ z : Gh, z = gset G_24 9 1 := ⟨_, rfl⟩
          have hH : HT g Ty G_41 H := by rw [eG_41]; exact HT.putN 9 1 hH k_h0 ⟨q_30, q_38, q_39, rfl, kq_30, kq_32, kq_38, kq_39, rq_31, rq_34, t_40⟩ o_c_29 oq (Or.inr (Or.inr (Or.inr (Or.inr (Or.inl ⟨by decide, t_40⟩)))))
          have u_42 : G_41.1 5 = (G.1 5) := by rw [eG_41]; exact (gs_ne (by decide)).trans u_25
          have u_43 : G_41.1 6 = (G.1 6) := by rw [eG_41]; exact (gs_ne (by decide)).trans u_26
          have u_44 : G_41.1 10 = (G.1 10) := by rw [eG_41]; exact (gs_ne (by decide)).trans u_28
          have u_45 : G_41.1 9 = 1 := by rw [eG_41]; exact gs_eq
          clear oq hz
          refine lv_goto (tgt := 83) hx hb dX8_startsThing_62 (by decide) ?_
          refine lv_aload_n hx hb dX8_startsThing_83 rfl (lv_at hl 1 rfl) ?_
          refine lv_iconst (v := 0) hx hb dX8_startsThing_84 (by decide) ?_
          obtain ⟨_, ⟨q_47, q_55, q_56, rfl, kq_47, kq_49, kq_55, kq_56, rq_48, rq_51, t_57⟩, o_c_46⟩ := hH h0 _ k_h0
          refine hg_put (ty := .boolean) hx hb hG igX8 tyX8 tyX8_ok nmX8 hown hK hS o_c_46 (AF.of k_h0) rfl 4 (by decide) (hG _ mw_206) rfl (by decide +kernel) (by rfl) (by rfl) (Nat.le_of_ble_eq_true rfl) dX8_startsThing_85 (fun H locs o_c_46 hz oq hS => ?_)
          obtain ⟨G_58, eG_58⟩ : ∃ z : Gh, z = gset G_41 8 0 := ⟨_, rfl⟩
          have hH : HT g Ty G_58 H := by rw [eG_58]; exact HT.putN 8 0 hH k_h0 ⟨q_47, q_55, q_56, rfl, kq_47, kq_49, kq_55, kq_56, rq_48, (rgu (rg_w rl_0 (by decide) (by decide))), t_57⟩ o_c_46 oq (Or.inr (Or.inr (Or.inr (Or.inr (Or.inl ⟨by decide, t_57⟩)))))
          have u_59 : G_58.1 5 = (G.1 5) := by rw [eG_58]; exact (gs_ne (by decide)).trans u_42
          have u_60 : G_58.1 6 = (G.1 6) := by rw [eG_58]; exact (gs_ne (by decide)).trans u_43
          have u_61 : G_58.1 10 = (G.1 10) := by rw [eG_58]; exact (gs_ne (by decide)).trans u_44
          have u_62 : G_58.1 9 = 1 := by rw [eG_58]; exact (gs_ne (by decide)).trans u_45
          have u_63 : G_58.1 8 = 0 := by rw [eG_58]; exact gs_eq
          clear oq hz
          refine lv_iconst (v := 1) hx hb dX8_startsThing_88 (by decide) ?_
          exact W.zret hx hb hr rfl (fun t ht hWm => ⟨⟨1, (Ty, G_58), rfl, ⟨rg_w rl_1 (by decide) (by decide), ⟨rfl, st_dig hW eGx_23 eG_41 eG_58 (dg_y hx_5.2 c_6)⟩⟩, by show HT g Ty G_58 t.heap; rw [ht]; exact hH⟩, hS.F ht⟩) hS.2.2 dX8_startsThing_89
      · have r_64 : rgI (0) (2147483647) a0 := rg_w (rg_leR rl_0 (rg_top a0) (nlt_le c_3)) (by decide) (by decide)
        refine va_ldcS hx hb hown hO.2.2.2.2.2.2.2 dX8_startsThing_30 ?_
        refine lv_iload_n hx hb dX8_startsThing_32 rfl (lv_at hl 1 rfl) ?_
        refine lv_i2c hx hb dX8_startsThing_33 rfl ?_
        refine lv_topi (fun x_65 ex_65 => ?_)
        refine vp_callSi (W.runV (As := [.int x_65]) (rest := []) ⟨hx, hb, hml, hown, hts⟩ (c_J0_indexOf_0f7a4 l g  (AF Ty s.heap.size) x_65 ) (cwV 1 hts (gwV mw_444 mw_445 mw_446 mw_89 mw_447) rfl rfl rfl hv_J0_indexOf_0f7a4 ⟨Nat.le_of_ble_eq_true rfl, Nat.le_of_ble_eq_true rfl⟩) ⟨PcB_blind, OC_recv hO hS, PcB_pre hK hO hS⟩ rfl rfl hl.1 rfl (lv_room (Nat.le_of_ble_eq_true rfl)) dX8_startsThing_34 ⟨Nat.zero_le _, Nat.zero_le _⟩) (fun x_66 hx_66 => ?_)
        refine lv_goto (tgt := 41) hx hb dX8_startsThing_37 (by decide) ?_
        refine lv_istore_n (lv' := [(2, .int x_66), (0, .ref h0), (1, .int a0)]) hx hb dX8_startsThing_41 rfl hl (by decide) rfl (fun ls hl => ?_)
        refine lv_iload_n hx hb dX8_startsThing_42 rfl (lv_at hl 2 rfl) ?_
        refine vp_callSi (W.runS (As := [.int a0]) (rest := []) ⟨hx, hb, hml, hown, hts⟩ (c_X8_isDigit l g Ty G a0 ) (cwSx 1 hts hG (gwC mw_532) mw_81 mw_530 mw_531 rfl rfl rfl hd_X8_isDigit ⟨Nat.le_of_ble_eq_true rfl, Nat.le_of_ble_eq_true rfl⟩) ⟨PcH_blind, PcH_pre hK hH⟩ rfl rfl hl.1 rfl (lv_room (Nat.le_of_ble_eq_true rfl)) dX8_startsThing_43 ⟨Nat.zero_le _, Nat.zero_le _⟩) (fun x_67 hx_67 => ?_)
        have rx_67 : rgI (0) (1) x_67 := hx_67.1
        refine lv_if_eq (tgt := 65) hx hb dX8_startsThing_46 (by decide) (fun c_68 => ?_) (fun c_68 => ?_)
        · have r_69 : rgI (0) (0) x_67 := rg_w (rg_eq rl_0 c_68) (by decide) (by decide)
          refine lv_iload_n hx hb dX8_startsThing_65 rfl (lv_at hl 0 rfl) ?_
          refine lv_if_lt (tgt := 81) hx hb dX8_startsThing_66 (by decide) (fun c_70 => ?_) (fun c_70 => ?_)
          · have r_71 : rgI (-2147483648) (-1) x_66 := rg_w (rg_ltL (rg_top x_66) rl_0 c_70) (by decide) (by decide)
            refine lv_iconst (v := 0) hx hb dX8_startsThing_81 (by decide) ?_
            exact W.zret hx hb hr rfl (fun t ht hWm => ⟨⟨0, (Ty, G), rfl, ⟨rg_w rl_0 (by decide) (by decide), ⟨rfl, st_no hW c_1 c_2 (dg_n hx_67.2 c_68) (ix_n (IxL.c hx_66 ex_65) c_70)⟩⟩, by show HT g Ty G t.heap; rw [ht]; exact hH⟩, hS.F ht⟩) hS.2.2 dX8_startsThing_82
          · have r_72 : rgI (0) (2147483647) x_66 := rg_w (rg_leR rl_0 (rg_top x_66) (nlt_le c_70)) (by decide) (by decide)
            refine lv_aload_n hx hb dX8_startsThing_69 rfl (lv_at hl 1 rfl) ?_
            refine lv_sipush (v := 1000) hx hb dX8_startsThing_70 (by decide) ?_
            refine lv_iload_n hx hb dX8_startsThing_73 rfl (lv_at hl 0 rfl) ?_
            refine lv_iadd hx hb dX8_startsThing_74 ?_
            refine lv_topi (fun x_73 ex_73 => ?_)
            obtain ⟨_, ⟨q_75, q_83, q_84, rfl, kq_75, kq_77, kq_83, kq_84, rq_76, rq_79, t_85⟩, o_c_74⟩ := hH h0 _ k_h0
            refine va_callv (va_runV (As := [.int x_73]) (rest := []) ⟨hx, hb, hml, hown, hts⟩ (c_X8_emit l g Ty G s.heap.size h0 x_73 k_h0) (cwV 1 hts (gwV mw_533 mw_535 mw_3 mw_81 mw_536) rfl rfl rfl hv_X8_emit ⟨Nat.le_of_ble_eq_true rfl, Nat.le_of_ble_eq_true rfl⟩) ⟨PcT_blind, hg_recv hK o_c_74 rfl, PcT_pre hK hH⟩ rfl rfl hl.1 rfl (lv_room (Nat.le_of_ble_eq_true rfl)) dX8_startsThing_75 ⟨Nat.zero_le _, Nat.zero_le _⟩) hS (fun q _ h => AF.mono hS.1 h) (fun q h => AF.mono hS.1 h) (fun ux_86 t H locs ht hvm hx_86 hB hz hk hS => ?_)
            obtain ⟨eTx_86, eGx_86⟩ := hx_86
            obtain ⟨G_87, eG_87⟩ : ∃ z, z = ux_86.2 := ⟨_, rfl⟩
            rw [← eG_87] at eGx_86
            have u_88 : G_87.1 5 = (G.1 5) := (EmitR.keep eGx_86 (by decide))
            have u_89 : G_87.1 6 = (G.1 6) := (EmitR.keep eGx_86 (by decide))
            have u_90 : G_87.1 9 = (G.1 9) := (EmitR.keep eGx_86 (by decide))
            have u_91 : G_87.1 10 = (G.1 10) := (EmitR.keep eGx_86 (by decide))
            have hH : HT g Ty G_87 H := by rw [← ht, ← eTx_86, eG_87]; exact hB
            refine lv_goto (tgt := 83) hx hb dX8_startsThing_78 (by decide) ?_
            refine lv_aload_n hx hb dX8_startsThing_83 rfl (lv_at hl 1 rfl) ?_
            refine lv_iconst (v := 0) hx hb dX8_startsThing_84 (by decide) ?_
            obtain ⟨_, ⟨q_93, q_101, q_102, rfl, kq_93, kq_95, kq_101, kq_102, rq_94, rq_97, t_103⟩, o_c_92⟩ := hH h0 _ k_h0
            refine hg_put (ty := .boolean) hx hb hG igX8 tyX8 tyX8_ok nmX8 hown hK hS o_c_92 (AF.of k_h0) rfl 4 (by decide) (hG _ mw_206) rfl (by decide +kernel) (by rfl) (by rfl) (Nat.le_of_ble_eq_true rfl) dX8_startsThing_85 (fun H locs o_c_92 hz oq hS => ?_)
            obtain ⟨G_104, eG_104⟩ : ∃ z : Gh, z = gset G_87 8 0 := ⟨_, rfl⟩
            have hH : HT g Ty G_104 H := by rw [eG_104]; exact HT.putN 8 0 hH k_h0 ⟨q_93, q_101, q_102, rfl, kq_93, kq_95, kq_101, kq_102, rq_94, (rgu (rg_w rl_0 (by decide) (by decide))), t_103⟩ o_c_92 oq (Or.inr (Or.inr (Or.inr (Or.inr (Or.inl ⟨by decide, t_103⟩)))))
            have u_105 : G_104.1 5 = (G.1 5) := by rw [eG_104]; exact (gs_ne (by decide)).trans u_88
            have u_106 : G_104.1 6 = (G.1 6) := by rw [eG_104]; exact (gs_ne (by decide)).trans u_89
            have u_107 : G_104.1 9 = (G.1 9) := by rw [eG_104]; exact (gs_ne (by decide)).trans u_90
            have u_108 : G_104.1 10 = (G.1 10) := by rw [eG_104]; exact (gs_ne (by decide)).trans u_91
            have u_109 : G_104.1 8 = 0 := by rw [eG_104]; exact gs_eq
            clear oq hz
            refine lv_iconst (v := 1) hx hb dX8_startsThing_88 (by decide) ?_
            exact W.zret hx hb hr rfl (fun t ht hWm => ⟨⟨1, (Ty, G_104), rfl, ⟨rg_w rl_1 (by decide) (by decide), ⟨rfl, st_let hW eGx_86 eG_104 (dg_n hx_67.2 c_68) (ix_y (IxL.c hx_66 ex_65) (nlt_le c_70))⟩⟩, by show HT g Ty G_104 t.heap; rw [ht]; exact hH⟩, hS.F ht⟩) hS.2.2 dX8_startsThing_89
        · have r_110 : rgI (1) (1) x_67 := rg_w (rg_neL rx_67 rl_0 c_68) (by decide) (by decide)
          refine lv_aload_n hx hb dX8_startsThing_49 rfl (lv_at hl 1 rfl) ?_
          refine lv_iload_n hx hb dX8_startsThing_50 rfl (lv_at hl 2 rfl) ?_
          refine lv_bipush (v := 48) hx hb dX8_startsThing_51 (by decide) ?_
          refine lv_isub hx hb dX8_startsThing_53 ?_
          refine lv_topi (fun x_111 ex_111 => ?_)
          have rx_111 : rgI (-48) (2147483599) x_111 := by rw [ex_111]; exact rg_w (rg_sub r_64 rl_48 (by decide) (by decide)) (by decide) (by decide)
          obtain ⟨_, ⟨q_113, q_121, q_122, rfl, kq_113, kq_115, kq_121, kq_122, rq_114, rq_117, t_123⟩, o_c_112⟩ := hH h0 _ k_h0
          refine va_callv (va_runV (As := [.int x_111]) (rest := []) ⟨hx, hb, hml, hown, hts⟩ (c_X8_emit l g Ty G s.heap.size h0 x_111 k_h0) (cwV 1 hts (gwV mw_533 mw_535 mw_3 mw_81 mw_536) rfl rfl rfl hv_X8_emit ⟨Nat.le_of_ble_eq_true rfl, Nat.le_of_ble_eq_true rfl⟩) ⟨PcT_blind, hg_recv hK o_c_112 rfl, PcT_pre hK hH⟩ rfl rfl hl.1 rfl (lv_room (Nat.le_of_ble_eq_true rfl)) dX8_startsThing_54 ⟨Nat.zero_le _, Nat.zero_le _⟩) hS (fun q _ h => AF.mono hS.1 h) (fun q h => AF.mono hS.1 h) (fun ux_124 t H locs ht hvm hx_124 hB hz hk hS => ?_)
          obtain ⟨eTx_124, eGx_124⟩ := hx_124
          obtain ⟨G_125, eG_125⟩ : ∃ z, z = ux_124.2 := ⟨_, rfl⟩
          rw [← eG_125] at eGx_124
          have u_126 : G_125.1 5 = (G.1 5) := (EmitR.keep eGx_124 (by decide))
          have u_127 : G_125.1 6 = (G.1 6) := (EmitR.keep eGx_124 (by decide))
          have u_128 : G_125.1 9 = (G.1 9) := (EmitR.keep eGx_124 (by decide))
          have u_129 : G_125.1 10 = (G.1 10) := (EmitR.keep eGx_124 (by decide))
          have hH : HT g Ty G_125 H := by rw [← ht, ← eTx_124, eG_125]; exact hB
          refine lv_aload_n hx hb dX8_startsThing_57 rfl (lv_at hl 1 rfl) ?_
          refine lv_iconst (v := 1) hx hb dX8_startsThing_58 (by decide) ?_
          obtain ⟨_, ⟨q_131, q_139, q_140, rfl, kq_131, kq_133, kq_139, kq_140, rq_132, rq_135, t_141⟩, o_c_130⟩ := hH h0 _ k_h0
          refine hg_put (ty := .int) hx hb hG igX8 tyX8 tyX8_ok nmX8 hown hK hS o_c_130 (AF.of k_h0) rfl 5 (by decide) (hG _ mw_207) rfl (by decide +kernel) rfl rfl (Nat.le_of_ble_eq_true rfl) dX8_startsThing_59 (fun H locs o_c_130 hz oq hS => ?_)
          obtain ⟨G_142, eG_142⟩ : ∃ z : Gh, z = gset G_125 9 1 := ⟨_, rfl⟩
          have hH : HT g Ty G_142 H := by rw [eG_142]; exact HT.putN 9 1 hH k_h0 ⟨q_131, q_139, q_140, rfl, kq_131, kq_133, kq_139, kq_140, rq_132, rq_135, t_141⟩ o_c_130 oq (Or.inr (Or.inr (Or.inr (Or.inr (Or.inl ⟨by decide, t_141⟩)))))
          have u_143 : G_142.1 5 = (G.1 5) := by rw [eG_142]; exact (gs_ne (by decide)).trans u_126
          have u_144 : G_142.1 6 = (G.1 6) := by rw [eG_142]; exact (gs_ne (by decide)).trans u_127
          have u_145 : G_142.1 10 = (G.1 10) := by rw [eG_142]; exact (gs_ne (by decide)).trans u_129
          have u_146 : G_142.1 9 = 1 := by rw [eG_142]; exact gs_eq
          clear oq hz
          refine lv_goto (tgt := 83) hx hb dX8_startsThing_62 (by decide) ?_
          refine lv_aload_n hx hb dX8_startsThing_83 rfl (lv_at hl 1 rfl) ?_
          refine lv_iconst (v := 0) hx hb dX8_startsThing_84 (by decide) ?_
          obtain ⟨_, ⟨q_148, q_156, q_157, rfl, kq_148, kq_150, kq_156, kq_157, rq_149, rq_152, t_158⟩, o_c_147⟩ := hH h0 _ k_h0
          refine hg_put (ty := .boolean) hx hb hG igX8 tyX8 tyX8_ok nmX8 hown hK hS o_c_147 (AF.of k_h0) rfl 4 (by decide) (hG _ mw_206) rfl (by decide +kernel) (by rfl) (by rfl) (Nat.le_of_ble_eq_true rfl) dX8_startsThing_85 (fun H locs o_c_147 hz oq hS => ?_)
          obtain ⟨G_159, eG_159⟩ : ∃ z : Gh, z = gset G_142 8 0 := ⟨_, rfl⟩
          have hH : HT g Ty G_159 H := by rw [eG_159]; exact HT.putN 8 0 hH k_h0 ⟨q_148, q_156, q_157, rfl, kq_148, kq_150, kq_156, kq_157, rq_149, (rgu (rg_w rl_0 (by decide) (by decide))), t_158⟩ o_c_147 oq (Or.inr (Or.inr (Or.inr (Or.inr (Or.inl ⟨by decide, t_158⟩)))))
          have u_160 : G_159.1 5 = (G.1 5) := by rw [eG_159]; exact (gs_ne (by decide)).trans u_143
          have u_161 : G_159.1 6 = (G.1 6) := by rw [eG_159]; exact (gs_ne (by decide)).trans u_144
          have u_162 : G_159.1 10 = (G.1 10) := by rw [eG_159]; exact (gs_ne (by decide)).trans u_145
          have u_163 : G_159.1 9 = 1 := by rw [eG_159]; exact (gs_ne (by decide)).trans u_146
          have u_164 : G_159.1 8 = 0 := by rw [eG_159]; exact gs_eq
          clear oq hz
          refine lv_iconst (v := 1) hx hb dX8_startsThing_88 (by decide) ?_
          exact W.zret hx hb hr rfl (fun t ht hWm => ⟨⟨1, (Ty, G_159), rfl, ⟨rg_w rl_1 (by decide) (by decide), ⟨rfl, st_dig hW eGx_124 eG_142 eG_159 (dg_y hx_67.2 c_68)⟩⟩, by show HT g Ty G_159 t.heap; rw [ht]; exact hH⟩, hS.F ht⟩) hS.2.2 dX8_startsThing_89
    · have r_165 : rgI (40) (40) a0 := rg_w (rg_eq rl_40 c_2) (by decide) (by decide)
      refine lv_aload_n hx hb dX8_startsThing_21 rfl (lv_at hl 0 rfl) ?_
      obtain ⟨_, ⟨q_167, q_175, q_176, rfl, kq_167, kq_169, kq_175, kq_176, rq_168, rq_171, t_177⟩, o_c_166⟩ := hH h0 _ k_h0
      refine va_calli (va_runV (As := []) (rest := []) ⟨hx, hb, hml, hown, hts⟩ (c_X8_opens l g Ty G s.heap.size h0 k_h0 hW hp) (cwV 0 hts (gwV mw_439 mw_441 mw_2 mw_81 mw_442) rfl rfl rfl hv_X8_opens ⟨Nat.le_of_ble_eq_true rfl, Nat.le_of_ble_eq_true rfl⟩) ⟨PcT_blind, hg_recv hK o_c_166 rfl, PcT_pre hK hH⟩ rfl rfl hl.1 rfl (lv_room (Nat.le_of_ble_eq_true rfl)) dX8_startsThing_22 ⟨Nat.zero_le _, Nat.zero_le _⟩) hS (fun q _ h => AF.mono hS.1 h) (fun q h => AF.mono hS.1 h) (fun x_178 ux_178 t H locs ht hvm hx_178 hB hz hk hS => ?_)
      obtain ⟨hx_178, fx_178⟩ := hx_178
      obtain ⟨eTx_178, eGx_178⟩ := fx_178
      obtain ⟨G_179, eG_179⟩ : ∃ z, z = ux_178.2 := ⟨_, rfl⟩
      rw [← eG_179] at eGx_178
      have hH : HT g Ty G_179 H := by rw [← ht, ← eTx_178, eG_179]; exact hB
      have rx_178 : rgI (0) (1) x_178 := hx_178
      exact W.zret hx hb hr (nz01 rx_178) (fun t ht hWm => ⟨⟨x_178, (Ty, G_179), rfl, ⟨rg_w rx_178 (by decide) (by decide), ⟨rfl, st_open eGx_178 c_2⟩⟩, by show HT g Ty G_179 t.heap; rw [ht]; exact hH⟩, hS.F ht⟩) hS.2.2 dX8_startsThing_25
  · have r_180 : rgI (45) (45) a0 := rg_w (rg_eq rl_45 c_1) (by decide) (by decide)
    refine lv_aload_n hx hb dX8_startsThing_6 rfl (lv_at hl 0 rfl) ?_
    refine lv_sipush (v := 256) hx hb dX8_startsThing_7 (by decide) ?_
    obtain ⟨_, ⟨q_182, q_190, q_191, rfl, kq_182, kq_184, kq_190, kq_191, rq_183, rq_186, t_192⟩, o_c_181⟩ := hH h0 _ k_h0
    refine va_callv (va_runV (As := [.int 256]) (rest := []) ⟨hx, hb, hml, hown, hts⟩ (c_X8_hold l g Ty G s.heap.size h0 256 k_h0 (rg_w hW.1 (by decide) (by decide))) (cwV 1 hts (gwV mw_435 mw_437 mw_1 mw_81 mw_438) rfl rfl rfl hv_X8_hold ⟨Nat.le_of_ble_eq_true rfl, Nat.le_of_ble_eq_true rfl⟩) ⟨PcT_blind, hg_recv hK o_c_181 rfl, PcT_pre hK hH⟩ rfl rfl hl.1 rfl (lv_room (Nat.le_of_ble_eq_true rfl)) dX8_startsThing_10 ⟨Nat.zero_le _, Nat.zero_le _⟩) hS (fun q _ h => AF.mono hS.1 h) (fun q h => AF.mono hS.1 h) (fun ux_193 t H locs ht hvm hx_193 hB hz hk hS => ?_)
    obtain ⟨eTx_193, eGx_193⟩ := hx_193
    obtain ⟨G_194, eG_194⟩ : ∃ z, z = ux_193.2 := ⟨_, rfl⟩
    rw [← eG_194] at eGx_193
    have u_195 : G_194.1 6 = (G.1 6) := (HoldR.keep eGx_193 (by decide))
    have u_196 : G_194.1 9 = (G.1 9) := (HoldR.keep eGx_193 (by decide))
    have u_197 : G_194.1 10 = (G.1 10) := (HoldR.keep eGx_193 (by decide))
    have hH : HT g Ty G_194 H := by rw [← ht, ← eTx_193, eG_194]; exact hB
    refine lv_iconst (v := 1) hx hb dX8_startsThing_13 (by decide) ?_
    exact W.zret hx hb hr rfl (fun t ht hWm => ⟨⟨1, (Ty, G_194), rfl, ⟨rg_w rl_1 (by decide) (by decide), ⟨rfl, st_neg hW hp eGx_193 c_1⟩⟩, by show HT g Ty G_194 t.heap; rw [ht]; exact hH⟩, hS.F ht⟩) hS.2.2 dX8_startsThing_14

set_option maxHeartbeats 4000000 in
set_option maxRecDepth 100000 in
theorem c_X8_read (l : Launch) (g : Gx) (Ty : TyM) (G : Gh) (sz : Nat) (h0 : Nat) (b0 : Nat) (k_h0 : Ty h0 = some (23, 0)) (k_b0 : Ty b0 = some (19, 0)) (hN : g.2.2 55 ≠ g.2.2 51) : Met l yX8_read (wsG yX8_read cX8_read 4 (some .int)) ({ frames := 8, cells := 0, slots := 0, locals := 181 }) (PcO g Ty G sz [.ref h0, .ref b0]) (QwI g Ty sz (fun r u => u.1 = Ty ∧ RLx g G u.2 ∧ (RuC g G → r = RuA (G.2.1 (g.2.2 55)) (G.1 0)))) 0 0 (AF Ty sz) := by
  refine Met.ofW (cc := cX8_read) (maxL := 4) (ret := (some .int)) (by decide) rfl ?_
  intro p e s m args below meth c s₁ B hml hv
  obtain ⟨rfl, hsz, hK, hH, hO⟩ := hv
  subst hsz
  have hx := B.exec
  have hb := B.bytes
  have hr := B.returns
  have hts := atoms_spec (ws := (wsG yX8_read cX8_read 4 (some .int))) B.pre
  have hG : ∀ w ∈ GW, w.before ([.ref h0, .ref b0] : List Value).toArray s = true := fun w h => hts w (List.mem_cons_of_mem _ h)
  have hown : s.vm.findClass RX8 = some m.cls := findClass_of_methodNamed B.named
  have hlocks := B.notSynchronized
  have hl := lv_entry [.ref h0, .ref b0] (n := 4) (Nat.le_of_ble_eq_true rfl)
  rw [lg_entry_eq]
  generalize (lg_sl [.ref h0, .ref b0] ++ List.replicate (4 - (lg_sl [.ref h0, .ref b0]).length) Slot.unset).toArray = ls at hl ⊢
  have hl : lv_has ls 4 [(0, .ref h0), (1, .ref b0)] := hl
  have hS : va_S (AF Ty s.heap.size) s.heap s.heap [] := va_S.rf
  have h80 : rgI (0) (80) (G.1 0) := ht19 hH k_b0
  have L_32 : ∀ (n : Nat) (H : Heap) (locs : List Loc) (G_32 : Gh) (y2_32 : Int32) (ls : Array Slot), rgI (0) (40) (G_32.1 5) → rgI (0) (40) y2_32 → RW g G_32 → (G_32.1 5).toInt ≤ y2_32.toInt → RLx g G G_32 → RdI g G G_32 y2_32 → (40 - (y2_32).toInt).toNat < n → lv_has ls 4 [(0, .ref h0), (1, .ref b0), (2, .int y2_32)] → HT g Ty G_32 H → va_S (AF Ty s.heap.size) s.heap H locs → Wm p l e (wsG yX8_read cX8_read 4 (some .int)) ({ frames := 8, cells := 0, slots := 0, locals := 181 }) s m [.ref h0, .ref b0] below meth c H locs (0) (0) (QwI g Ty s.heap.size (fun r u => u.1 = Ty ∧ RLx g G u.2 ∧ (RuC g G → r = RuA (G.2.1 (g.2.2 55)) (G.1 0)))) 0 0 (AF Ty s.heap.size) (F0 m 32 ls []) := by
    intro n
    induction n with
    | zero => intro H locs G_32 y2_32 ls rg5_32 ry2_32 hi0_32 hi1_32 hi2_32 hi3_32 hm; exact absurd hm (Nat.not_lt_zero _)
    | succ n ih_32 =>
      intro H locs G_32 y2_32 ls rg5_32 ry2_32 hi0_32 hi1_32 hi2_32 hi3_32 hm_32 hl hH hS
      refine lv_iload_n hx hb dX8_read_32 rfl (lv_at hl 2 rfl) ?_
      refine lv_aload_n hx hb dX8_read_33 rfl (lv_at hl 1 rfl) ?_
      obtain ⟨_, ⟨rfl, kq_2, rq_3, t_4⟩, o_c_1⟩ := hH b0 _ k_b0
      refine hg_getN hx hb hG igX9 hown hK o_c_1 rfl 1 (by decide) ((hK.2.1 _ nwf_175).use rfl) rfl dX8_read_34 ?_
      refine lv_icmp_ge (tgt := 86) hx hb dX8_read_37 (by decide) (fun c_5 => ?_) (fun c_5 => ?_)
      · have r_6 : rgI (0) (40) (G_32.1 0) := rg_w (rg_leL rq_3 ry2_32 c_5) (by decide) (by decide)
        refine lv_aload_n hx hb dX8_read_86 rfl (lv_at hl 1 rfl) ?_
        refine hg_getN hx hb hG igX9 hown hK o_c_1 rfl 1 (by decide) ((hK.2.1 _ nwf_175).use rfl) rfl dX8_read_87 ?_
        refine lv_bipush (v := 40) hx hb dX8_read_90 (by decide) ?_
        refine lv_icmp_le (tgt := 98) hx hb dX8_read_92 (by decide) (fun c_7 => ?_) (fun c_7 => ?_)
        · refine lv_aload_n hx hb dX8_read_98 rfl (lv_at hl 1 rfl) ?_
          refine hg_getN hx hb hG igX9 hown hK o_c_1 rfl 1 (by decide) ((hK.2.1 _ nwf_175).use rfl) rfl dX8_read_99 ?_
          refine lv_if_le (tgt := 124) hx hb dX8_read_102 (by decide) (fun c_8 => ?_) (fun c_8 => ?_)
          · have r_9 : rgI (0) (0) (G_32.1 0) := rg_w (rg_leL r_6 rl_0 c_8) (by decide) (by decide)
            refine lv_aload_n hx hb dX8_read_124 rfl (lv_at hl 0 rfl) ?_
            refine lv_iconst (v := 1) hx hb dX8_read_125 (by decide) ?_
            obtain ⟨_, ⟨q_11, q_19, q_20, rfl, kq_11, kq_13, kq_19, kq_20, rq_12, rq_15, t_21⟩, o_c_10⟩ := hH h0 _ k_h0
            refine va_callv (va_runV (As := [.int 1]) (rest := []) ⟨hx, hb, hml, hown, hts⟩ (c_X8_release l g Ty G_32 H.size h0 1 k_h0 (rg_w rg5_32 (by decide) (by decide))) (cwV 1 hts (gwV mw_549 mw_551 mw_7 mw_81 mw_552) rfl rfl rfl hv_X8_release ⟨Nat.le_of_ble_eq_true rfl, Nat.le_of_ble_eq_true rfl⟩) ⟨PcT_blind, hg_recv hK o_c_10 rfl, PcT_pre hK hH⟩ rfl rfl hl.1 rfl (lv_room (Nat.le_of_ble_eq_true rfl)) dX8_read_126 ⟨Nat.zero_le _, Nat.zero_le _⟩) hS (fun q _ h => AF.mono hS.1 h) (fun q h => AF.mono hS.1 h) (fun ux_22 t H locs ht hvm hx_22 hB hz hk hS => ?_)
            obtain ⟨eTx_22, eGx_22⟩ := hx_22
            obtain ⟨G_23, eG_23⟩ : ∃ z, z = ux_22.2 := ⟨_, rfl⟩
            rw [← eG_23] at eGx_22
            have w_24 : rgI (0) (40) (G_23.1 5) := RelR.w5 eGx_22 (rg_w rg5_32 (by decide) (by decide))
            have hH : HT g Ty G_23 H := by rw [← ht, ← eTx_22, eG_23]; exact hB
            refine lv_iconst (v := (-1)) hx hb dX8_read_129 (by decide) ?_
            exact W.iret hx hb hr (fun t ht hWm => ⟨⟨(-1), (Ty, G_23), rfl, ⟨rfl, ⟨(RLx.tr hi2_32 (RelR.fr eGx_22)), rd_zero h80 (by have q := c_8; rw [hi2_32.1 0 (by decide)] at q; exact q)⟩⟩, by show HT g Ty G_23 t.heap; rw [ht]; exact hH⟩, hS.F ht⟩) hS.2.2 dX8_read_130
          · have r_25 : rgI (1) (40) (G_32.1 0) := rg_w (rg_ltR rl_0 r_6 (nle_lt c_8)) (by decide) (by decide)
            refine lv_aload_n hx hb dX8_read_105 rfl (lv_at hl 0 rfl) ?_
            obtain ⟨_, ⟨q_27, q_35, q_36, rfl, kq_27, kq_29, kq_35, kq_36, rq_28, rq_31, t_37⟩, o_c_26⟩ := hH h0 _ k_h0
            refine hg_get hx hb hG igX8 hown hK o_c_26 rfl 4 (by decide) (hG _ mw_206) rfl dX8_read_106 ?_
            refine lv_if_ne (tgt := 119) hx hb dX8_read_109 (by decide) (fun c_38 => ?_) (fun c_38 => ?_)
            · have r_39 : rgI (1) (1) (G_32.1 8) := rg_w (rg_neL rq_31 rl_0 c_38) (by decide) (by decide)
              refine lv_aload_n hx hb dX8_read_119 rfl (lv_at hl 1 rfl) ?_
              refine hg_getN hx hb hG igX9 hown hK o_c_1 rfl 1 (by decide) ((hK.2.1 _ nwf_175).use rfl) rfl dX8_read_120 ?_
              exact W.iret hx hb hr (fun t ht hWm => ⟨⟨(G_32.1 0), (Ty, G_32), rfl, ⟨rfl, ⟨hi2_32, fun hc => (hi2_32.1 0 (by decide)).trans (rd_open (rd_end hi3_32 (Or.inl (by have q := c_5; rw [hi2_32.1 0 (by decide)] at q; exact q))) (by have q := c_7; rw [hi2_32.1 0 (by decide)] at q; exact q) (by have q := (nle_lt c_8); rw [hi2_32.1 0 (by decide)] at q; exact q) hi0_32 (Or.inl c_38) (ht23 hH k_h0).2 hc)⟩⟩, by show HT g Ty G_32 t.heap; rw [ht]; exact hH⟩, hS.F ht⟩) hS.2.2 dX8_read_123
            · have r_40 : rgI (0) (0) (G_32.1 8) := rg_w (rg_eq rl_0 c_38) (by decide) (by decide)
              refine lv_aload_n hx hb dX8_read_112 rfl (lv_at hl 0 rfl) ?_
              refine hg_get hx hb hG igX8 hown hK o_c_26 rfl 6 (by decide) (hG _ mw_208) rfl dX8_read_113 ?_
              refine lv_if_le (tgt := 124) hx hb dX8_read_116 (by decide) (fun c_41 => ?_) (fun c_41 => ?_)
              · have r_42 : rgI (-2147483648) (0) (G_32.1 6) := rg_w (rg_leL (rg_top (G_32.1 6)) rl_0 c_41) (by decide) (by decide)
                refine lv_aload_n hx hb dX8_read_124 rfl (lv_at hl 0 rfl) ?_
                refine lv_iconst (v := 1) hx hb dX8_read_125 (by decide) ?_
                refine va_callv (va_runV (As := [.int 1]) (rest := []) ⟨hx, hb, hml, hown, hts⟩ (c_X8_release l g Ty G_32 H.size h0 1 k_h0 (rg_w rg5_32 (by decide) (by decide))) (cwV 1 hts (gwV mw_549 mw_551 mw_7 mw_81 mw_552) rfl rfl rfl hv_X8_release ⟨Nat.le_of_ble_eq_true rfl, Nat.le_of_ble_eq_true rfl⟩) ⟨PcT_blind, hg_recv hK o_c_26 rfl, PcT_pre hK hH⟩ rfl rfl hl.1 rfl (lv_room (Nat.le_of_ble_eq_true rfl)) dX8_read_126 ⟨Nat.zero_le _, Nat.zero_le _⟩) hS (fun q _ h => AF.mono hS.1 h) (fun q h => AF.mono hS.1 h) (fun ux_43 t H locs ht hvm hx_43 hB hz hk hS => ?_)
                obtain ⟨eTx_43, eGx_43⟩ := hx_43
                obtain ⟨G_44, eG_44⟩ : ∃ z, z = ux_43.2 := ⟨_, rfl⟩
                rw [← eG_44] at eGx_43
                have w_45 : rgI (0) (40) (G_44.1 5) := RelR.w5 eGx_43 (rg_w rg5_32 (by decide) (by decide))
                have hH : HT g Ty G_44 H := by rw [← ht, ← eTx_43, eG_44]; exact hB
                refine lv_iconst (v := (-1)) hx hb dX8_read_129 (by decide) ?_
                exact W.iret hx hb hr (fun t ht hWm => ⟨⟨(-1), (Ty, G_44), rfl, ⟨rfl, ⟨(RLx.tr hi2_32 (RelR.fr eGx_43)), rd_fine (rd_end hi3_32 (Or.inl (by have q := c_5; rw [hi2_32.1 0 (by decide)] at q; exact q))) (by have q := c_7; rw [hi2_32.1 0 (by decide)] at q; exact q) (by have q := (nle_lt c_8); rw [hi2_32.1 0 (by decide)] at q; exact q) hi0_32 c_38 c_41⟩⟩, by show HT g Ty G_44 t.heap; rw [ht]; exact hH⟩, hS.F ht⟩) hS.2.2 dX8_read_130
              · have r_46 : rgI (1) (2147483647) (G_32.1 6) := rg_w (rg_ltR rl_0 (rg_top (G_32.1 6)) (nle_lt c_41)) (by decide) (by decide)
                refine lv_aload_n hx hb dX8_read_119 rfl (lv_at hl 1 rfl) ?_
                refine hg_getN hx hb hG igX9 hown hK o_c_1 rfl 1 (by decide) ((hK.2.1 _ nwf_175).use rfl) rfl dX8_read_120 ?_
                exact W.iret hx hb hr (fun t ht hWm => ⟨⟨(G_32.1 0), (Ty, G_32), rfl, ⟨rfl, ⟨hi2_32, fun hc => (hi2_32.1 0 (by decide)).trans (rd_open (rd_end hi3_32 (Or.inl (by have q := c_5; rw [hi2_32.1 0 (by decide)] at q; exact q))) (by have q := c_7; rw [hi2_32.1 0 (by decide)] at q; exact q) (by have q := (nle_lt c_8); rw [hi2_32.1 0 (by decide)] at q; exact q) hi0_32 (Or.inr (nle_lt c_41)) (ht23 hH k_h0).2 hc)⟩⟩, by show HT g Ty G_32 t.heap; rw [ht]; exact hH⟩, hS.F ht⟩) hS.2.2 dX8_read_123
        · exact rg_no rl_40 r_6 (nle_lt c_7) (by decide)
      · have r_47 : rgI (1) (80) (G_32.1 0) := rg_w (rg_ltR ry2_32 rq_3 (nle_lt c_5)) (by decide) (by decide)
        refine lv_iload_n hx hb dX8_read_40 rfl (lv_at hl 2 rfl) ?_
        refine lv_bipush (v := 40) hx hb dX8_read_41 (by decide) ?_
        refine lv_icmp_ge (tgt := 86) hx hb dX8_read_43 (by decide) (fun c_48 => ?_) (fun c_48 => ?_)
        · have r_49 : rgI (40) (40) y2_32 := rg_w (rg_leR rl_40 ry2_32 c_48) (by decide) (by decide)
          refine lv_aload_n hx hb dX8_read_86 rfl (lv_at hl 1 rfl) ?_
          refine hg_getN hx hb hG igX9 hown hK o_c_1 rfl 1 (by decide) ((hK.2.1 _ nwf_175).use rfl) rfl dX8_read_87 ?_
          refine lv_bipush (v := 40) hx hb dX8_read_90 (by decide) ?_
          refine lv_icmp_le (tgt := 98) hx hb dX8_read_92 (by decide) (fun c_50 => ?_) (fun c_50 => ?_)
          · have r_51 : rgI (1) (40) (G_32.1 0) := rg_w (rg_leL r_47 rl_40 c_50) (by decide) (by decide)
            refine lv_aload_n hx hb dX8_read_98 rfl (lv_at hl 1 rfl) ?_
            refine hg_getN hx hb hG igX9 hown hK o_c_1 rfl 1 (by decide) ((hK.2.1 _ nwf_175).use rfl) rfl dX8_read_99 ?_
            refine lv_if_le (tgt := 124) hx hb dX8_read_102 (by decide) (fun c_52 => ?_) (fun c_52 => ?_)
            · exact rg_no2 r_51 rl_0 c_52 (by decide)
            · refine lv_aload_n hx hb dX8_read_105 rfl (lv_at hl 0 rfl) ?_
              obtain ⟨_, ⟨q_54, q_62, q_63, rfl, kq_54, kq_56, kq_62, kq_63, rq_55, rq_58, t_64⟩, o_c_53⟩ := hH h0 _ k_h0
              refine hg_get hx hb hG igX8 hown hK o_c_53 rfl 4 (by decide) (hG _ mw_206) rfl dX8_read_106 ?_
              refine lv_if_ne (tgt := 119) hx hb dX8_read_109 (by decide) (fun c_65 => ?_) (fun c_65 => ?_)
              · have r_66 : rgI (1) (1) (G_32.1 8) := rg_w (rg_neL rq_58 rl_0 c_65) (by decide) (by decide)
                refine lv_aload_n hx hb dX8_read_119 rfl (lv_at hl 1 rfl) ?_
                refine hg_getN hx hb hG igX9 hown hK o_c_1 rfl 1 (by decide) ((hK.2.1 _ nwf_175).use rfl) rfl dX8_read_120 ?_
                exact W.iret hx hb hr (fun t ht hWm => ⟨⟨(G_32.1 0), (Ty, G_32), rfl, ⟨rfl, ⟨hi2_32, fun hc => (hi2_32.1 0 (by decide)).trans (rd_open (rd_end hi3_32 (Or.inr c_48)) (by have q := c_50; rw [hi2_32.1 0 (by decide)] at q; exact q) (by have q := (nle_lt c_52); rw [hi2_32.1 0 (by decide)] at q; exact q) hi0_32 (Or.inl c_65) (ht23 hH k_h0).2 hc)⟩⟩, by show HT g Ty G_32 t.heap; rw [ht]; exact hH⟩, hS.F ht⟩) hS.2.2 dX8_read_123
              · have r_67 : rgI (0) (0) (G_32.1 8) := rg_w (rg_eq rl_0 c_65) (by decide) (by decide)
                refine lv_aload_n hx hb dX8_read_112 rfl (lv_at hl 0 rfl) ?_
                refine hg_get hx hb hG igX8 hown hK o_c_53 rfl 6 (by decide) (hG _ mw_208) rfl dX8_read_113 ?_
                refine lv_if_le (tgt := 124) hx hb dX8_read_116 (by decide) (fun c_68 => ?_) (fun c_68 => ?_)
                · have r_69 : rgI (-2147483648) (0) (G_32.1 6) := rg_w (rg_leL (rg_top (G_32.1 6)) rl_0 c_68) (by decide) (by decide)
                  refine lv_aload_n hx hb dX8_read_124 rfl (lv_at hl 0 rfl) ?_
                  refine lv_iconst (v := 1) hx hb dX8_read_125 (by decide) ?_
                  refine va_callv (va_runV (As := [.int 1]) (rest := []) ⟨hx, hb, hml, hown, hts⟩ (c_X8_release l g Ty G_32 H.size h0 1 k_h0 (rg_w rg5_32 (by decide) (by decide))) (cwV 1 hts (gwV mw_549 mw_551 mw_7 mw_81 mw_552) rfl rfl rfl hv_X8_release ⟨Nat.le_of_ble_eq_true rfl, Nat.le_of_ble_eq_true rfl⟩) ⟨PcT_blind, hg_recv hK o_c_53 rfl, PcT_pre hK hH⟩ rfl rfl hl.1 rfl (lv_room (Nat.le_of_ble_eq_true rfl)) dX8_read_126 ⟨Nat.zero_le _, Nat.zero_le _⟩) hS (fun q _ h => AF.mono hS.1 h) (fun q h => AF.mono hS.1 h) (fun ux_70 t H locs ht hvm hx_70 hB hz hk hS => ?_)
                  obtain ⟨eTx_70, eGx_70⟩ := hx_70
                  obtain ⟨G_71, eG_71⟩ : ∃ z, z = ux_70.2 := ⟨_, rfl⟩
                  rw [← eG_71] at eGx_70
                  have w_72 : rgI (0) (40) (G_71.1 5) := RelR.w5 eGx_70 (rg_w rg5_32 (by decide) (by decide))
                  have hH : HT g Ty G_71 H := by rw [← ht, ← eTx_70, eG_71]; exact hB
                  refine lv_iconst (v := (-1)) hx hb dX8_read_129 (by decide) ?_
                  exact W.iret hx hb hr (fun t ht hWm => ⟨⟨(-1), (Ty, G_71), rfl, ⟨rfl, ⟨(RLx.tr hi2_32 (RelR.fr eGx_70)), rd_fine (rd_end hi3_32 (Or.inr c_48)) (by have q := c_50; rw [hi2_32.1 0 (by decide)] at q; exact q) (by have q := (nle_lt c_52); rw [hi2_32.1 0 (by decide)] at q; exact q) hi0_32 c_65 c_68⟩⟩, by show HT g Ty G_71 t.heap; rw [ht]; exact hH⟩, hS.F ht⟩) hS.2.2 dX8_read_130
                · have r_73 : rgI (1) (2147483647) (G_32.1 6) := rg_w (rg_ltR rl_0 (rg_top (G_32.1 6)) (nle_lt c_68)) (by decide) (by decide)
                  refine lv_aload_n hx hb dX8_read_119 rfl (lv_at hl 1 rfl) ?_
                  refine hg_getN hx hb hG igX9 hown hK o_c_1 rfl 1 (by decide) ((hK.2.1 _ nwf_175).use rfl) rfl dX8_read_120 ?_
                  exact W.iret hx hb hr (fun t ht hWm => ⟨⟨(G_32.1 0), (Ty, G_32), rfl, ⟨rfl, ⟨hi2_32, fun hc => (hi2_32.1 0 (by decide)).trans (rd_open (rd_end hi3_32 (Or.inr c_48)) (by have q := c_50; rw [hi2_32.1 0 (by decide)] at q; exact q) (by have q := (nle_lt c_52); rw [hi2_32.1 0 (by decide)] at q; exact q) hi0_32 (Or.inr (nle_lt c_68)) (ht23 hH k_h0).2 hc)⟩⟩, by show HT g Ty G_32 t.heap; rw [ht]; exact hH⟩, hS.F ht⟩) hS.2.2 dX8_read_123
          · have r_74 : rgI (41) (80) (G_32.1 0) := rg_w (rg_ltR rl_40 r_47 (nle_lt c_50)) (by decide) (by decide)
            refine lv_bipush (v := 40) hx hb dX8_read_95 (by decide) ?_
            exact W.iret hx hb hr (fun t ht hWm => ⟨⟨40, (Ty, G_32), rfl, ⟨rfl, ⟨hi2_32, rd_far (rd_end hi3_32 (Or.inr c_48)) (by have q := (nle_lt c_50); rw [hi2_32.1 0 (by decide)] at q; exact q)⟩⟩, by show HT g Ty G_32 t.heap; rw [ht]; exact hH⟩, hS.F ht⟩) hS.2.2 dX8_read_97
        · have r_75 : rgI (0) (39) y2_32 := rg_w (rg_ltL ry2_32 rl_40 (nle_lt c_48)) (by decide) (by decide)
          refine lv_aload_n hx hb dX8_read_46 rfl (lv_at hl 1 rfl) ?_
          refine lv_iload_n hx hb dX8_read_47 rfl (lv_at hl 2 rfl) ?_
          refine vp_callSi (W.runV (As := [.int y2_32]) (rest := []) ⟨hx, hb, hml, hown, hts⟩ (c_X9_signAt l g Ty G_32 b0 y2_32 k_b0) (cwV 1 hts (gwV mw_427 mw_428 mw_429 mw_79 mw_430) rfl rfl rfl hv_X9_signAt ⟨Nat.le_of_ble_eq_true rfl, Nat.le_of_ble_eq_true rfl⟩) ⟨PcH_blind, hg_recv hK o_c_1 rfl, PcH_pre hK hH⟩ rfl rfl hl.1 rfl (lv_room (Nat.le_of_ble_eq_true rfl)) dX8_read_48 ⟨Nat.zero_le _, Nat.zero_le _⟩) (fun x_76 hx_76 => ?_)
          refine lv_istore_n (lv' := [(3, .int x_76), (0, .ref h0), (1, .ref b0), (2, .int y2_32)]) hx hb dX8_read_51 rfl hl (by decide) rfl (fun ls hl => ?_)
          refine lv_aload_n hx hb dX8_read_52 rfl (lv_at hl 1 rfl) ?_
          obtain ⟨_, ⟨q_78, q_86, q_87, rfl, kq_78, kq_80, kq_86, kq_87, rq_79, rq_82, t_88⟩, o_c_77⟩ := hH h0 _ k_h0
          refine hg_get hx hb hG igX8 hown hK o_c_77 rfl 4 (by decide) (hG _ mw_206) rfl dX8_read_53 ?_
          refine lv_if_eq (tgt := 70) hx hb dX8_read_56 (by decide) (fun c_89 => ?_) (fun c_89 => ?_)
          · have r_90 : rgI (0) (0) (G_32.1 8) := rg_w (rg_eq rl_0 c_89) (by decide) (by decide)
            refine lv_aload_n hx hb dX8_read_70 rfl (lv_at hl 1 rfl) ?_
            refine lv_iload_n hx hb dX8_read_71 rfl (lv_at hl 0 rfl) ?_
            refine va_calli (va_runV (As := [.int x_76]) (rest := []) ⟨hx, hb, hml, hown, hts⟩ (c_X8_followsThing l g Ty G_32 H.size h0 x_76 k_h0 hi0_32 (by have h1 := hi1_32; have h2 := (r_75).2; omega)) (cwV 1 hts (gwV mw_537 mw_539 mw_4 mw_81 mw_540) rfl rfl rfl hv_X8_followsThing ⟨Nat.le_of_ble_eq_true rfl, Nat.le_of_ble_eq_true rfl⟩) ⟨PcT_blind, hg_recv hK o_c_77 rfl, PcT_pre hK hH⟩ rfl rfl hl.1 rfl (lv_room (Nat.le_of_ble_eq_true rfl)) dX8_read_72 ⟨Nat.zero_le _, Nat.zero_le _⟩) hS (fun q _ h => AF.mono hS.1 h) (fun q h => AF.mono hS.1 h) (fun x_91 ux_91 t H locs ht hvm hx_91 hB hz hk hS => ?_)
            obtain ⟨hx_91, fx_91⟩ := hx_91
            obtain ⟨eTx_91, eGx_91⟩ := fx_91
            obtain ⟨G_92, eG_92⟩ : ∃ z, z = ux_91.2 := ⟨_, rfl⟩
            rw [← eG_92] at eGx_91
            have hH : HT g Ty G_92 H := by rw [← ht, ← eTx_91, eG_92]; exact hB
            have rx_91 : rgI (0) (1) x_91 := hx_91
            refine lv_if_ne (tgt := 80) hx hb dX8_read_75 (by decide) (fun c_93 => ?_) (fun c_93 => ?_)
            · have r_94 : rgI (1) (1) x_91 := rg_w (rg_neL rx_91 rl_0 c_93) (by decide) (by decide)
              obtain ⟨x_95, ex_95⟩ : ∃ y : Int32, y = y2_32 + 1 := ⟨_, rfl⟩
              have rx_95 : rgI (1) (40) x_95 := by rw [ex_95]; exact rg_w (rg_add r_75 rl_1 (by decide) (by decide)) (by decide) (by decide)
              have qx_95 : x_95.toInt = (y2_32 : Int32).toInt + 1 := by rw [ex_95]; exact rg_addE r_75 rl_1 (by decide) (by decide)
              refine lv_iinc (v := x_95) (lv' := [(2, .int x_95), (3, .int x_76), (0, .ref h0), (1, .ref b0)]) hx hb dX8_read_80 hl (k := 3) rfl (by rw [ex_95]; rfl) (by decide) rfl (fun ls hl => ?_)
              refine lv_goto (tgt := 32) hx hb dX8_read_83 (by decide) ?_
              exact ih_32 H locs G_92 x_95 ls eGx_91.1.2.1.1 (rg_w rx_95 (by decide) (by decide)) eGx_91.1.2.1 (by have h1 := eGx_91.1.2.2; have h2 := hi1_32; have h3 := qx_95; omega) (RLx.tr hi2_32 eGx_91.1.1) (rd_step hi3_32 (rg_w r_75 (by decide) (by decide)) (by have q := (nle_lt c_5); rw [hi2_32.1 0 (by decide)] at q; exact q) (by have q := hx_76 (r_75).1 (nle_lt c_5); rw [hi2_32.2.1 _ hN] at q; exact q) c_89 eGx_91.2 c_93 ex_95) (by have h1 := qx_95; have h2 := r_75.1; have h3 := r_75.2; have h4 := hm_32; omega) (lv_sub hl [2, 3, 0] rfl) hH hS
            · have r_96 : rgI (0) (0) x_91 := rg_w (rg_eq rl_0 c_93) (by decide) (by decide)
              refine lv_iload_n hx hb dX8_read_78 rfl (lv_at hl 3 rfl) ?_
              exact W.iret hx hb hr (fun t ht hWm => ⟨⟨y2_32, (Ty, G_92), rfl, ⟨rfl, ⟨RLx.tr hi2_32 eGx_91.1.1, rd_no hi3_32 (rg_w r_75 (by decide) (by decide)) (by have q := (nle_lt c_5); rw [hi2_32.1 0 (by decide)] at q; exact q) (by have q := hx_76 (r_75).1 (nle_lt c_5); rw [hi2_32.2.1 _ hN] at q; exact q) c_89 eGx_91.2 c_93⟩⟩, by show HT g Ty G_92 t.heap; rw [ht]; exact hH⟩, hS.F ht⟩) hS.2.2 dX8_read_79
          · have r_97 : rgI (1) (1) (G_32.1 8) := rg_w (rg_neL rq_82 rl_0 c_89) (by decide) (by decide)
            refine lv_aload_n hx hb dX8_read_59 rfl (lv_at hl 1 rfl) ?_
            refine lv_iload_n hx hb dX8_read_60 rfl (lv_at hl 0 rfl) ?_
            refine va_calli (va_runV (As := [.int x_76]) (rest := []) ⟨hx, hb, hml, hown, hts⟩ (c_X8_startsThing l g Ty G_32 H.size h0 x_76 k_h0 hi0_32 (by have h1 := hi1_32; have h2 := (r_75).2; omega)) (cwV 1 hts (gwV mw_431 mw_433 mw_0 mw_81 mw_434) rfl rfl rfl hv_X8_startsThing ⟨Nat.le_of_ble_eq_true rfl, Nat.le_of_ble_eq_true rfl⟩) ⟨PcO_blind, hg_recv hK o_c_77 rfl, PcO_pre hK hH hO hS⟩ rfl rfl hl.1 rfl (lv_room (Nat.le_of_ble_eq_true rfl)) dX8_read_61 ⟨Nat.zero_le _, Nat.zero_le _⟩) hS (fun q _ h => AF.mono hS.1 h) (fun q h => AF.mono hS.1 h) (fun x_98 ux_98 t H locs ht hvm hx_98 hB hz hk hS => ?_)
            obtain ⟨hx_98, fx_98⟩ := hx_98
            obtain ⟨eTx_98, eGx_98⟩ := fx_98
            obtain ⟨G_99, eG_99⟩ : ∃ z, z = ux_98.2 := ⟨_, rfl⟩
            rw [← eG_99] at eGx_98
            have hH : HT g Ty G_99 H := by rw [← ht, ← eTx_98, eG_99]; exact hB
            have rx_98 : rgI (0) (1) x_98 := hx_98
            refine lv_if_ne (tgt := 80) hx hb dX8_read_64 (by decide) (fun c_100 => ?_) (fun c_100 => ?_)
            · have r_101 : rgI (1) (1) x_98 := rg_w (rg_neL rx_98 rl_0 c_100) (by decide) (by decide)
              obtain ⟨x_102, ex_102⟩ : ∃ y : Int32, y = y2_32 + 1 := ⟨_, rfl⟩
              have rx_102 : rgI (1) (40) x_102 := by rw [ex_102]; exact rg_w (rg_add r_75 rl_1 (by decide) (by decide)) (by decide) (by decide)
              have qx_102 : x_102.toInt = (y2_32 : Int32).toInt + 1 := by rw [ex_102]; exact rg_addE r_75 rl_1 (by decide) (by decide)
              refine lv_iinc (v := x_102) (lv' := [(2, .int x_102), (3, .int x_76), (0, .ref h0), (1, .ref b0)]) hx hb dX8_read_80 hl (k := 3) rfl (by rw [ex_102]; rfl) (by decide) rfl (fun ls hl => ?_)
              refine lv_goto (tgt := 32) hx hb dX8_read_83 (by decide) ?_
              exact ih_32 H locs G_99 x_102 ls eGx_98.1.2.1.1 (rg_w rx_102 (by decide) (by decide)) eGx_98.1.2.1 (by have h1 := eGx_98.1.2.2; have h2 := hi1_32; have h3 := qx_102; omega) (RLx.tr hi2_32 eGx_98.1.1) (rd_step hi3_32 (rg_w r_75 (by decide) (by decide)) (by have q := (nle_lt c_5); rw [hi2_32.1 0 (by decide)] at q; exact q) (by have q := hx_76 (r_75).1 (nle_lt c_5); rw [hi2_32.2.1 _ hN] at q; exact q) ((b01 (rg_w r_97 (by decide) (by decide))).resolve_left c_89) eGx_98.2 c_100 ex_102) (by have h1 := qx_102; have h2 := r_75.1; have h3 := r_75.2; have h4 := hm_32; omega) (lv_sub hl [2, 3, 0] rfl) hH hS
            · have r_103 : rgI (0) (0) x_98 := rg_w (rg_eq rl_0 c_100) (by decide) (by decide)
              refine lv_goto (tgt := 78) hx hb dX8_read_67 (by decide) ?_
              refine lv_iload_n hx hb dX8_read_78 rfl (lv_at hl 3 rfl) ?_
              exact W.iret hx hb hr (fun t ht hWm => ⟨⟨y2_32, (Ty, G_99), rfl, ⟨rfl, ⟨RLx.tr hi2_32 eGx_98.1.1, rd_no hi3_32 (rg_w r_75 (by decide) (by decide)) (by have q := (nle_lt c_5); rw [hi2_32.1 0 (by decide)] at q; exact q) (by have q := hx_76 (r_75).1 (nle_lt c_5); rw [hi2_32.2.1 _ hN] at q; exact q) ((b01 (rg_w r_97 (by decide) (by decide))).resolve_left c_89) eGx_98.2 c_100⟩⟩, by show HT g Ty G_99 t.heap; rw [ht]; exact hH⟩, hS.F ht⟩) hS.2.2 dX8_read_79
  refine lv_aload_n hx hb dX8_read_0 rfl (lv_at hl 0 rfl) ?_
  refine lv_iconst (v := 0) hx hb dX8_read_1 (by decide) ?_
  obtain ⟨_, ⟨q_105, q_113, q_114, rfl, kq_105, kq_107, kq_113, kq_114, rq_106, rq_109, t_115⟩, o_c_104⟩ := hH h0 _ k_h0
  refine hg_put (ty := .int) hx hb hG igX8 tyX8 tyX8_ok nmX8 hown hK hS o_c_104 (AF.of k_h0) rfl 1 (by decide) (hG _ mw_203) rfl (by decide +kernel) rfl rfl (Nat.le_of_ble_eq_true rfl) dX8_read_2 (fun H locs o_c_104 hz oq hS => ?_)
  obtain ⟨G_116, eG_116⟩ : ∃ z : Gh, z = gset G 7 0 := ⟨_, rfl⟩
  have hH : HT g Ty G_116 H := by rw [eG_116]; exact HT.putN 7 0 hH k_h0 ⟨q_105, q_113, q_114, rfl, kq_105, kq_107, kq_113, kq_114, (rgu (rg_w rl_0 (by decide) (by decide))), rq_109, t_115⟩ o_c_104 oq (Or.inr (Or.inr (Or.inr (Or.inr (Or.inl ⟨by decide, t_115⟩)))))
  have u_117 : G_116.1 7 = 0 := by rw [eG_116]; exact gs_eq
  clear oq hz
  refine lv_aload_n hx hb dX8_read_5 rfl (lv_at hl 0 rfl) ?_
  refine lv_iconst (v := 0) hx hb dX8_read_6 (by decide) ?_
  obtain ⟨_, ⟨q_119, q_127, q_128, rfl, kq_119, kq_121, kq_127, kq_128, rq_120, rq_123, t_129⟩, o_c_118⟩ := hH h0 _ k_h0
  refine hg_put (ty := .int) hx hb hG igX8 tyX8 tyX8_ok nmX8 hown hK hS o_c_118 (AF.of k_h0) rfl 3 (by decide) (hG _ mw_205) rfl (by decide +kernel) rfl rfl (Nat.le_of_ble_eq_true rfl) dX8_read_7 (fun H locs o_c_118 hz oq hS => ?_)
  obtain ⟨G_130, eG_130⟩ : ∃ z : Gh, z = gset G_116 5 0 := ⟨_, rfl⟩
  have hH : HT g Ty G_130 H := by rw [eG_130]; exact HT.putN 5 0 hH k_h0 ⟨q_119, q_127, q_128, rfl, kq_119, kq_121, kq_127, kq_128, rq_120, rq_123, t_129⟩ o_c_118 oq (Or.inr (Or.inr (Or.inr (Or.inr (Or.inl ⟨by decide, t_129⟩)))))
  have u_131 : G_130.1 7 = 0 := by rw [eG_130]; exact (gs_ne (by decide)).trans u_117
  have u_132 : G_130.1 5 = 0 := by rw [eG_130]; exact gs_eq
  clear oq hz
  refine lv_aload_n hx hb dX8_read_10 rfl (lv_at hl 0 rfl) ?_
  refine lv_iconst (v := 1) hx hb dX8_read_11 (by decide) ?_
  obtain ⟨_, ⟨q_134, q_142, q_143, rfl, kq_134, kq_136, kq_142, kq_143, rq_135, rq_138, t_144⟩, o_c_133⟩ := hH h0 _ k_h0
  refine hg_put (ty := .boolean) hx hb hG igX8 tyX8 tyX8_ok nmX8 hown hK hS o_c_133 (AF.of k_h0) rfl 4 (by decide) (hG _ mw_206) rfl (by decide +kernel) (by rfl) (by rfl) (Nat.le_of_ble_eq_true rfl) dX8_read_12 (fun H locs o_c_133 hz oq hS => ?_)
  obtain ⟨G_145, eG_145⟩ : ∃ z : Gh, z = gset G_130 8 1 := ⟨_, rfl⟩
  have hH : HT g Ty G_145 H := by rw [eG_145]; exact HT.putN 8 1 hH k_h0 ⟨q_134, q_142, q_143, rfl, kq_134, kq_136, kq_142, kq_143, rq_135, (rgu (rg_w rl_1 (by decide) (by decide))), t_144⟩ o_c_133 oq (Or.inr (Or.inr (Or.inr (Or.inr (Or.inl ⟨by decide, t_144⟩)))))
  have u_146 : G_145.1 7 = 0 := by rw [eG_145]; exact (gs_ne (by decide)).trans u_131
  have u_147 : G_145.1 5 = 0 := by rw [eG_145]; exact (gs_ne (by decide)).trans u_132
  have u_148 : G_145.1 8 = 1 := by rw [eG_145]; exact gs_eq
  clear oq hz
  refine lv_aload_n hx hb dX8_read_15 rfl (lv_at hl 0 rfl) ?_
  refine lv_iconst (v := 0) hx hb dX8_read_16 (by decide) ?_
  obtain ⟨_, ⟨q_150, q_158, q_159, rfl, kq_150, kq_152, kq_158, kq_159, rq_151, rq_154, t_160⟩, o_c_149⟩ := hH h0 _ k_h0
  refine hg_put (ty := .int) hx hb hG igX8 tyX8 tyX8_ok nmX8 hown hK hS o_c_149 (AF.of k_h0) rfl 5 (by decide) (hG _ mw_207) rfl (by decide +kernel) rfl rfl (Nat.le_of_ble_eq_true rfl) dX8_read_17 (fun H locs o_c_149 hz oq hS => ?_)
  obtain ⟨G_161, eG_161⟩ : ∃ z : Gh, z = gset G_145 9 0 := ⟨_, rfl⟩
  have hH : HT g Ty G_161 H := by rw [eG_161]; exact HT.putN 9 0 hH k_h0 ⟨q_150, q_158, q_159, rfl, kq_150, kq_152, kq_158, kq_159, rq_151, rq_154, t_160⟩ o_c_149 oq (Or.inr (Or.inr (Or.inr (Or.inr (Or.inl ⟨by decide, t_160⟩)))))
  have u_162 : G_161.1 7 = 0 := by rw [eG_161]; exact (gs_ne (by decide)).trans u_146
  have u_163 : G_161.1 5 = 0 := by rw [eG_161]; exact (gs_ne (by decide)).trans u_147
  have u_164 : G_161.1 8 = 1 := by rw [eG_161]; exact (gs_ne (by decide)).trans u_148
  have u_165 : G_161.1 9 = 0 := by rw [eG_161]; exact gs_eq
  clear oq hz
  refine lv_aload_n hx hb dX8_read_20 rfl (lv_at hl 0 rfl) ?_
  refine lv_iconst (v := 0) hx hb dX8_read_21 (by decide) ?_
  obtain ⟨_, ⟨q_167, q_175, q_176, rfl, kq_167, kq_169, kq_175, kq_176, rq_168, rq_171, t_177⟩, o_c_166⟩ := hH h0 _ k_h0
  refine hg_put (ty := .int) hx hb hG igX8 tyX8 tyX8_ok nmX8 hown hK hS o_c_166 (AF.of k_h0) rfl 6 (by decide) (hG _ mw_208) rfl (by decide +kernel) rfl rfl (Nat.le_of_ble_eq_true rfl) dX8_read_22 (fun H locs o_c_166 hz oq hS => ?_)
  obtain ⟨G_178, eG_178⟩ : ∃ z : Gh, z = gset G_161 6 0 := ⟨_, rfl⟩
  have hH : HT g Ty G_178 H := by rw [eG_178]; exact HT.putN 6 0 hH k_h0 ⟨q_167, q_175, q_176, rfl, kq_167, kq_169, kq_175, kq_176, rq_168, rq_171, t_177⟩ o_c_166 oq (Or.inr (Or.inr (Or.inr (Or.inr (Or.inl ⟨by decide, t_177⟩)))))
  have u_179 : G_178.1 7 = 0 := by rw [eG_178]; exact (gs_ne (by decide)).trans u_162
  have u_180 : G_178.1 5 = 0 := by rw [eG_178]; exact (gs_ne (by decide)).trans u_163
  have u_181 : G_178.1 8 = 1 := by rw [eG_178]; exact (gs_ne (by decide)).trans u_164
  have u_182 : G_178.1 9 = 0 := by rw [eG_178]; exact (gs_ne (by decide)).trans u_165
  have u_183 : G_178.1 6 = 0 := by rw [eG_178]; exact gs_eq
  clear oq hz
  refine lv_aload_n hx hb dX8_read_25 rfl (lv_at hl 0 rfl) ?_
  refine lv_iconst (v := 0) hx hb dX8_read_26 (by decide) ?_
  obtain ⟨_, ⟨q_185, q_193, q_194, rfl, kq_185, kq_187, kq_193, kq_194, rq_186, rq_189, t_195⟩, o_c_184⟩ := hH h0 _ k_h0
  refine hg_put (ty := .int) hx hb hG igX8 tyX8 tyX8_ok nmX8 hown hK hS o_c_184 (AF.of k_h0) rfl 7 (by decide) (hG _ mw_209) rfl (by decide +kernel) rfl rfl (Nat.le_of_ble_eq_true rfl) dX8_read_27 (fun H locs o_c_184 hz oq hS => ?_)
  obtain ⟨G_196, eG_196⟩ : ∃ z : Gh, z = gset G_178 10 0 := ⟨_, rfl⟩
  have hH : HT g Ty G_196 H := by rw [eG_196]; exact HT.putN 10 0 hH k_h0 ⟨q_185, q_193, q_194, rfl, kq_185, kq_187, kq_193, kq_194, rq_186, rq_189, t_195⟩ o_c_184 oq (Or.inr (Or.inr (Or.inr (Or.inr (Or.inl ⟨by decide, t_195⟩)))))
  have u_197 : G_196.1 7 = 0 := by rw [eG_196]; exact (gs_ne (by decide)).trans u_179
  have u_198 : G_196.1 5 = 0 := by rw [eG_196]; exact (gs_ne (by decide)).trans u_180
  have u_199 : G_196.1 8 = 1 := by rw [eG_196]; exact (gs_ne (by decide)).trans u_181
  have u_200 : G_196.1 9 = 0 := by rw [eG_196]; exact (gs_ne (by decide)).trans u_182
  have u_201 : G_196.1 6 = 0 := by rw [eG_196]; exact (gs_ne (by decide)).trans u_183
  have u_202 : G_196.1 10 = 0 := by rw [eG_196]; exact gs_eq
  clear oq hz
  refine lv_iconst (v := 0) hx hb dX8_read_30 (by decide) ?_
  refine lv_istore_n (lv' := [(2, .int 0), (0, .ref h0), (1, .ref b0)]) hx hb dX8_read_31 rfl hl (by decide) rfl (fun ls hl => ?_)
  exact L_32 _ H locs G_196 0 ls (by rw [u_198]; exact rg_w rl_0 (by decide) (by decide)) (rg_w rl_0 (by decide) (by decide)) (si_0 (g := g) eG_116 eG_130 eG_145 eG_161 eG_178 eG_196).1.1 (by have h := (si_0 (g := g) eG_116 eG_130 eG_145 eG_161 eG_178 eG_196).1.2.2.1; have h7 := (si_0 (g := g) eG_116 eG_130 eG_145 eG_161 eG_178 eG_196).1.2.1.1; show _ ≤ (0 : Int32).toInt; have z : (0 : Int32).toInt = 0 := rfl; omega) (si_0 (g := g) eG_116 eG_130 eG_145 eG_161 eG_178 eG_196).2.2 (fun _ => ⟨(si_0 (g := g) eG_116 eG_130 eG_145 eG_161 eG_178 eG_196).1, by rw [(si_0 (g := g) eG_116 eG_130 eG_145 eG_161 eG_178 eG_196).2.1]⟩) (Nat.lt_succ_self _) (lv_sub hl [1, 2, 0] rfl) hH hS
