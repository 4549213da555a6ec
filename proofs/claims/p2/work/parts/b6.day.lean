set_option maxHeartbeats 4000000 in
set_option maxRecDepth 100000 in
theorem c_X12_act (l : Launch) (g : Gx) (Ty : TyM) (G : Gh) (sz : Nat) (h0 : Nat) (a0 : Int32) (k_h0 : Ty h0 = some (22, 0)) (pr0 : rgI (0) (316) a0) (Bd : Int) (hTI : TI Bd (G.2.1 (g.2.2 100))) (hBd : Bd ≤ 1950000) (hr1 : G.2.2 111 = some (g.2.2 111)) (hr3 : rgI 0 40 (G.1 113)) (hLD : LD g) (lmx : Int) (hok : AOK (G.2.1 (g.2.2 116)) (G.2.1 (g.2.2 130)) lmx a0.toNatClampNeg) : Met l yX12_act (wsG yX12_act cX12_act 5 (some .boolean)) ({ frames := 342, cells := 0, slots := 0, locals := 8026 }) (PcT g Ty G sz [.ref h0, .int a0]) (QwI g Ty sz (fun r u => (rgI (0) (1) r) ∧ u.1 = Ty ∧ FR [107, 108, 109, 110, 114, 127, 128, 118, 119, 120] [(g.2.2 100), (g.2.2 115), (g.2.2 125), (g.2.2 126), (g.2.2 129)] [106] G u.2 ∧ TI (Bd + 25) (u.2.2.1 (g.2.2 100)))) 0 0 (AF Ty sz) := by
  refine Met.ofW (cc := cX12_act) (maxL := 5) (ret := (some .boolean)) (by decide) rfl ?_
  intro p e s m args below meth c s₁ B hml hv
  obtain ⟨rfl, hsz, hK, hH⟩ := hv
  subst hsz
  have hx := B.exec
  have hb := B.bytes
  have hr := B.returns
  have hts := atoms_spec (ws := (wsG yX12_act cX12_act 5 (some .boolean))) B.pre
  have hG : ∀ w ∈ GW, w.before ([.ref h0, .int a0] : List Value).toArray s = true := fun w h => hts w (List.mem_cons_of_mem _ h)
  have hown : s.vm.findClass RX12 = some m.cls := findClass_of_methodNamed B.named
  have hlocks := B.notSynchronized
  have hl := lv_entry [.ref h0, .int a0] (n := 5) (Nat.le_of_ble_eq_true rfl)
  rw [lg_entry_eq]
  generalize (lg_sl [.ref h0, .int a0] ++ List.replicate (5 - (lg_sl [.ref h0, .int a0]).length) Slot.unset).toArray = ls at hl ⊢
  have hl : lv_has ls 5 [(0, .ref h0), (1, .int a0)] := hl
  have hmk : mdK g Ty := mdk_of hH k_h0
  have hS : va_S (AF Ty s.heap.size) s.heap s.heap [] := va_S.rf
  obtain ⟨⟨σ0, hTS0⟩, h10, hBB0⟩ := id hTI
  obtain ⟨ρ, hT⟩ := hTS0.1
  refine lv_aload_n hx hb dX12_act_0 rfl (lv_at hl 0 rfl) ?_
  obtain ⟨_, ⟨rfl, t_2, hk_3⟩, o_c_1⟩ := hH h0 _ k_h0
  refine hg_get hx hb hG igX12 hown hK o_c_1 rfl 30 (by decide) (hG _ mw_1314) rfl dX12_act_1 ?_
  refine lv_iload_n hx hb dX12_act_4 rfl (lv_at hl 1 rfl) ?_
  obtain ⟨_, rfl, o_c_4⟩ := hH (g.2.2 130) _ hk_3.2.2.2.2.2.2.2.2.2.2.2.1
  have o_c_4 : va_at g.1 vwCl ((g.2.2 130), .inl (g.2.1 1, 320, .inl (G.2.1 (g.2.2 130)))) s.heap := o_c_4
  refine hg_iald hx hb hK o_c_4 (rg_in (n := 320) pr0 (by decide) (by decide)) dX12_act_5 ?_
  refine lv_topi (fun x_5 ex_5 => ?_)
  refine lv_istore_n (lv' := [(2, .int x_5), (0, .ref h0), (1, .int a0)]) hx hb dX12_act_6 rfl hl (by decide) rfl (fun ls hl => ?_)
  refine lv_iload_n hx hb dX12_act_7 rfl (lv_at hl 0 rfl) ?_
  refine lv_bipush (v := 109) hx hb dX12_act_8 (by decide) ?_
  refine lv_icmp_eq (tgt := 19) hx hb dX12_act_10 (by decide) (fun c_6 => ?_) (fun c_6 => ?_)
  · have r_7 : rgI (109) (109) x_5 := rg_w (rg_eq rl_109 c_6) (by decide) (by decide)
    refine lv_aload_n hx hb dX12_act_19 rfl (lv_at hl 1 rfl) ?_
    refine lv_aload_n hx hb dX12_act_20 rfl (lv_at hl 1 rfl) ?_
    refine hg_get hx hb hG igX12 hown hK o_c_1 rfl 0 (by decide) (hG _ mw_1284) rfl dX12_act_21 ?_
    refine lv_aload_n hx hb dX12_act_24 rfl (lv_at hl 1 rfl) ?_
    refine hg_get hx hb hG igX12 hown hK o_c_1 rfl 30 (by decide) (hG _ mw_1314) rfl dX12_act_25 ?_
    refine lv_iload_n hx hb dX12_act_28 rfl (lv_at hl 2 rfl) ?_
    refine lv_iconst (v := 1) hx hb dX12_act_29 (by decide) ?_
    refine lv_iadd hx hb dX12_act_30 ?_
    refine lv_topi (fun x_8 ex_8 => ?_)
    have rx_8 : rgI (1) (317) x_8 := by rw [ex_8]; exact rg_w (rg_add pr0 rl_1 (by decide) (by decide)) (by decide) (by decide)
    have qx_8 : x_8.toInt = (a0 : Int32).toInt + 1 := by rw [ex_8]; exact rg_addE pr0 rl_1 (by decide) (by decide)
    refine hg_iald hx hb hK o_c_4 (rg_in (n := 320) rx_8 (by decide) (by decide)) dX12_act_31 ?_
    refine lv_topi (fun x_9 ex_9 => ?_)
    have ak_10 : x_9 = (G.2.1 (g.2.2 130)) (a0.toNatClampNeg + 1) := by rw [ex_9, ai_d (n := 1) ex_8 pr0 rfl (by decide)]
    refine va_calli (va_runV (As := [.ref (g.2.2 100), .int x_9]) (rest := []) ⟨hx, hb, hml, hown, hts⟩ (c_X12_goPath l g Ty G s.heap.size h0 (g.2.2 100) x_9 k_h0 (hk_3.1) ρ hT lmx (ps_eq hok.1 ak_10)) (cwV 2 hts (gwV mw_1499 mw_1501 mw_47 mw_88 mw_1502) rfl rfl rfl hv_X12_goPath ⟨Nat.le_of_ble_eq_true rfl, Nat.le_of_ble_eq_true rfl⟩) ⟨PcT_blind, hg_recv hK o_c_1 rfl, PcT_pre hK hH⟩ rfl rfl hl.1 rfl (lv_room (Nat.le_of_ble_eq_true rfl)) dX12_act_32 ⟨Nat.zero_le _, Nat.zero_le _⟩) hS (fun q _ h => AF.mono hS.1 h) (fun q h => AF.mono hS.1 h) (fun x_11 ux_11 t H locs ht hvm hx_11 hB hz hk hS => ?_)
    obtain ⟨hx_11, fx_11⟩ := hx_11
    obtain ⟨eTx_11, eGx_11⟩ := fx_11
    obtain ⟨G_12, eG_12⟩ : ∃ z, z = ux_11.2 := ⟨_, rfl⟩
    rw [← eG_12] at eGx_11
    obtain ⟨hfr_13, hex_14⟩ := eGx_11
    have fr_15 : FR [107, 108, 109, 110, 114, 127, 128, 118, 119, 120] [(g.2.2 100), (g.2.2 115), (g.2.2 125), (g.2.2 126), (g.2.2 129)] [106] G G_12 := FR.tr FR.rf hfr_13 (by decide) (fun _ _ => trivial) (by decide)
    have u_16 : G_12.1 113 = (G.1 113) := (hfr_13.1 113 (by decide))
    have w_17 : G_12.2.1 (g.2.2 100) = (G.2.1 (g.2.2 100)) := (hfr_13.2.1 (g.2.2 100) trivial)
    have w_18 : G_12.2.1 (g.2.2 116) = (G.2.1 (g.2.2 116)) := (hfr_13.2.1 (g.2.2 116) trivial)
    have w_19 : G_12.2.1 (g.2.2 130) = (G.2.1 (g.2.2 130)) := (hfr_13.2.1 (g.2.2 130) trivial)
    have w_20 : G_12.2.1 (g.2.2 111) = (G.2.1 (g.2.2 111)) := (hfr_13.2.1 (g.2.2 111) trivial)
    have w_21 : G_12.2.1 (g.2.2 129) = (G.2.1 (g.2.2 129)) := (hfr_13.2.1 (g.2.2 129) trivial)
    have u_22 : G_12.2.2 111 = some (g.2.2 111) := (hfr_13.2.2 111 (by decide)).trans hr1
    obtain ⟨x_23, ex_23⟩ : ∃ z : Int32, G_12.1 118 = z := ⟨_, rfl⟩
    obtain ⟨x_24, ex_24⟩ : ∃ z : Int32, G_12.1 119 = z := ⟨_, rfl⟩
    obtain ⟨x_25, ex_25⟩ : ∃ z : Int32, G_12.1 120 = z := ⟨_, rfl⟩
    have tp_26 := hex_14
    rw [ex_23] at tp_26
    have hH : HT g Ty G_12 H := by rw [← ht, ← eTx_11, eG_12]; exact hB
    have rx_11 : rgI (0) (1) x_11 := hx_11
    refine lv_if_ne (tgt := 40) hx hb dX12_act_35 (by decide) (fun c_27 => ?_) (fun c_27 => ?_)
    · have r_28 : rgI (1) (1) x_11 := rg_w (rg_neL rx_11 rl_0 c_27) (by decide) (by decide)
      refine lv_iload_n hx hb dX12_act_40 rfl (lv_at hl 0 rfl) ?_
      refine lv_bipush (v := 109) hx hb dX12_act_41 (by decide) ?_
      refine lv_icmp_ne (tgt := 65) hx hb dX12_act_43 (by decide) (fun c_29 => ?_) (fun c_29 => ?_)
      · exact rg_clash (rg_neL r_7 rl_109 c_29) (r_7) (by decide)
      · refine lv_aload_n hx hb dX12_act_46 rfl (lv_at hl 1 rfl) ?_
        refine lv_aload_n hx hb dX12_act_47 rfl (lv_at hl 1 rfl) ?_
        obtain ⟨_, ⟨rfl, t_31, hk_32⟩, o_c_30⟩ := hH h0 _ k_h0
        refine hg_get hx hb hG igX12 hown hK o_c_30 rfl 0 (by decide) (hG _ mw_1284) rfl dX12_act_48 ?_
        refine lv_aload_n hx hb dX12_act_51 rfl (lv_at hl 1 rfl) ?_
        refine hg_get hx hb hG igX12 hown hK o_c_30 rfl 18 (by decide) (hG _ mw_1302) rfl dX12_act_52 ?_
        rw [ex_23]
        refine lv_aload_n hx hb dX12_act_55 rfl (lv_at hl 1 rfl) ?_
        refine hg_get hx hb hG igX12 hown hK o_c_30 rfl 19 (by decide) (hG _ mw_1303) rfl dX12_act_56 ?_
        rw [ex_24]
        refine va_calli (va_runV (As := [.ref (g.2.2 100), .int x_23, .int x_24]) (rest := []) ⟨hx, hb, hml, hown, hts⟩ (c_X12_refusesComing l g Ty G_12 H.size h0 (g.2.2 100) x_23 x_24 k_h0 (hk_32.1) ρ (by rw [w_17]; exact hT) (g.2.2 111) hmk.2.2.2.2.2.2.2.2.2.2.2.2.2.2.2.2.2.2.2.2.1 u_22 (by rw [u_16]; exact hr3)) (cwV 3 hts (gwV mw_1542 mw_1544 mw_50 mw_88 mw_1545) rfl rfl rfl hv_X12_refusesComing ⟨Nat.le_of_ble_eq_true rfl, Nat.le_of_ble_eq_true rfl⟩) ⟨PcT_blind, hg_recv hK o_c_30 rfl, PcT_pre hK hH⟩ rfl rfl hl.1 rfl (lv_room (Nat.le_of_ble_eq_true rfl)) dX12_act_59 ⟨Nat.zero_le _, Nat.zero_le _⟩) hS (fun q _ h => AF.mono hS.1 h) (fun q h => AF.mono hS.1 h) (fun x_33 ux_33 t H locs ht hvm hx_33 hB hz hk hS => ?_)
        obtain ⟨hx_33, fx_33⟩ := hx_33
        obtain ⟨eTx_33, eGx_33⟩ := fx_33
        obtain ⟨G_34, eG_34⟩ : ∃ z, z = ux_33.2 := ⟨_, rfl⟩
        rw [← eG_34] at eGx_33
        have fr_35 : FR [107, 108, 109, 110, 114, 127, 128, 118, 119, 120] [(g.2.2 100), (g.2.2 115), (g.2.2 125), (g.2.2 126), (g.2.2 129)] [106] G G_34 := FR.tr fr_15 eGx_33 (by decide) (fun b h => ⟨h.2.1, trivial⟩) (by decide)
        have u_36 : G_34.1 113 = (G.1 113) := (eGx_33.1 113 (by decide)).trans u_16
        have u_37 : G_34.1 118 = x_23 := (eGx_33.1 118 (by decide)).trans ex_23
        have u_38 : G_34.1 119 = x_24 := (eGx_33.1 119 (by decide)).trans ex_24
        have u_39 : G_34.1 120 = x_25 := (eGx_33.1 120 (by decide)).trans ex_25
        have w_40 : G_34.2.1 (g.2.2 100) = (G.2.1 (g.2.2 100)) := (eGx_33.2.1 (g.2.2 100) ⟨(ne_kd hmk.1 hmk.2.2.2.1 (by decide)), trivial⟩).trans w_17
        have w_41 : G_34.2.1 (g.2.2 116) = (G.2.1 (g.2.2 116)) := (eGx_33.2.1 (g.2.2 116) ⟨(ne_kd hmk.2.2.2.2.1 hmk.2.2.2.1 (by decide)), trivial⟩).trans w_18
        have w_42 : G_34.2.1 (g.2.2 130) = (G.2.1 (g.2.2 130)) := (eGx_33.2.1 (g.2.2 130) ⟨(ne_kd hmk.2.2.2.2.2.2.2.2.2.2.2.1 hmk.2.2.2.1 (by decide)), trivial⟩).trans w_19
        have w_43 : G_34.2.1 (g.2.2 111) = (G.2.1 (g.2.2 111)) := (eGx_33.2.1 (g.2.2 111) ⟨(ne_kd hmk.2.2.2.2.2.2.2.2.2.2.2.2.2.2.2.2.2.2.2.2.1 hmk.2.2.2.1 (by decide)), trivial⟩).trans w_20
        have w_44 : G_34.2.1 (g.2.2 129) = (G.2.1 (g.2.2 129)) := (eGx_33.2.1 (g.2.2 129) ⟨(ne_kd hmk.2.2.2.2.2.2.2.2.2.2.1 hmk.2.2.2.1 (by decide)), trivial⟩).trans w_21
        have u_45 : G_34.2.2 111 = some (g.2.2 111) := (eGx_33.2.2 111 (by decide)).trans u_22
        have hH : HT g Ty G_34 H := by rw [← ht, ← eTx_33, eG_34]; exact hB
        have rx_33 : rgI (-9) (0) x_33 := hx_33.1
        have tx_46 := hx_33.2
        try rw [w_17] at tx_46
        try rw [w_20] at tx_46
        try rw [u_16] at tx_46
        refine lv_goto (tgt := 80) hx hb dX12_act_62 (by decide) ?_
        refine lv_istore_n (lv' := [(3, .int x_33), (2, .int x_5), (0, .ref h0), (1, .int a0)]) hx hb dX12_act_80 rfl hl (by decide) rfl (fun ls hl => ?_)
        refine lv_iload_n hx hb dX12_act_81 rfl (lv_at hl 0 rfl) ?_
        refine lv_if_ge (tgt := 87) hx hb dX12_act_82 (by decide) (fun c_47 => ?_) (fun c_47 => ?_)
        · have r_48 : rgI (0) (0) x_33 := rg_w (rg_leR rl_0 rx_33 c_47) (by decide) (by decide)
          have c0_49 := tx_46 (rg_00 r_48 c_47)
          obtain ⟨⟨σ_50, hts_51⟩, h1_52, hb_53⟩ := id hTI
          refine lv_iload_n hx hb dX12_act_87 rfl (lv_at hl 1 rfl) ?_
          refine lv_bipush (v := 109) hx hb dX12_act_88 (by decide) ?_
          refine lv_icmp_ne (tgt := 115) hx hb dX12_act_90 (by decide) (fun c_54 => ?_) (fun c_54 => ?_)
          · exact rg_clash (rg_neL r_7 rl_109 c_54) (r_7) (by decide)
          · refine lv_aload_n hx hb dX12_act_93 rfl (lv_at hl 2 rfl) ?_
            refine lv_aload_n hx hb dX12_act_94 rfl (lv_at hl 2 rfl) ?_
            obtain ⟨_, ⟨rfl, t_56, hk_57⟩, o_c_55⟩ := hH h0 _ k_h0
            refine hg_get hx hb hG igX12 hown hK o_c_55 rfl 0 (by decide) (hG _ mw_1284) rfl dX12_act_95 ?_
            refine lv_bipush (v := 24) hx hb dX12_act_98 (by decide) ?_
            refine lv_aload_n hx hb dX12_act_100 rfl (lv_at hl 2 rfl) ?_
            refine hg_get hx hb hG igX12 hown hK o_c_55 rfl 18 (by decide) (hG _ mw_1302) rfl dX12_act_101 ?_
            rw [u_37]
            refine lv_aload_n hx hb dX12_act_104 rfl (lv_at hl 2 rfl) ?_
            refine hg_get hx hb hG igX12 hown hK o_c_55 rfl 19 (by decide) (hG _ mw_1303) rfl dX12_act_105 ?_
            rw [u_38]
            refine va_calli (va_runV (As := [.ref (g.2.2 100), .int 24, .int x_23, .int x_24]) (rest := []) ⟨hx, hb, hml, hown, hts⟩ (c_X12_goClone l g Ty G_34 H.size h0 (g.2.2 100) 24 x_23 x_24 k_h0 (hk_57.1) (rg_w rl_24 (by decide) (by decide)) (rg_w tp_26.1 (by decide) (by decide)) (rg_w c0_49.2.1 (by decide) (by decide)) (g.2.2 111) hmk.2.2.2.2.2.2.2.2.2.2.2.2.2.2.2.2.2.2.2.2.1 u_45 (by rw [u_36]; exact hr3) hLD σ_50 (by rw [w_40]; exact hts_51) (by rw [w_40]; exact h1_52) Bd (by rw [w_40]; exact hb_53) (by rw [w_40]; exact (Int.le_trans hb_53 (Int.le_trans hBd (by decide)))) (Or.inl rfl) (by rw [w_40, w_43, u_36]; exact c0_49)) (cwV 4 hts (gwV mw_1580 mw_1582 mw_54 mw_88 mw_1583) rfl rfl rfl hv_X12_goClone ⟨Nat.le_of_ble_eq_true rfl, Nat.le_of_ble_eq_true rfl⟩) ⟨PcT_blind, hg_recv hK o_c_55 rfl, PcT_pre hK hH⟩ rfl rfl hl.1 rfl (lv_room (Nat.le_of_ble_eq_true rfl)) dX12_act_108 ⟨Nat.zero_le _, Nat.zero_le _⟩) hS (fun q _ h => AF.mono hS.1 h) (fun q h => AF.mono hS.1 h) (fun x_58 ux_58 t H locs ht hvm hx_58 hB hz hk hS => ?_)
            obtain ⟨eTx_58, eGx_58⟩ := hx_58
            obtain ⟨G_59, eG_59⟩ : ∃ z, z = ux_58.2 := ⟨_, rfl⟩
            rw [← eG_59] at eGx_58
            obtain ⟨hfr_60, hex_61⟩ := eGx_58
            have fr_62 : FR [107, 108, 109, 110, 114, 127, 128, 118, 119, 120] [(g.2.2 100), (g.2.2 115), (g.2.2 125), (g.2.2 126), (g.2.2 129)] [106] G G_59 := FR.tr fr_35 hfr_60 (by decide) (fun b h => ⟨h.1, h.2.1, h.2.2.1, h.2.2.2.1, trivial⟩) (by decide)
            have u_63 : G_59.1 113 = (G.1 113) := (hfr_60.1 113 (by decide)).trans u_36
            have u_64 : G_59.1 118 = x_23 := (hfr_60.1 118 (by decide)).trans u_37
            have u_65 : G_59.1 119 = x_24 := (hfr_60.1 119 (by decide)).trans u_38
            have u_66 : G_59.1 120 = x_25 := (hfr_60.1 120 (by decide)).trans u_39
            have w_67 : G_59.2.1 (g.2.2 116) = (G.2.1 (g.2.2 116)) := (hfr_60.2.1 (g.2.2 116) ⟨(ne_kd hmk.2.2.2.2.1 hmk.1 (by decide)), (ne_kd hmk.2.2.2.2.1 hmk.2.2.2.1 (by decide)), (ne_kd hmk.2.2.2.2.1 hmk.2.2.2.2.2.2.2.2.1 (by decide)), (ne_kd hmk.2.2.2.2.1 hmk.2.2.2.2.2.2.2.2.2.1 (by decide)), trivial⟩).trans w_41
            have w_68 : G_59.2.1 (g.2.2 130) = (G.2.1 (g.2.2 130)) := (hfr_60.2.1 (g.2.2 130) ⟨(ne_kd hmk.2.2.2.2.2.2.2.2.2.2.2.1 hmk.1 (by decide)), (ne_kd hmk.2.2.2.2.2.2.2.2.2.2.2.1 hmk.2.2.2.1 (by decide)), (ne_kd hmk.2.2.2.2.2.2.2.2.2.2.2.1 hmk.2.2.2.2.2.2.2.2.1 (by decide)), (ne_kd hmk.2.2.2.2.2.2.2.2.2.2.2.1 hmk.2.2.2.2.2.2.2.2.2.1 (by decide)), trivial⟩).trans w_42
            have w_69 : G_59.2.1 (g.2.2 111) = (G.2.1 (g.2.2 111)) := (hfr_60.2.1 (g.2.2 111) ⟨(ne_kd hmk.2.2.2.2.2.2.2.2.2.2.2.2.2.2.2.2.2.2.2.2.1 hmk.1 (by decide)), (ne_kd hmk.2.2.2.2.2.2.2.2.2.2.2.2.2.2.2.2.2.2.2.2.1 hmk.2.2.2.1 (by decide)), (ne_kd hmk.2.2.2.2.2.2.2.2.2.2.2.2.2.2.2.2.2.2.2.2.1 hmk.2.2.2.2.2.2.2.2.1 (by decide)), (ne_kd hmk.2.2.2.2.2.2.2.2.2.2.2.2.2.2.2.2.2.2.2.2.1 hmk.2.2.2.2.2.2.2.2.2.1 (by decide)), trivial⟩).trans w_43
            have w_70 : G_59.2.1 (g.2.2 129) = (G.2.1 (g.2.2 129)) := (hfr_60.2.1 (g.2.2 129) ⟨(hLD 129 (by decide) 100 (by decide) (by decide)), (ne_kd hmk.2.2.2.2.2.2.2.2.2.2.1 hmk.2.2.2.1 (by decide)), (ne_kd hmk.2.2.2.2.2.2.2.2.2.2.1 hmk.2.2.2.2.2.2.2.2.1 (by decide)), (ne_kd hmk.2.2.2.2.2.2.2.2.2.2.1 hmk.2.2.2.2.2.2.2.2.2.1 (by decide)), trivial⟩).trans w_44
            have u_71 : G_59.2.2 111 = some (g.2.2 111) := (hfr_60.2.2 111 (by decide)).trans u_45
            obtain ⟨f_72, ef_72⟩ : ∃ z : Nat → Int32, G_59.2.1 (g.2.2 100) = z := ⟨_, rfl⟩
            have gc_73 := hex_61
            rw [ef_72, w_40, w_43, u_36] at gc_73
            have hH : HT g Ty G_59 H := by rw [← ht, ← eTx_58, eG_59]; exact hB
            refine lv_pop hx hb dX12_act_111 rfl ?_
            refine lv_goto (tgt := 132) hx hb dX12_act_112 (by decide) ?_
            refine lv_iconst (v := 1) hx hb dX12_act_132 (by decide) ?_
            exact W.zret hx hb hr rfl (fun t ht hWm => ⟨⟨1, (Ty, G_59), rfl, ⟨rg_w rl_1 (by decide) (by decide), ⟨rfl, ⟨fr_62, (by rw [ef_72]; exact (TI.hi gc_73.1 (by omega)))⟩⟩⟩, by show HT g Ty G_59 t.heap; rw [ht]; exact hH⟩, hS.F ht⟩) hS.2.2 dX12_act_133
        · have r_74 : rgI (-9) (-1) x_33 := rg_w (rg_ltL rx_33 rl_0 (nle_lt c_47)) (by decide) (by decide)
          refine lv_iconst (v := 0) hx hb dX12_act_85 (by decide) ?_
          exact W.zret hx hb hr rfl (fun t ht hWm => ⟨⟨0, (Ty, G_34), rfl, ⟨rg_w rl_0 (by decide) (by decide), ⟨rfl, ⟨fr_35, (by rw [w_40]; exact (hTI.hi (by omega)))⟩⟩⟩, by show HT g Ty G_34 t.heap; rw [ht]; exact hH⟩, hS.F ht⟩) hS.2.2 dX12_act_86
    · have r_75 : rgI (0) (0) x_11 := rg_w (rg_eq rl_0 c_27) (by decide) (by decide)
      refine lv_iconst (v := 0) hx hb dX12_act_38 (by decide) ?_
      exact W.zret hx hb hr rfl (fun t ht hWm => ⟨⟨0, (Ty, G_12), rfl, ⟨rg_w rl_0 (by decide) (by decide), ⟨rfl, ⟨fr_15, (by rw [w_17]; exact (hTI.hi (by omega)))⟩⟩⟩, by show HT g Ty G_12 t.heap; rw [ht]; exact hH⟩, hS.F ht⟩) hS.2.2 dX12_act_39
  · refine lv_iload_n hx hb dX12_act_13 rfl (lv_at hl 0 rfl) ?_
    refine lv_bipush (v := 117) hx hb dX12_act_14 (by decide) ?_
    refine lv_icmp_ne (tgt := 134) hx hb dX12_act_16 (by decide) (fun c_76 => ?_) (fun c_76 => ?_)
    · refine lv_aload_n hx hb dX12_act_134 rfl (lv_at hl 1 rfl) ?_
      refine lv_aload_n hx hb dX12_act_135 rfl (lv_at hl 1 rfl) ?_
      refine hg_get hx hb hG igX12 hown hK o_c_1 rfl 30 (by decide) (hG _ mw_1314) rfl dX12_act_136 ?_
      refine lv_iload_n hx hb dX12_act_139 rfl (lv_at hl 2 rfl) ?_
      refine lv_iconst (v := 1) hx hb dX12_act_140 (by decide) ?_
      refine lv_iadd hx hb dX12_act_141 ?_
      refine lv_topi (fun x_77 ex_77 => ?_)
      have rx_77 : rgI (1) (317) x_77 := by rw [ex_77]; exact rg_w (rg_add pr0 rl_1 (by decide) (by decide)) (by decide) (by decide)
      have qx_77 : x_77.toInt = (a0 : Int32).toInt + 1 := by rw [ex_77]; exact rg_addE pr0 rl_1 (by decide) (by decide)
      refine hg_iald hx hb hK o_c_4 (rg_in (n := 320) rx_77 (by decide) (by decide)) dX12_act_142 ?_
      refine lv_topi (fun x_78 ex_78 => ?_)
      have ak_79 : x_78 = (G.2.1 (g.2.2 130)) (a0.toNatClampNeg + 1) := by rw [ex_78, ai_d (n := 1) ex_77 pr0 rfl (by decide)]
      refine va_calli (va_runV (As := [.int x_78]) (rest := []) ⟨hx, hb, hml, hown, hts⟩ (c_X12_mountedAt l g Ty G s.heap.size h0 x_78 k_h0 ρ hT lmx (ps_eq hok.1 ak_79)) (cwV 1 hts (gwV mw_1688 mw_1690 mw_66 mw_88 mw_1691) rfl rfl rfl hv_X12_mountedAt ⟨Nat.le_of_ble_eq_true rfl, Nat.le_of_ble_eq_true rfl⟩) ⟨PcT_blind, hg_recv hK o_c_1 rfl, PcT_pre hK hH⟩ rfl rfl hl.1 rfl (lv_room (Nat.le_of_ble_eq_true rfl)) dX12_act_143 ⟨Nat.zero_le _, Nat.zero_le _⟩) hS (fun q _ h => AF.mono hS.1 h) (fun q h => AF.mono hS.1 h) (fun x_80 ux_80 t H locs ht hvm hx_80 hB hz hk hS => ?_)
      obtain ⟨hx_80, fx_80⟩ := hx_80
      obtain ⟨eTx_80, eGx_80⟩ := fx_80
      obtain ⟨G_81, eG_81⟩ : ∃ z, z = ux_80.2 := ⟨_, rfl⟩
      rw [← eG_81] at eGx_80
      obtain ⟨hfr_82, hex_83⟩ := eGx_80
      have fr_84 : FR [107, 108, 109, 110, 114, 127, 128, 118, 119, 120] [(g.2.2 100), (g.2.2 115), (g.2.2 125), (g.2.2 126), (g.2.2 129)] [106] G G_81 := FR.tr FR.rf hfr_82 (by decide) (fun _ _ => trivial) (by decide)
      have u_85 : G_81.1 113 = (G.1 113) := (hfr_82.1 113 (by decide))
      have w_86 : G_81.2.1 (g.2.2 100) = (G.2.1 (g.2.2 100)) := (hfr_82.2.1 (g.2.2 100) trivial)
      have w_87 : G_81.2.1 (g.2.2 116) = (G.2.1 (g.2.2 116)) := (hfr_82.2.1 (g.2.2 116) trivial)
      have w_88 : G_81.2.1 (g.2.2 130) = (G.2.1 (g.2.2 130)) := (hfr_82.2.1 (g.2.2 130) trivial)
      have w_89 : G_81.2.1 (g.2.2 111) = (G.2.1 (g.2.2 111)) := (hfr_82.2.1 (g.2.2 111) trivial)
      have w_90 : G_81.2.1 (g.2.2 129) = (G.2.1 (g.2.2 129)) := (hfr_82.2.1 (g.2.2 129) trivial)
      have u_91 : G_81.2.2 111 = some (g.2.2 111) := (hfr_82.2.2 111 (by decide)).trans hr1
      obtain ⟨x_92, ex_92⟩ : ∃ z : Int32, G_81.1 118 = z := ⟨_, rfl⟩
      obtain ⟨x_93, ex_93⟩ : ∃ z : Int32, G_81.1 119 = z := ⟨_, rfl⟩
      obtain ⟨x_94, ex_94⟩ : ∃ z : Int32, G_81.1 120 = z := ⟨_, rfl⟩
      have hH : HT g Ty G_81 H := by rw [← ht, ← eTx_80, eG_81]; exact hB
      have rx_80 : rgI (1) (24) x_80 := hx_80.1
      refine lv_istore_n (lv' := [(3, .int x_80), (2, .int x_5), (0, .ref h0), (1, .int a0)]) hx hb dX12_act_146 rfl hl (by decide) rfl (fun ls hl => ?_)
      refine lv_iload_n hx hb dX12_act_147 rfl (lv_at hl 0 rfl) ?_
      refine lv_bipush (v := 24) hx hb dX12_act_148 (by decide) ?_
      refine lv_icmp_ne (tgt := 155) hx hb dX12_act_150 (by decide) (fun c_95 => ?_) (fun c_95 => ?_)
      · have r_96 : rgI (1) (23) x_80 := rg_w (rg_neR rx_80 rl_24 c_95) (by decide) (by decide)
        have th_97 : thr (G.2.1 (g.2.2 100)) x_80 := hx_80.2.resolve_left c_95
        refine lv_iload_n hx hb dX12_act_155 rfl (lv_at hl 1 rfl) ?_
        refine lv_bipush (v := 107) hx hb dX12_act_156 (by decide) ?_
        refine lv_icmp_ne (tgt := 200) hx hb dX12_act_158 (by decide) (fun c_98 => ?_) (fun c_98 => ?_)
        · refine lv_aload_n hx hb dX12_act_200 rfl (lv_at hl 2 rfl) ?_
          refine lv_aload_n hx hb dX12_act_201 rfl (lv_at hl 2 rfl) ?_
          obtain ⟨_, ⟨rfl, t_100, hk_101⟩, o_c_99⟩ := hH h0 _ k_h0
          refine hg_get hx hb hG igX12 hown hK o_c_99 rfl 0 (by decide) (hG _ mw_1284) rfl dX12_act_202 ?_
          refine lv_aload_n hx hb dX12_act_205 rfl (lv_at hl 2 rfl) ?_
          refine hg_get hx hb hG igX12 hown hK o_c_99 rfl 30 (by decide) (hG _ mw_1314) rfl dX12_act_206 ?_
          refine lv_iload_n hx hb dX12_act_209 rfl (lv_at hl 3 rfl) ?_
          refine lv_iconst (v := 2) hx hb dX12_act_210 (by decide) ?_
          refine lv_iadd hx hb dX12_act_211 ?_
          refine lv_topi (fun x_102 ex_102 => ?_)
          have rx_102 : rgI (2) (318) x_102 := by rw [ex_102]; exact rg_w (rg_add pr0 rl_2 (by decide) (by decide)) (by decide) (by decide)
          have qx_102 : x_102.toInt = (a0 : Int32).toInt + 2 := by rw [ex_102]; exact rg_addE pr0 rl_2 (by decide) (by decide)
          obtain ⟨_, rfl, o_c_103⟩ := hH (g.2.2 130) _ hk_101.2.2.2.2.2.2.2.2.2.2.2.1
          have o_c_103 : va_at g.1 vwCl ((g.2.2 130), .inl (g.2.1 1, 320, .inl (G_81.2.1 (g.2.2 130)))) H := o_c_103
          refine hg_iald hx hb hK o_c_103 (rg_in (n := 320) rx_102 (by decide) (by decide)) dX12_act_212 ?_
          rw [w_88]
          refine lv_topi (fun x_104 ex_104 => ?_)
          have ak_105 : x_104 = (G.2.1 (g.2.2 130)) (a0.toNatClampNeg + 2) := by rw [ex_104, ai_d (n := 2) ex_102 pr0 rfl (by decide)]
          refine va_calli (va_runV (As := [.ref (g.2.2 100), .int x_104]) (rest := []) ⟨hx, hb, hml, hown, hts⟩ (c_X12_goPath l g Ty G_81 H.size h0 (g.2.2 100) x_104 k_h0 (hk_101.1) ρ (by rw [w_86]; exact hT) lmx (by rw [w_87]; exact (ps_eq (((hok.2.resolve_left (by rw [← ex_5]; exact c_6)).resolve_left (by rw [← ex_5]; exact c_76)).resolve_left (by rw [← ex_5]; exact c_98)) ak_105))) (cwV 2 hts (gwV mw_1499 mw_1501 mw_47 mw_88 mw_1502) rfl rfl rfl hv_X12_goPath ⟨Nat.le_of_ble_eq_true rfl, Nat.le_of_ble_eq_true rfl⟩) ⟨PcT_blind, hg_recv hK o_c_99 rfl, PcT_pre hK hH⟩ rfl rfl hl.1 rfl (lv_room (Nat.le_of_ble_eq_true rfl)) dX12_act_213 ⟨Nat.zero_le _, Nat.zero_le _⟩) hS (fun q _ h => AF.mono hS.1 h) (fun q h => AF.mono hS.1 h) (fun x_106 ux_106 t H locs ht hvm hx_106 hB hz hk hS => ?_)
          obtain ⟨hx_106, fx_106⟩ := hx_106
          obtain ⟨eTx_106, eGx_106⟩ := fx_106
          obtain ⟨G_107, eG_107⟩ : ∃ z, z = ux_106.2 := ⟨_, rfl⟩
          rw [← eG_107] at eGx_106
          obtain ⟨hfr_108, hex_109⟩ := eGx_106
          have fr_110 : FR [107, 108, 109, 110, 114, 127, 128, 118, 119, 120] [(g.2.2 100), (g.2.2 115), (g.2.2 125), (g.2.2 126), (g.2.2 129)] [106] G G_107 := FR.tr fr_84 hfr_108 (by decide) (fun _ _ => trivial) (by decide)
          have u_111 : G_107.1 113 = (G.1 113) := (hfr_108.1 113 (by decide)).trans u_85
          have w_112 : G_107.2.1 (g.2.2 100) = (G.2.1 (g.2.2 100)) := (hfr_108.2.1 (g.2.2 100) trivial).trans w_86
          have w_113 : G_107.2.1 (g.2.2 116) = (G.2.1 (g.2.2 116)) := (hfr_108.2.1 (g.2.2 116) trivial).trans w_87
          have w_114 : G_107.2.1 (g.2.2 130) = (G.2.1 (g.2.2 130)) := (hfr_108.2.1 (g.2.2 130) trivial).trans w_88
          have w_115 : G_107.2.1 (g.2.2 111) = (G.2.1 (g.2.2 111)) := (hfr_108.2.1 (g.2.2 111) trivial).trans w_89
          have w_116 : G_107.2.1 (g.2.2 129) = (G.2.1 (g.2.2 129)) := (hfr_108.2.1 (g.2.2 129) trivial).trans w_90
          have u_117 : G_107.2.2 111 = some (g.2.2 111) := (hfr_108.2.2 111 (by decide)).trans u_91
          obtain ⟨x_118, ex_118⟩ : ∃ z : Int32, G_107.1 118 = z := ⟨_, rfl⟩
          obtain ⟨x_119, ex_119⟩ : ∃ z : Int32, G_107.1 119 = z := ⟨_, rfl⟩
          obtain ⟨x_120, ex_120⟩ : ∃ z : Int32, G_107.1 120 = z := ⟨_, rfl⟩
          have tp_121 := hex_109
          rw [ex_118, w_86] at tp_121
          have hH : HT g Ty G_107 H := by rw [← ht, ← eTx_106, eG_107]; exact hB
          have rx_106 : rgI (0) (1) x_106 := hx_106
          refine lv_if_ne (tgt := 221) hx hb dX12_act_216 (by decide) (fun c_122 => ?_) (fun c_122 => ?_)
          · have r_123 : rgI (1) (1) x_106 := rg_w (rg_neL rx_106 rl_0 c_122) (by decide) (by decide)
            refine lv_iload_n hx hb dX12_act_221 rfl (lv_at hl 1 rfl) ?_
            refine lv_bipush (v := 98) hx hb dX12_act_222 (by decide) ?_
            refine lv_icmp_ne (tgt := 247) hx hb dX12_act_224 (by decide) (fun c_124 => ?_) (fun c_124 => ?_)
            · refine lv_iload_n hx hb dX12_act_247 rfl (lv_at hl 1 rfl) ?_
              refine lv_bipush (v := 114) hx hb dX12_act_248 (by decide) ?_
              refine lv_icmp_ne (tgt := 273) hx hb dX12_act_250 (by decide) (fun c_125 => ?_) (fun c_125 => ?_)
              · refine lv_aload_n hx hb dX12_act_273 rfl (lv_at hl 2 rfl) ?_
                obtain ⟨_, ⟨rfl, t_127, hk_128⟩, o_c_126⟩ := hH h0 _ k_h0
                refine hg_get hx hb hG igX12 hown hK o_c_126 rfl 0 (by decide) (hG _ mw_1284) rfl dX12_act_274 ?_
                refine lv_iload_n hx hb dX12_act_277 rfl (lv_at hl 0 rfl) ?_
                refine lv_aload_n hx hb dX12_act_278 rfl (lv_at hl 2 rfl) ?_
                refine hg_get hx hb hG igX12 hown hK o_c_126 rfl 18 (by decide) (hG _ mw_1302) rfl dX12_act_279 ?_
                rw [ex_118]
                refine lv_aload_n hx hb dX12_act_282 rfl (lv_at hl 2 rfl) ?_
                refine hg_get hx hb hG igX12 hown hK o_c_126 rfl 19 (by decide) (hG _ mw_1303) rfl dX12_act_283 ?_
                rw [ex_119]
                refine vp_callSi (W.runS (As := [.ref (g.2.2 100), .int x_80, .int x_118, .int x_119]) (rest := []) ⟨hx, hb, hml, hown, hts⟩ (c_X12_refusesMove l g Ty G_107 (g.2.2 100) x_80 x_118 x_119 (hk_128.1) ρ (by rw [w_112]; exact hT)) (cwSx 4 hts hG (gwC mw_1669) mw_88 mw_1667 mw_1668 rfl rfl rfl hd_X12_refusesMove ⟨Nat.le_of_ble_eq_true rfl, Nat.le_of_ble_eq_true rfl⟩) ⟨PcH_blind, PcH_pre hK hH⟩ rfl rfl hl.1 rfl (lv_room (Nat.le_of_ble_eq_true rfl)) dX12_act_286 ⟨Nat.zero_le _, Nat.zero_le _⟩) (fun x_129 hx_129 => ?_)
                have rx_129 : rgI (-6) (0) x_129 := hx_129.1
                have tx_130 := hx_129.2
                try rw [w_112] at tx_130
                try rw [w_115] at tx_130
                try rw [u_111] at tx_130
                refine lv_istore (lv' := [(4, .int x_129), (3, .int x_80), (2, .int x_5), (0, .ref h0), (1, .int a0)]) hx hb dX12_act_289 hl (by decide) rfl (fun ls hl => ?_)
                refine lv_iload hx hb dX12_act_291 (lv_at hl 0 rfl) ?_
                refine lv_if_ge (tgt := 298) hx hb dX12_act_293 (by decide) (fun c_131 => ?_) (fun c_131 => ?_)
                · have r_132 : rgI (0) (0) x_129 := rg_w (rg_leR rl_0 rx_129 c_131) (by decide) (by decide)
                  have c0_133 := tx_130 (rg_00 r_132 c_131)
                  refine lv_iload_n hx hb dX12_act_298 rfl (lv_at hl 2 rfl) ?_
                  refine lv_bipush (v := 98) hx hb dX12_act_299 (by decide) ?_
                  refine lv_icmp_ne (tgt := 325) hx hb dX12_act_301 (by decide) (fun c_134 => ?_) (fun c_134 => ?_)
                  · refine lv_iload_n hx hb dX12_act_325 rfl (lv_at hl 2 rfl) ?_
                    refine lv_bipush (v := 114) hx hb dX12_act_326 (by decide) ?_
                    refine lv_icmp_ne (tgt := 352) hx hb dX12_act_328 (by decide) (fun c_135 => ?_) (fun c_135 => ?_)
                    · refine lv_aload_n hx hb dX12_act_352 rfl (lv_at hl 3 rfl) ?_
                      refine hg_get hx hb hG igX12 hown hK o_c_126 rfl 0 (by decide) (hG _ mw_1284) rfl dX12_act_353 ?_
                      refine lv_iload_n hx hb dX12_act_356 rfl (lv_at hl 1 rfl) ?_
                      refine lv_aload_n hx hb dX12_act_357 rfl (lv_at hl 3 rfl) ?_
                      refine hg_get hx hb hG igX12 hown hK o_c_126 rfl 18 (by decide) (hG _ mw_1302) rfl dX12_act_358 ?_
                      rw [ex_118]
                      refine lv_aload_n hx hb dX12_act_361 rfl (lv_at hl 3 rfl) ?_
                      refine hg_get hx hb hG igX12 hown hK o_c_126 rfl 19 (by decide) (hG _ mw_1303) rfl dX12_act_362 ?_
                      rw [ex_119]
                      refine va_callv (va_runS (As := [.ref (g.2.2 100), .int x_80, .int x_118, .int x_119]) (rest := []) ⟨hx, hb, hml, hown, hts⟩ (c_X12_goMove l g Ty G_107 H.size (g.2.2 100) x_80 x_118 x_119 (hk_128.1) (rg_w r_96 (by decide) (by decide))) (cwSx 4 hts hG (gwC mw_1675) mw_88 mw_1673 mw_1674 rfl rfl rfl hd_X12_goMove ⟨Nat.le_of_ble_eq_true rfl, Nat.le_of_ble_eq_true rfl⟩) ⟨PcT_blind, PcT_pre hK hH⟩ rfl rfl hl.1 rfl (lv_room (Nat.le_of_ble_eq_true rfl)) dX12_act_365 ⟨Nat.zero_le _, Nat.zero_le _⟩) hS (fun q _ h => AF.mono hS.1 h) (fun q h => AF.mono hS.1 h) (fun ux_136 t H locs ht hvm hx_136 hB hz hk hS => ?_)
                      obtain ⟨eTx_136, eGx_136⟩ := hx_136
                      obtain ⟨G_137, eG_137⟩ : ∃ z, z = ux_136.2 := ⟨_, rfl⟩
                      rw [← eG_137] at eGx_136
                      have hg_139 := eGx_136
                      rw [w_112] at hg_139
                      obtain ⟨f_138, ef_138⟩ : ∃ z : Nat → Int32, z = F_X12_goMove (G.2.1 (g.2.2 100)) x_80 x_118 x_119 := ⟨_, rfl⟩
                      rw [← ef_138] at hg_139
                      have fr_140 : FR [107, 108, 109, 110, 114, 127, 128, 118, 119, 120] [(g.2.2 100), (g.2.2 115), (g.2.2 125), (g.2.2 126), (g.2.2 129)] [106] G G_137 := FR.a fr_110 hg_139 (fun b h => h.1)
                      have u_141 : G_137.1 113 = (G.1 113) := by rw [hg_139]; exact u_111
                      have u_142 : G_137.1 118 = x_118 := by rw [hg_139]; exact ex_118
                      have u_143 : G_137.1 119 = x_119 := by rw [hg_139]; exact ex_119
                      have u_144 : G_137.1 120 = x_120 := by rw [hg_139]; exact ex_120
                      have w_145 : G_137.2.1 (g.2.2 100) = f_138 := by rw [hg_139]; exact aset_eq
                      have w_146 : G_137.2.1 (g.2.2 116) = (G.2.1 (g.2.2 116)) := by rw [hg_139]; exact (aset_ne (ne_kd hmk.2.2.2.2.1 hmk.1 (by decide))).trans w_113
                      have w_147 : G_137.2.1 (g.2.2 130) = (G.2.1 (g.2.2 130)) := by rw [hg_139]; exact (aset_ne (ne_kd hmk.2.2.2.2.2.2.2.2.2.2.2.1 hmk.1 (by decide))).trans w_114
                      have w_148 : G_137.2.1 (g.2.2 111) = (G.2.1 (g.2.2 111)) := by rw [hg_139]; exact (aset_ne (ne_kd hmk.2.2.2.2.2.2.2.2.2.2.2.2.2.2.2.2.2.2.2.2.1 hmk.1 (by decide))).trans w_115
                      have w_149 : G_137.2.1 (g.2.2 129) = (G.2.1 (g.2.2 129)) := by rw [hg_139]; exact (aset_ne (hLD 129 (by decide) 100 (by decide) (by decide))).trans w_116
                      have u_150 : G_137.2.2 111 = some (g.2.2 111) := by rw [hg_139]; exact u_117
                      have hH : HT g Ty G_137 H := by rw [← ht, ← eTx_136, eG_137]; exact hB
                      have tm_151 : TI (Bd + 25) f_138 := by rw [ef_138]; exact (TI_move hTI c0_133.1 c0_133.2.1 c0_133.2.2.2.1 c0_133.2.2.2.2.1 c0_133.2.2.2.2.2).1
                      refine lv_iconst (v := 1) hx hb dX12_act_368 (by decide) ?_
                      exact W.zret hx hb hr rfl (fun t ht hWm => ⟨⟨1, (Ty, G_137), rfl, ⟨rg_w rl_1 (by decide) (by decide), ⟨rfl, ⟨fr_140, (by rw [w_145]; exact (TI.hi tm_151 (by omega)))⟩⟩⟩, by show HT g Ty G_137 t.heap; rw [ht]; exact hH⟩, hS.F ht⟩) hS.2.2 dX12_act_369
                    · have r_152 : rgI (114) (114) x_5 := rg_w (rg_eq rl_114 c_135) (by decide) (by decide)
                      exact absurd c_135 c_125
                  · have r_153 : rgI (98) (98) x_5 := rg_w (rg_eq rl_98 c_134) (by decide) (by decide)
                    exact absurd c_134 c_124
                · have r_154 : rgI (-6) (-1) x_129 := rg_w (rg_ltL rx_129 rl_0 (nle_lt c_131)) (by decide) (by decide)
                  refine lv_iconst (v := 0) hx hb dX12_act_296 (by decide) ?_
                  exact W.zret hx hb hr rfl (fun t ht hWm => ⟨⟨0, (Ty, G_107), rfl, ⟨rg_w rl_0 (by decide) (by decide), ⟨rfl, ⟨fr_110, (by rw [w_112]; exact (hTI.hi (by omega)))⟩⟩⟩, by show HT g Ty G_107 t.heap; rw [ht]; exact hH⟩, hS.F ht⟩) hS.2.2 dX12_act_297
              · have r_155 : rgI (114) (114) x_5 := rg_w (rg_eq rl_114 c_125) (by decide) (by decide)
                refine lv_aload_n hx hb dX12_act_253 rfl (lv_at hl 2 rfl) ?_
                refine lv_aload_n hx hb dX12_act_254 rfl (lv_at hl 2 rfl) ?_
                obtain ⟨_, ⟨rfl, t_157, hk_158⟩, o_c_156⟩ := hH h0 _ k_h0
                refine hg_get hx hb hG igX12 hown hK o_c_156 rfl 0 (by decide) (hG _ mw_1284) rfl dX12_act_255 ?_
                refine lv_iload_n hx hb dX12_act_258 rfl (lv_at hl 0 rfl) ?_
                refine lv_aload_n hx hb dX12_act_259 rfl (lv_at hl 2 rfl) ?_
                refine hg_get hx hb hG igX12 hown hK o_c_156 rfl 18 (by decide) (hG _ mw_1302) rfl dX12_act_260 ?_
                rw [ex_118]
                refine lv_aload_n hx hb dX12_act_263 rfl (lv_at hl 2 rfl) ?_
                refine hg_get hx hb hG igX12 hown hK o_c_156 rfl 19 (by decide) (hG _ mw_1303) rfl dX12_act_264 ?_
                rw [ex_119]
                refine vp_callSi (W.runV (As := [.ref (g.2.2 100), .int x_80, .int x_118, .int x_119]) (rest := []) ⟨hx, hb, hml, hown, hts⟩ (c_X12_refusesTree l g Ty G_107 h0 (g.2.2 100) x_80 x_118 x_119 k_h0 (hk_158.1) ρ (by rw [w_112]; exact hT)) (cwV 4 hts (gwV mw_1617 mw_1619 mw_59 mw_88 mw_1620) rfl rfl rfl hv_X12_refusesTree ⟨Nat.le_of_ble_eq_true rfl, Nat.le_of_ble_eq_true rfl⟩) ⟨PcH_blind, hg_recv hK o_c_156 rfl, PcH_pre hK hH⟩ rfl rfl hl.1 rfl (lv_room (Nat.le_of_ble_eq_true rfl)) dX12_act_267 ⟨Nat.zero_le _, Nat.zero_le _⟩) (fun x_159 hx_159 => ?_)
                have rx_159 : rgI (-9) (0) x_159 := hx_159.1
                have tx_160 := hx_159.2
                try rw [w_112] at tx_160
                try rw [w_115] at tx_160
                try rw [u_111] at tx_160
                refine lv_goto (tgt := 289) hx hb dX12_act_270 (by decide) ?_
                refine lv_istore (lv' := [(4, .int x_159), (3, .int x_80), (2, .int x_5), (0, .ref h0), (1, .int a0)]) hx hb dX12_act_289 hl (by decide) rfl (fun ls hl => ?_)
                refine lv_iload hx hb dX12_act_291 (lv_at hl 0 rfl) ?_
                refine lv_if_ge (tgt := 298) hx hb dX12_act_293 (by decide) (fun c_161 => ?_) (fun c_161 => ?_)
                · have r_162 : rgI (0) (0) x_159 := rg_w (rg_leR rl_0 rx_159 c_161) (by decide) (by decide)
                  have c0_163 := tx_160 (rg_00 r_162 c_161)
                  refine lv_iload_n hx hb dX12_act_298 rfl (lv_at hl 2 rfl) ?_
                  refine lv_bipush (v := 98) hx hb dX12_act_299 (by decide) ?_
                  refine lv_icmp_ne (tgt := 325) hx hb dX12_act_301 (by decide) (fun c_164 => ?_) (fun c_164 => ?_)
                  · refine lv_iload_n hx hb dX12_act_325 rfl (lv_at hl 2 rfl) ?_
                    refine lv_bipush (v := 114) hx hb dX12_act_326 (by decide) ?_
                    refine lv_icmp_ne (tgt := 352) hx hb dX12_act_328 (by decide) (fun c_165 => ?_) (fun c_165 => ?_)
                    · exact rg_clash (rg_neL r_155 rl_114 c_165) (r_155) (by decide)
                    · refine lv_aload_n hx hb dX12_act_331 rfl (lv_at hl 3 rfl) ?_
                      refine lv_aload_n hx hb dX12_act_332 rfl (lv_at hl 3 rfl) ?_
                      obtain ⟨_, ⟨rfl, t_167, hk_168⟩, o_c_166⟩ := hH h0 _ k_h0
                      refine hg_get hx hb hG igX12 hown hK o_c_166 rfl 0 (by decide) (hG _ mw_1284) rfl dX12_act_333 ?_
                      refine lv_iload_n hx hb dX12_act_336 rfl (lv_at hl 1 rfl) ?_
                      refine lv_aload_n hx hb dX12_act_337 rfl (lv_at hl 3 rfl) ?_
                      refine hg_get hx hb hG igX12 hown hK o_c_166 rfl 18 (by decide) (hG _ mw_1302) rfl dX12_act_338 ?_
                      rw [ex_118]
                      refine lv_aload_n hx hb dX12_act_341 rfl (lv_at hl 3 rfl) ?_
                      refine hg_get hx hb hG igX12 hown hK o_c_166 rfl 19 (by decide) (hG _ mw_1303) rfl dX12_act_342 ?_
                      rw [ex_119]
                      refine va_calli (va_runV (As := [.ref (g.2.2 100), .int x_80, .int x_118, .int x_119]) (rest := []) ⟨hx, hb, hml, hown, hts⟩ (c_X12_goTree l g Ty G_107 H.size h0 (g.2.2 100) x_80 x_118 x_119 k_h0 (hk_168.1) (rg_w r_96 (by decide) (by decide)) (rg_w tp_121.1 (by decide) (by decide)) (rg_w c0_163.2.2.1 (by decide) (by decide)) (hLD 100 (by decide) 129 (by decide) (by decide)) Bd (by rw [w_112]; exact hTI) (Int.le_trans hBd (by decide)) (g.2.2 111) hmk.2.2.2.2.2.2.2.2.2.2.2.2.2.2.2.2.2.2.2.2.1 u_117 (by rw [u_111]; exact hr3) hLD (by rw [w_112]; exact c0_163)) (cwV 4 hts (gwV mw_1624 mw_1626 mw_60 mw_88 mw_1627) rfl rfl rfl hv_X12_goTree ⟨Nat.le_of_ble_eq_true rfl, Nat.le_of_ble_eq_true rfl⟩) ⟨PcT_blind, hg_recv hK o_c_166 rfl, PcT_pre hK hH⟩ rfl rfl hl.1 rfl (lv_room (Nat.le_of_ble_eq_true rfl)) dX12_act_345 ⟨Nat.zero_le _, Nat.zero_le _⟩) hS (fun q _ h => AF.mono hS.1 h) (fun q h => AF.mono hS.1 h) (fun x_169 ux_169 t H locs ht hvm hx_169 hB hz hk hS => ?_)
                      obtain ⟨eTx_169, eGx_169⟩ := hx_169
                      obtain ⟨G_170, eG_170⟩ : ∃ z, z = ux_169.2 := ⟨_, rfl⟩
                      rw [← eG_170] at eGx_169
                      obtain ⟨hfr_171, hex_172⟩ := eGx_169
                      have fr_173 : FR [107, 108, 109, 110, 114, 127, 128, 118, 119, 120] [(g.2.2 100), (g.2.2 115), (g.2.2 125), (g.2.2 126), (g.2.2 129)] [106] G G_170 := FR.tr fr_110 hfr_171 (by decide) (fun b h => ⟨h.1, h.2.1, h.2.2.1, h.2.2.2.1, h.2.2.2.2.1, trivial⟩) (by decide)
                      have u_174 : G_170.1 113 = (G.1 113) := (hfr_171.1 113 (by decide)).trans u_111
                      have u_175 : G_170.1 118 = x_118 := (hfr_171.1 118 (by decide)).trans ex_118
                      have u_176 : G_170.1 119 = x_119 := (hfr_171.1 119 (by decide)).trans ex_119
                      have u_177 : G_170.1 120 = x_120 := (hfr_171.1 120 (by decide)).trans ex_120
                      have w_178 : G_170.2.1 (g.2.2 116) = (G.2.1 (g.2.2 116)) := (hfr_171.2.1 (g.2.2 116) ⟨(ne_kd hmk.2.2.2.2.1 hmk.1 (by decide)), (ne_kd hmk.2.2.2.2.1 hmk.2.2.2.1 (by decide)), (ne_kd hmk.2.2.2.2.1 hmk.2.2.2.2.2.2.2.2.1 (by decide)), (ne_kd hmk.2.2.2.2.1 hmk.2.2.2.2.2.2.2.2.2.1 (by decide)), (ne_kd hmk.2.2.2.2.1 hmk.2.2.2.2.2.2.2.2.2.2.1 (by decide)), trivial⟩).trans w_113
                      have w_179 : G_170.2.1 (g.2.2 130) = (G.2.1 (g.2.2 130)) := (hfr_171.2.1 (g.2.2 130) ⟨(ne_kd hmk.2.2.2.2.2.2.2.2.2.2.2.1 hmk.1 (by decide)), (ne_kd hmk.2.2.2.2.2.2.2.2.2.2.2.1 hmk.2.2.2.1 (by decide)), (ne_kd hmk.2.2.2.2.2.2.2.2.2.2.2.1 hmk.2.2.2.2.2.2.2.2.1 (by decide)), (ne_kd hmk.2.2.2.2.2.2.2.2.2.2.2.1 hmk.2.2.2.2.2.2.2.2.2.1 (by decide)), (ne_kd hmk.2.2.2.2.2.2.2.2.2.2.2.1 hmk.2.2.2.2.2.2.2.2.2.2.1 (by decide)), trivial⟩).trans w_114
                      have w_180 : G_170.2.1 (g.2.2 111) = (G.2.1 (g.2.2 111)) := (hfr_171.2.1 (g.2.2 111) ⟨(ne_kd hmk.2.2.2.2.2.2.2.2.2.2.2.2.2.2.2.2.2.2.2.2.1 hmk.1 (by decide)), (ne_kd hmk.2.2.2.2.2.2.2.2.2.2.2.2.2.2.2.2.2.2.2.2.1 hmk.2.2.2.1 (by decide)), (ne_kd hmk.2.2.2.2.2.2.2.2.2.2.2.2.2.2.2.2.2.2.2.2.1 hmk.2.2.2.2.2.2.2.2.1 (by decide)), (ne_kd hmk.2.2.2.2.2.2.2.2.2.2.2.2.2.2.2.2.2.2.2.2.1 hmk.2.2.2.2.2.2.2.2.2.1 (by decide)), (ne_kd hmk.2.2.2.2.2.2.2.2.2.2.2.2.2.2.2.2.2.2.2.2.1 hmk.2.2.2.2.2.2.2.2.2.2.1 (by decide)), trivial⟩).trans w_115
                      have u_181 : G_170.2.2 111 = some (g.2.2 111) := (hfr_171.2.2 111 (by decide)).trans u_117
                      obtain ⟨f_182, ef_182⟩ : ∃ z : Nat → Int32, G_170.2.1 (g.2.2 100) = z := ⟨_, rfl⟩
                      have ti_183 := hex_172
                      rw [ef_182] at ti_183
                      have hH : HT g Ty G_170 H := by rw [← ht, ← eTx_169, eG_170]; exact hB
                      refine lv_pop hx hb dX12_act_348 rfl ?_
                      refine lv_goto (tgt := 368) hx hb dX12_act_349 (by decide) ?_
                      refine lv_iconst (v := 1) hx hb dX12_act_368 (by decide) ?_
                      exact W.zret hx hb hr rfl (fun t ht hWm => ⟨⟨1, (Ty, G_170), rfl, ⟨rg_w rl_1 (by decide) (by decide), ⟨rfl, ⟨fr_173, (by rw [ef_182]; exact (TI.hi ti_183 (by omega)))⟩⟩⟩, by show HT g Ty G_170 t.heap; rw [ht]; exact hH⟩, hS.F ht⟩) hS.2.2 dX12_act_369
                  · exact rg_noE r_155 rl_98 c_164 (by decide)
                · have r_184 : rgI (-9) (-1) x_159 := rg_w (rg_ltL rx_159 rl_0 (nle_lt c_161)) (by decide) (by decide)
                  refine lv_iconst (v := 0) hx hb dX12_act_296 (by decide) ?_
                  exact W.zret hx hb hr rfl (fun t ht hWm => ⟨⟨0, (Ty, G_107), rfl, ⟨rg_w rl_0 (by decide) (by decide), ⟨rfl, ⟨fr_110, (by rw [w_112]; exact (hTI.hi (by omega)))⟩⟩⟩, by show HT g Ty G_107 t.heap; rw [ht]; exact hH⟩, hS.F ht⟩) hS.2.2 dX12_act_297
            · have r_185 : rgI (98) (98) x_5 := rg_w (rg_eq rl_98 c_124) (by decide) (by decide)
              refine lv_aload_n hx hb dX12_act_227 rfl (lv_at hl 2 rfl) ?_
              refine lv_aload_n hx hb dX12_act_228 rfl (lv_at hl 2 rfl) ?_
              obtain ⟨_, ⟨rfl, t_187, hk_188⟩, o_c_186⟩ := hH h0 _ k_h0
              refine hg_get hx hb hG igX12 hown hK o_c_186 rfl 0 (by decide) (hG _ mw_1284) rfl dX12_act_229 ?_
              refine lv_iload_n hx hb dX12_act_232 rfl (lv_at hl 0 rfl) ?_
              refine lv_aload_n hx hb dX12_act_233 rfl (lv_at hl 2 rfl) ?_
              refine hg_get hx hb hG igX12 hown hK o_c_186 rfl 18 (by decide) (hG _ mw_1302) rfl dX12_act_234 ?_
              rw [ex_118]
              refine lv_aload_n hx hb dX12_act_237 rfl (lv_at hl 2 rfl) ?_
              refine hg_get hx hb hG igX12 hown hK o_c_186 rfl 19 (by decide) (hG _ mw_1303) rfl dX12_act_238 ?_
              rw [ex_119]
              refine va_calli (va_runV (As := [.ref (g.2.2 100), .int x_80, .int x_118, .int x_119]) (rest := []) ⟨hx, hb, hml, hown, hts⟩ (c_X12_refusesBind l g Ty G_107 H.size h0 (g.2.2 100) x_80 x_118 x_119 k_h0 (hk_188.1) ρ (by rw [w_112]; exact hT) (g.2.2 111) hmk.2.2.2.2.2.2.2.2.2.2.2.2.2.2.2.2.2.2.2.2.1 u_117 (by rw [u_111]; exact hr3)) (cwV 4 hts (gwV mw_1609 mw_1611 mw_58 mw_88 mw_1612) rfl rfl rfl hv_X12_refusesBind ⟨Nat.le_of_ble_eq_true rfl, Nat.le_of_ble_eq_true rfl⟩) ⟨PcT_blind, hg_recv hK o_c_186 rfl, PcT_pre hK hH⟩ rfl rfl hl.1 rfl (lv_room (Nat.le_of_ble_eq_true rfl)) dX12_act_241 ⟨Nat.zero_le _, Nat.zero_le _⟩) hS (fun q _ h => AF.mono hS.1 h) (fun q h => AF.mono hS.1 h) (fun x_189 ux_189 t H locs ht hvm hx_189 hB hz hk hS => ?_)
              obtain ⟨hx_189, fx_189⟩ := hx_189
              obtain ⟨eTx_189, eGx_189⟩ := fx_189
              obtain ⟨G_190, eG_190⟩ : ∃ z, z = ux_189.2 := ⟨_, rfl⟩
              rw [← eG_190] at eGx_189
              have fr_191 : FR [107, 108, 109, 110, 114, 127, 128, 118, 119, 120] [(g.2.2 100), (g.2.2 115), (g.2.2 125), (g.2.2 126), (g.2.2 129)] [106] G G_190 := FR.tr fr_110 eGx_189 (by decide) (fun b h => ⟨h.2.1, trivial⟩) (by decide)
              have u_192 : G_190.1 113 = (G.1 113) := (eGx_189.1 113 (by decide)).trans u_111
              have u_193 : G_190.1 118 = x_118 := (eGx_189.1 118 (by decide)).trans ex_118
              have u_194 : G_190.1 119 = x_119 := (eGx_189.1 119 (by decide)).trans ex_119
              have u_195 : G_190.1 120 = x_120 := (eGx_189.1 120 (by decide)).trans ex_120
              have w_196 : G_190.2.1 (g.2.2 100) = (G.2.1 (g.2.2 100)) := (eGx_189.2.1 (g.2.2 100) ⟨(ne_kd hmk.1 hmk.2.2.2.1 (by decide)), trivial⟩).trans w_112
              have w_197 : G_190.2.1 (g.2.2 116) = (G.2.1 (g.2.2 116)) := (eGx_189.2.1 (g.2.2 116) ⟨(ne_kd hmk.2.2.2.2.1 hmk.2.2.2.1 (by decide)), trivial⟩).trans w_113
              have w_198 : G_190.2.1 (g.2.2 130) = (G.2.1 (g.2.2 130)) := (eGx_189.2.1 (g.2.2 130) ⟨(ne_kd hmk.2.2.2.2.2.2.2.2.2.2.2.1 hmk.2.2.2.1 (by decide)), trivial⟩).trans w_114
              have w_199 : G_190.2.1 (g.2.2 111) = (G.2.1 (g.2.2 111)) := (eGx_189.2.1 (g.2.2 111) ⟨(ne_kd hmk.2.2.2.2.2.2.2.2.2.2.2.2.2.2.2.2.2.2.2.2.1 hmk.2.2.2.1 (by decide)), trivial⟩).trans w_115
              have w_200 : G_190.2.1 (g.2.2 129) = (G.2.1 (g.2.2 129)) := (eGx_189.2.1 (g.2.2 129) ⟨(ne_kd hmk.2.2.2.2.2.2.2.2.2.2.1 hmk.2.2.2.1 (by decide)), trivial⟩).trans w_116
              have u_201 : G_190.2.2 111 = some (g.2.2 111) := (eGx_189.2.2 111 (by decide)).trans u_117
              have hH : HT g Ty G_190 H := by rw [← ht, ← eTx_189, eG_190]; exact hB
              have rx_189 : rgI (-9) (0) x_189 := hx_189.1
              have tx_202 := hx_189.2
              try rw [w_112] at tx_202
              try rw [w_115] at tx_202
              try rw [u_111] at tx_202
              refine lv_goto (tgt := 289) hx hb dX12_act_244 (by decide) ?_
              refine lv_istore (lv' := [(4, .int x_189), (3, .int x_80), (2, .int x_5), (0, .ref h0), (1, .int a0)]) hx hb dX12_act_289 hl (by decide) rfl (fun ls hl => ?_)
              refine lv_iload hx hb dX12_act_291 (lv_at hl 0 rfl) ?_
              refine lv_if_ge (tgt := 298) hx hb dX12_act_293 (by decide) (fun c_203 => ?_) (fun c_203 => ?_)
              · have r_204 : rgI (0) (0) x_189 := rg_w (rg_leR rl_0 rx_189 c_203) (by decide) (by decide)
                have c0_205 := tx_202 (rg_00 r_204 c_203)
                obtain ⟨⟨σ_206, hts_207⟩, h1_208, hb_209⟩ := id hTI
                refine lv_iload_n hx hb dX12_act_298 rfl (lv_at hl 2 rfl) ?_
                refine lv_bipush (v := 98) hx hb dX12_act_299 (by decide) ?_
                refine lv_icmp_ne (tgt := 325) hx hb dX12_act_301 (by decide) (fun c_210 => ?_) (fun c_210 => ?_)
                · exact rg_clash (rg_neL r_185 rl_98 c_210) (r_185) (by decide)
                · refine lv_aload_n hx hb dX12_act_304 rfl (lv_at hl 3 rfl) ?_
                  refine lv_aload_n hx hb dX12_act_305 rfl (lv_at hl 3 rfl) ?_
                  obtain ⟨_, ⟨rfl, t_212, hk_213⟩, o_c_211⟩ := hH h0 _ k_h0
                  refine hg_get hx hb hG igX12 hown hK o_c_211 rfl 0 (by decide) (hG _ mw_1284) rfl dX12_act_306 ?_
                  refine lv_iload_n hx hb dX12_act_309 rfl (lv_at hl 1 rfl) ?_
                  refine lv_aload_n hx hb dX12_act_310 rfl (lv_at hl 3 rfl) ?_
                  refine hg_get hx hb hG igX12 hown hK o_c_211 rfl 18 (by decide) (hG _ mw_1302) rfl dX12_act_311 ?_
                  rw [u_193]
                  refine lv_aload_n hx hb dX12_act_314 rfl (lv_at hl 3 rfl) ?_
                  refine hg_get hx hb hG igX12 hown hK o_c_211 rfl 19 (by decide) (hG _ mw_1303) rfl dX12_act_315 ?_
                  rw [u_194]
                  refine va_calli (va_runV (As := [.ref (g.2.2 100), .int x_80, .int x_118, .int x_119]) (rest := []) ⟨hx, hb, hml, hown, hts⟩ (c_X12_goClone l g Ty G_190 H.size h0 (g.2.2 100) x_80 x_118 x_119 k_h0 (hk_213.1) (rg_w r_96 (by decide) (by decide)) (rg_w tp_121.1 (by decide) (by decide)) (rg_w c0_205.2.2.1 (by decide) (by decide)) (g.2.2 111) hmk.2.2.2.2.2.2.2.2.2.2.2.2.2.2.2.2.2.2.2.2.1 u_201 (by rw [u_192]; exact hr3) hLD σ_206 (by rw [w_196]; exact hts_207) (by rw [w_196]; exact h1_208) Bd (by rw [w_196]; exact hb_209) (by rw [w_196]; exact (Int.le_trans hb_209 (Int.le_trans hBd (by decide)))) (by rw [w_196]; exact (Or.inr c0_205.1)) (by rw [w_196, w_199, u_192]; exact c0_205.2)) (cwV 4 hts (gwV mw_1580 mw_1582 mw_54 mw_88 mw_1583) rfl rfl rfl hv_X12_goClone ⟨Nat.le_of_ble_eq_true rfl, Nat.le_of_ble_eq_true rfl⟩) ⟨PcT_blind, hg_recv hK o_c_211 rfl, PcT_pre hK hH⟩ rfl rfl hl.1 rfl (lv_room (Nat.le_of_ble_eq_true rfl)) dX12_act_318 ⟨Nat.zero_le _, Nat.zero_le _⟩) hS (fun q _ h => AF.mono hS.1 h) (fun q h => AF.mono hS.1 h) (fun x_214 ux_214 t H locs ht hvm hx_214 hB hz hk hS => ?_)
                  obtain ⟨eTx_214, eGx_214⟩ := hx_214
                  obtain ⟨G_215, eG_215⟩ : ∃ z, z = ux_214.2 := ⟨_, rfl⟩
                  rw [← eG_215] at eGx_214
                  obtain ⟨hfr_216, hex_217⟩ := eGx_214
                  have fr_218 : FR [107, 108, 109, 110, 114, 127, 128, 118, 119, 120] [(g.2.2 100), (g.2.2 115), (g.2.2 125), (g.2.2 126), (g.2.2 129)] [106] G G_215 := FR.tr fr_191 hfr_216 (by decide) (fun b h => ⟨h.1, h.2.1, h.2.2.1, h.2.2.2.1, trivial⟩) (by decide)
                  have u_219 : G_215.1 113 = (G.1 113) := (hfr_216.1 113 (by decide)).trans u_192
                  have u_220 : G_215.1 118 = x_118 := (hfr_216.1 118 (by decide)).trans u_193
                  have u_221 : G_215.1 119 = x_119 := (hfr_216.1 119 (by decide)).trans u_194
                  have u_222 : G_215.1 120 = x_120 := (hfr_216.1 120 (by decide)).trans u_195
                  have w_223 : G_215.2.1 (g.2.2 116) = (G.2.1 (g.2.2 116)) := (hfr_216.2.1 (g.2.2 116) ⟨(ne_kd hmk.2.2.2.2.1 hmk.1 (by decide)), (ne_kd hmk.2.2.2.2.1 hmk.2.2.2.1 (by decide)), (ne_kd hmk.2.2.2.2.1 hmk.2.2.2.2.2.2.2.2.1 (by decide)), (ne_kd hmk.2.2.2.2.1 hmk.2.2.2.2.2.2.2.2.2.1 (by decide)), trivial⟩).trans w_197
                  have w_224 : G_215.2.1 (g.2.2 130) = (G.2.1 (g.2.2 130)) := (hfr_216.2.1 (g.2.2 130) ⟨(ne_kd hmk.2.2.2.2.2.2.2.2.2.2.2.1 hmk.1 (by decide)), (ne_kd hmk.2.2.2.2.2.2.2.2.2.2.2.1 hmk.2.2.2.1 (by decide)), (ne_kd hmk.2.2.2.2.2.2.2.2.2.2.2.1 hmk.2.2.2.2.2.2.2.2.1 (by decide)), (ne_kd hmk.2.2.2.2.2.2.2.2.2.2.2.1 hmk.2.2.2.2.2.2.2.2.2.1 (by decide)), trivial⟩).trans w_198
                  have w_225 : G_215.2.1 (g.2.2 111) = (G.2.1 (g.2.2 111)) := (hfr_216.2.1 (g.2.2 111) ⟨(ne_kd hmk.2.2.2.2.2.2.2.2.2.2.2.2.2.2.2.2.2.2.2.2.1 hmk.1 (by decide)), (ne_kd hmk.2.2.2.2.2.2.2.2.2.2.2.2.2.2.2.2.2.2.2.2.1 hmk.2.2.2.1 (by decide)), (ne_kd hmk.2.2.2.2.2.2.2.2.2.2.2.2.2.2.2.2.2.2.2.2.1 hmk.2.2.2.2.2.2.2.2.1 (by decide)), (ne_kd hmk.2.2.2.2.2.2.2.2.2.2.2.2.2.2.2.2.2.2.2.2.1 hmk.2.2.2.2.2.2.2.2.2.1 (by decide)), trivial⟩).trans w_199
                  have w_226 : G_215.2.1 (g.2.2 129) = (G.2.1 (g.2.2 129)) := (hfr_216.2.1 (g.2.2 129) ⟨(hLD 129 (by decide) 100 (by decide) (by decide)), (ne_kd hmk.2.2.2.2.2.2.2.2.2.2.1 hmk.2.2.2.1 (by decide)), (ne_kd hmk.2.2.2.2.2.2.2.2.2.2.1 hmk.2.2.2.2.2.2.2.2.1 (by decide)), (ne_kd hmk.2.2.2.2.2.2.2.2.2.2.1 hmk.2.2.2.2.2.2.2.2.2.1 (by decide)), trivial⟩).trans w_200
                  have u_227 : G_215.2.2 111 = some (g.2.2 111) := (hfr_216.2.2 111 (by decide)).trans u_201
                  obtain ⟨f_228, ef_228⟩ : ∃ z : Nat → Int32, G_215.2.1 (g.2.2 100) = z := ⟨_, rfl⟩
                  have gc_229 := hex_217
                  rw [ef_228, w_196, w_199, u_192] at gc_229
                  have hH : HT g Ty G_215 H := by rw [← ht, ← eTx_214, eG_215]; exact hB
                  refine lv_pop hx hb dX12_act_321 rfl ?_
                  refine lv_goto (tgt := 368) hx hb dX12_act_322 (by decide) ?_
                  refine lv_iconst (v := 1) hx hb dX12_act_368 (by decide) ?_
                  exact W.zret hx hb hr rfl (fun t ht hWm => ⟨⟨1, (Ty, G_215), rfl, ⟨rg_w rl_1 (by decide) (by decide), ⟨rfl, ⟨fr_218, (by rw [ef_228]; exact (TI.hi gc_229.1 (by omega)))⟩⟩⟩, by show HT g Ty G_215 t.heap; rw [ht]; exact hH⟩, hS.F ht⟩) hS.2.2 dX12_act_369
              · have r_230 : rgI (-9) (-1) x_189 := rg_w (rg_ltL rx_189 rl_0 (nle_lt c_203)) (by decide) (by decide)
                refine lv_iconst (v := 0) hx hb dX12_act_296 (by decide) ?_
                exact W.zret hx hb hr rfl (fun t ht hWm => ⟨⟨0, (Ty, G_190), rfl, ⟨rg_w rl_0 (by decide) (by decide), ⟨rfl, ⟨fr_191, (by rw [w_196]; exact (hTI.hi (by omega)))⟩⟩⟩, by show HT g Ty G_190 t.heap; rw [ht]; exact hH⟩, hS.F ht⟩) hS.2.2 dX12_act_297
          · have r_231 : rgI (0) (0) x_106 := rg_w (rg_eq rl_0 c_122) (by decide) (by decide)
            refine lv_iconst (v := 0) hx hb dX12_act_219 (by decide) ?_
            exact W.zret hx hb hr rfl (fun t ht hWm => ⟨⟨0, (Ty, G_107), rfl, ⟨rg_w rl_0 (by decide) (by decide), ⟨rfl, ⟨fr_110, (by rw [w_112]; exact (hTI.hi (by omega)))⟩⟩⟩, by show HT g Ty G_107 t.heap; rw [ht]; exact hH⟩, hS.F ht⟩) hS.2.2 dX12_act_220
        · have r_232 : rgI (107) (107) x_5 := rg_w (rg_eq rl_107 c_98) (by decide) (by decide)
          refine lv_aload_n hx hb dX12_act_161 rfl (lv_at hl 2 rfl) ?_
          obtain ⟨_, ⟨rfl, t_234, hk_235⟩, o_c_233⟩ := hH h0 _ k_h0
          refine hg_get hx hb hG igX12 hown hK o_c_233 rfl 0 (by decide) (hG _ mw_1284) rfl dX12_act_162 ?_
          refine lv_iload_n hx hb dX12_act_165 rfl (lv_at hl 0 rfl) ?_
          refine lv_aload_n hx hb dX12_act_166 rfl (lv_at hl 2 rfl) ?_
          refine hg_get hx hb hG igX12 hown hK o_c_233 rfl 30 (by decide) (hG _ mw_1314) rfl dX12_act_167 ?_
          refine lv_iload_n hx hb dX12_act_170 rfl (lv_at hl 3 rfl) ?_
          refine lv_iconst (v := 3) hx hb dX12_act_171 (by decide) ?_
          refine lv_iadd hx hb dX12_act_172 ?_
          refine lv_topi (fun x_236 ex_236 => ?_)
          have rx_236 : rgI (3) (319) x_236 := by rw [ex_236]; exact rg_w (rg_add pr0 rl_3 (by decide) (by decide)) (by decide) (by decide)
          have qx_236 : x_236.toInt = (a0 : Int32).toInt + 3 := by rw [ex_236]; exact rg_addE pr0 rl_3 (by decide) (by decide)
          obtain ⟨_, rfl, o_c_237⟩ := hH (g.2.2 130) _ hk_235.2.2.2.2.2.2.2.2.2.2.2.1
          have o_c_237 : va_at g.1 vwCl ((g.2.2 130), .inl (g.2.1 1, 320, .inl (G_81.2.1 (g.2.2 130)))) H := o_c_237
          refine hg_iald hx hb hK o_c_237 (rg_in (n := 320) rx_236 (by decide) (by decide)) dX12_act_173 ?_
          rw [w_88]
          refine lv_topi (fun x_238 ex_238 => ?_)
          refine vp_callSi (W.runS (As := [.ref (g.2.2 100), .int x_80, .int x_238]) (rest := []) ⟨hx, hb, hml, hown, hts⟩ (c_X12_refusesMaking l g Ty G_81 (g.2.2 100) x_80 x_238 (hk_235.1)) (cwSx 3 hts hG (gwC mw_1638) mw_88 mw_1636 mw_1637 rfl rfl rfl hd_X12_refusesMaking ⟨Nat.le_of_ble_eq_true rfl, Nat.le_of_ble_eq_true rfl⟩) ⟨PcH_blind, PcH_pre hK hH⟩ rfl rfl hl.1 rfl (lv_room (Nat.le_of_ble_eq_true rfl)) dX12_act_174 ⟨Nat.zero_le _, Nat.zero_le _⟩) (fun x_239 hx_239 => ?_)
          have rx_239 : rgI (-2) (0) x_239 := hx_239.1
          have ex_240 : x_239 = F_X12_refusesMaking (G.2.1 (g.2.2 100)) x_80 x_238 := by rw [← w_86]; exact hx_239.2
          refine lv_if_ge (tgt := 182) hx hb dX12_act_177 (by decide) (fun c_241 => ?_) (fun c_241 => ?_)
          · have r_242 : rgI (0) (0) x_239 := rg_w (rg_leR rl_0 rx_239 c_241) (by decide) (by decide)
            refine lv_aload_n hx hb dX12_act_182 rfl (lv_at hl 2 rfl) ?_
            refine hg_get hx hb hG igX12 hown hK o_c_233 rfl 0 (by decide) (hG _ mw_1284) rfl dX12_act_183 ?_
            refine lv_iload_n hx hb dX12_act_186 rfl (lv_at hl 0 rfl) ?_
            refine lv_aload_n hx hb dX12_act_187 rfl (lv_at hl 2 rfl) ?_
            refine hg_get hx hb hG igX12 hown hK o_c_233 rfl 30 (by decide) (hG _ mw_1314) rfl dX12_act_188 ?_
            refine lv_iload_n hx hb dX12_act_191 rfl (lv_at hl 3 rfl) ?_
            refine lv_iconst (v := 3) hx hb dX12_act_192 (by decide) ?_
            refine lv_iadd hx hb dX12_act_193 ?_
            refine lv_topi (fun x_243 ex_243 => ?_)
            have rx_243 : rgI (3) (319) x_243 := by rw [ex_243]; exact rg_w (rg_add pr0 rl_3 (by decide) (by decide)) (by decide) (by decide)
            have qx_243 : x_243.toInt = (a0 : Int32).toInt + 3 := by rw [ex_243]; exact rg_addE pr0 rl_3 (by decide) (by decide)
            refine hg_iald hx hb hK o_c_237 (rg_in (n := 320) rx_243 (by decide) (by decide)) dX12_act_194 ?_
            rw [w_88]
            refine lv_topi (fun x_244 ex_244 => ?_)
            refine va_callv (va_runS (As := [.ref (g.2.2 100), .int x_80, .int x_244]) (rest := []) ⟨hx, hb, hml, hown, hts⟩ (c_X12_goMake l g Ty G_81 H.size (g.2.2 100) x_80 x_244 (hk_235.1) (rg_w r_96 (by decide) (by decide))) (cwSx 3 hts hG (gwC mw_1641) mw_88 mw_1639 mw_1640 rfl rfl rfl hd_X12_goMake ⟨Nat.le_of_ble_eq_true rfl, Nat.le_of_ble_eq_true rfl⟩) ⟨PcT_blind, PcT_pre hK hH⟩ rfl rfl hl.1 rfl (lv_room (Nat.le_of_ble_eq_true rfl)) dX12_act_195 ⟨Nat.zero_le _, Nat.zero_le _⟩) hS (fun q _ h => AF.mono hS.1 h) (fun q h => AF.mono hS.1 h) (fun ux_245 t H locs ht hvm hx_245 hB hz hk hS => ?_)
            obtain ⟨eTx_245, eGx_245⟩ := hx_245
            obtain ⟨G_246, eG_246⟩ : ∃ z, z = ux_245.2 := ⟨_, rfl⟩
            rw [← eG_246] at eGx_245
            have hg_248 := eGx_245
            rw [w_86] at hg_248
            obtain ⟨f_247, ef_247⟩ : ∃ z : Nat → Int32, z = F_X12_goMake (G.2.1 (g.2.2 100)) x_80 x_244 := ⟨_, rfl⟩
            rw [← ef_247] at hg_248
            have fr_249 : FR [107, 108, 109, 110, 114, 127, 128, 118, 119, 120] [(g.2.2 100), (g.2.2 115), (g.2.2 125), (g.2.2 126), (g.2.2 129)] [106] G G_246 := FR.a fr_84 hg_248 (fun b h => h.1)
            have u_250 : G_246.1 113 = (G.1 113) := by rw [hg_248]; exact u_85
            have u_251 : G_246.1 118 = x_92 := by rw [hg_248]; exact ex_92
            have u_252 : G_246.1 119 = x_93 := by rw [hg_248]; exact ex_93
            have u_253 : G_246.1 120 = x_94 := by rw [hg_248]; exact ex_94
            have w_254 : G_246.2.1 (g.2.2 100) = f_247 := by rw [hg_248]; exact aset_eq
            have w_255 : G_246.2.1 (g.2.2 116) = (G.2.1 (g.2.2 116)) := by rw [hg_248]; exact (aset_ne (ne_kd hmk.2.2.2.2.1 hmk.1 (by decide))).trans w_87
            have w_256 : G_246.2.1 (g.2.2 130) = (G.2.1 (g.2.2 130)) := by rw [hg_248]; exact (aset_ne (ne_kd hmk.2.2.2.2.2.2.2.2.2.2.2.1 hmk.1 (by decide))).trans w_88
            have w_257 : G_246.2.1 (g.2.2 111) = (G.2.1 (g.2.2 111)) := by rw [hg_248]; exact (aset_ne (ne_kd hmk.2.2.2.2.2.2.2.2.2.2.2.2.2.2.2.2.2.2.2.2.1 hmk.1 (by decide))).trans w_89
            have w_258 : G_246.2.1 (g.2.2 129) = (G.2.1 (g.2.2 129)) := by rw [hg_248]; exact (aset_ne (hLD 129 (by decide) 100 (by decide) (by decide))).trans w_90
            have u_259 : G_246.2.2 111 = some (g.2.2 111) := by rw [hg_248]; exact u_91
            have hH : HT g Ty G_246 H := by rw [← ht, ← eTx_245, eG_246]; exact hB
            have tm_260 : TI (Bd + 25) f_247 := by rw [ef_247]; exact (TI_make hTI (Int.le_trans hBd (by decide)) th_97).1
            refine lv_iconst (v := 1) hx hb dX12_act_198 (by decide) ?_
            exact W.zret hx hb hr rfl (fun t ht hWm => ⟨⟨1, (Ty, G_246), rfl, ⟨rg_w rl_1 (by decide) (by decide), ⟨rfl, ⟨fr_249, (by rw [w_254]; exact (TI.hi tm_260 (by omega)))⟩⟩⟩, by show HT g Ty G_246 t.heap; rw [ht]; exact hH⟩, hS.F ht⟩) hS.2.2 dX12_act_199
          · have r_261 : rgI (-2) (-1) x_239 := rg_w (rg_ltL rx_239 rl_0 (nle_lt c_241)) (by decide) (by decide)
            refine lv_iconst (v := 0) hx hb dX12_act_180 (by decide) ?_
            exact W.zret hx hb hr rfl (fun t ht hWm => ⟨⟨0, (Ty, G_81), rfl, ⟨rg_w rl_0 (by decide) (by decide), ⟨rfl, ⟨fr_84, (by rw [w_86]; exact (hTI.hi (by omega)))⟩⟩⟩, by show HT g Ty G_81 t.heap; rw [ht]; exact hH⟩, hS.F ht⟩) hS.2.2 dX12_act_181
      · have r_262 : rgI (24) (24) x_80 := rg_w (rg_eq rl_24 c_95) (by decide) (by decide)
        refine lv_iconst (v := 0) hx hb dX12_act_153 (by decide) ?_
        exact W.zret hx hb hr rfl (fun t ht hWm => ⟨⟨0, (Ty, G_81), rfl, ⟨rg_w rl_0 (by decide) (by decide), ⟨rfl, ⟨fr_84, (by rw [w_86]; exact (hTI.hi (by omega)))⟩⟩⟩, by show HT g Ty G_81 t.heap; rw [ht]; exact hH⟩, hS.F ht⟩) hS.2.2 dX12_act_154
    · have r_263 : rgI (117) (117) x_5 := rg_w (rg_eq rl_117 c_76) (by decide) (by decide)
      refine lv_aload_n hx hb dX12_act_19 rfl (lv_at hl 1 rfl) ?_
      refine lv_aload_n hx hb dX12_act_20 rfl (lv_at hl 1 rfl) ?_
      refine hg_get hx hb hG igX12 hown hK o_c_1 rfl 0 (by decide) (hG _ mw_1284) rfl dX12_act_21 ?_
      refine lv_aload_n hx hb dX12_act_24 rfl (lv_at hl 1 rfl) ?_
      refine hg_get hx hb hG igX12 hown hK o_c_1 rfl 30 (by decide) (hG _ mw_1314) rfl dX12_act_25 ?_
      refine lv_iload_n hx hb dX12_act_28 rfl (lv_at hl 2 rfl) ?_
      refine lv_iconst (v := 1) hx hb dX12_act_29 (by decide) ?_
      refine lv_iadd hx hb dX12_act_30 ?_
      refine lv_topi (fun x_264 ex_264 => ?_)
      have rx_264 : rgI (1) (317) x_264 := by rw [ex_264]; exact rg_w (rg_add pr0 rl_1 (by decide) (by decide)) (by decide) (by decide)
      have qx_264 : x_264.toInt = (a0 : Int32).toInt + 1 := by rw [ex_264]; exact rg_addE pr0 rl_1 (by decide) (by decide)
      refine hg_iald hx hb hK o_c_4 (rg_in (n := 320) rx_264 (by decide) (by decide)) dX12_act_31 ?_
      refine lv_topi (fun x_265 ex_265 => ?_)
      have ak_266 : x_265 = (G.2.1 (g.2.2 130)) (a0.toNatClampNeg + 1) := by rw [ex_265, ai_d (n := 1) ex_264 pr0 rfl (by decide)]
      refine va_calli (va_runV (As := [.ref (g.2.2 100), .int x_265]) (rest := []) ⟨hx, hb, hml, hown, hts⟩ (c_X12_goPath l g Ty G s.heap.size h0 (g.2.2 100) x_265 k_h0 (hk_3.1) ρ hT lmx (ps_eq hok.1 ak_266)) (cwV 2 hts (gwV mw_1499 mw_1501 mw_47 mw_88 mw_1502) rfl rfl rfl hv_X12_goPath ⟨Nat.le_of_ble_eq_true rfl, Nat.le_of_ble_eq_true rfl⟩) ⟨PcT_blind, hg_recv hK o_c_1 rfl, PcT_pre hK hH⟩ rfl rfl hl.1 rfl (lv_room (Nat.le_of_ble_eq_true rfl)) dX12_act_32 ⟨Nat.zero_le _, Nat.zero_le _⟩) hS (fun q _ h => AF.mono hS.1 h) (fun q h => AF.mono hS.1 h) (fun x_267 ux_267 t H locs ht hvm hx_267 hB hz hk hS => ?_)
      obtain ⟨hx_267, fx_267⟩ := hx_267
      obtain ⟨eTx_267, eGx_267⟩ := fx_267
      obtain ⟨G_268, eG_268⟩ : ∃ z, z = ux_267.2 := ⟨_, rfl⟩
      rw [← eG_268] at eGx_267
      obtain ⟨hfr_269, hex_270⟩ := eGx_267
      have fr_271 : FR [107, 108, 109, 110, 114, 127, 128, 118, 119, 120] [(g.2.2 100), (g.2.2 115), (g.2.2 125), (g.2.2 126), (g.2.2 129)] [106] G G_268 := FR.tr FR.rf hfr_269 (by decide) (fun _ _ => trivial) (by decide)
      have u_272 : G_268.1 113 = (G.1 113) := (hfr_269.1 113 (by decide))
      have w_273 : G_268.2.1 (g.2.2 100) = (G.2.1 (g.2.2 100)) := (hfr_269.2.1 (g.2.2 100) trivial)
      have w_274 : G_268.2.1 (g.2.2 116) = (G.2.1 (g.2.2 116)) := (hfr_269.2.1 (g.2.2 116) trivial)
      have w_275 : G_268.2.1 (g.2.2 130) = (G.2.1 (g.2.2 130)) := (hfr_269.2.1 (g.2.2 130) trivial)
      have w_276 : G_268.2.1 (g.2.2 111) = (G.2.1 (g.2.2 111)) := (hfr_269.2.1 (g.2.2 111) trivial)
      have w_277 : G_268.2.1 (g.2.2 129) = (G.2.1 (g.2.2 129)) := (hfr_269.2.1 (g.2.2 129) trivial)
      have u_278 : G_268.2.2 111 = some (g.2.2 111) := (hfr_269.2.2 111 (by decide)).trans hr1
      obtain ⟨x_279, ex_279⟩ : ∃ z : Int32, G_268.1 118 = z := ⟨_, rfl⟩
      obtain ⟨x_280, ex_280⟩ : ∃ z : Int32, G_268.1 119 = z := ⟨_, rfl⟩
      obtain ⟨x_281, ex_281⟩ : ∃ z : Int32, G_268.1 120 = z := ⟨_, rfl⟩
      have tp_282 := hex_270
      rw [ex_279] at tp_282
      have hH : HT g Ty G_268 H := by rw [← ht, ← eTx_267, eG_268]; exact hB
      have rx_267 : rgI (0) (1) x_267 := hx_267
      refine lv_if_ne (tgt := 40) hx hb dX12_act_35 (by decide) (fun c_283 => ?_) (fun c_283 => ?_)
      · have r_284 : rgI (1) (1) x_267 := rg_w (rg_neL rx_267 rl_0 c_283) (by decide) (by decide)
        refine lv_iload_n hx hb dX12_act_40 rfl (lv_at hl 0 rfl) ?_
        refine lv_bipush (v := 109) hx hb dX12_act_41 (by decide) ?_
        refine lv_icmp_ne (tgt := 65) hx hb dX12_act_43 (by decide) (fun c_285 => ?_) (fun c_285 => ?_)
        · refine lv_aload_n hx hb dX12_act_65 rfl (lv_at hl 1 rfl) ?_
          obtain ⟨_, ⟨rfl, t_287, hk_288⟩, o_c_286⟩ := hH h0 _ k_h0
          refine hg_get hx hb hG igX12 hown hK o_c_286 rfl 0 (by decide) (hG _ mw_1284) rfl dX12_act_66 ?_
          refine lv_aload_n hx hb dX12_act_69 rfl (lv_at hl 1 rfl) ?_
          refine hg_get hx hb hG igX12 hown hK o_c_286 rfl 18 (by decide) (hG _ mw_1302) rfl dX12_act_70 ?_
          rw [ex_279]
          refine lv_aload_n hx hb dX12_act_73 rfl (lv_at hl 1 rfl) ?_
          refine hg_get hx hb hG igX12 hown hK o_c_286 rfl 19 (by decide) (hG _ mw_1303) rfl dX12_act_74 ?_
          rw [ex_280]
          refine vp_callSi (W.runS (As := [.ref (g.2.2 100), .int x_279, .int x_280]) (rest := []) ⟨hx, hb, hml, hown, hts⟩ (c_X12_refusesUnmount l g Ty G_268 (g.2.2 100) x_279 x_280 (hk_288.1)) (cwSx 3 hts hG (gwC mw_1651) mw_88 mw_1649 mw_1650 rfl rfl rfl hd_X12_refusesUnmount ⟨Nat.le_of_ble_eq_true rfl, Nat.le_of_ble_eq_true rfl⟩) ⟨PcH_blind, PcH_pre hK hH⟩ rfl rfl hl.1 rfl (lv_room (Nat.le_of_ble_eq_true rfl)) dX12_act_77 ⟨Nat.zero_le _, Nat.zero_le _⟩) (fun x_289 hx_289 => ?_)
          have rx_289 : rgI (-3) (0) x_289 := hx_289.1
          have ex_290 : x_289 = F_X12_refusesUnmount (G.2.1 (g.2.2 100)) x_279 x_280 := by rw [← w_273]; exact hx_289.2
          refine lv_istore_n (lv' := [(3, .int x_289), (2, .int x_5), (0, .ref h0), (1, .int a0)]) hx hb dX12_act_80 rfl hl (by decide) rfl (fun ls hl => ?_)
          refine lv_iload_n hx hb dX12_act_81 rfl (lv_at hl 0 rfl) ?_
          refine lv_if_ge (tgt := 87) hx hb dX12_act_82 (by decide) (fun c_291 => ?_) (fun c_291 => ?_)
          · have r_292 : rgI (0) (0) x_289 := rg_w (rg_leR rl_0 rx_289 c_291) (by decide) (by decide)
            refine lv_iload_n hx hb dX12_act_87 rfl (lv_at hl 1 rfl) ?_
            refine lv_bipush (v := 109) hx hb dX12_act_88 (by decide) ?_
            refine lv_icmp_ne (tgt := 115) hx hb dX12_act_90 (by decide) (fun c_293 => ?_) (fun c_293 => ?_)
            · refine lv_aload_n hx hb dX12_act_115 rfl (lv_at hl 2 rfl) ?_
              refine lv_aload_n hx hb dX12_act_116 rfl (lv_at hl 2 rfl) ?_
              refine hg_get hx hb hG igX12 hown hK o_c_286 rfl 0 (by decide) (hG _ mw_1284) rfl dX12_act_117 ?_
              refine lv_aload_n hx hb dX12_act_120 rfl (lv_at hl 2 rfl) ?_
              refine hg_get hx hb hG igX12 hown hK o_c_286 rfl 18 (by decide) (hG _ mw_1302) rfl dX12_act_121 ?_
              rw [ex_279]
              refine lv_aload_n hx hb dX12_act_124 rfl (lv_at hl 2 rfl) ?_
              refine hg_get hx hb hG igX12 hown hK o_c_286 rfl 19 (by decide) (hG _ mw_1303) rfl dX12_act_125 ?_
              rw [ex_280]
              refine va_calli (va_runV (As := [.ref (g.2.2 100), .int x_279, .int x_280]) (rest := []) ⟨hx, hb, hml, hown, hts⟩ (c_X12_goUnmount l g Ty G_268 H.size h0 (g.2.2 100) x_279 x_280 k_h0 (hk_288.1) (rg_w tp_282.1 (by decide) (by decide)) Bd (by rw [w_273]; exact hTI) (by rw [w_273]; exact tp_282) (g.2.2 111) hmk.2.2.2.2.2.2.2.2.2.2.2.2.2.2.2.2.2.2.2.2.1 u_278 (by rw [u_272]; exact hr3)) (cwV 3 hts (gwV mw_1652 mw_1654 mw_62 mw_88 mw_1655) rfl rfl rfl hv_X12_goUnmount ⟨Nat.le_of_ble_eq_true rfl, Nat.le_of_ble_eq_true rfl⟩) ⟨PcT_blind, hg_recv hK o_c_286 rfl, PcT_pre hK hH⟩ rfl rfl hl.1 rfl (lv_room (Nat.le_of_ble_eq_true rfl)) dX12_act_128 ⟨Nat.zero_le _, Nat.zero_le _⟩) hS (fun q _ h => AF.mono hS.1 h) (fun q h => AF.mono hS.1 h) (fun x_294 ux_294 t H locs ht hvm hx_294 hB hz hk hS => ?_)
              obtain ⟨eTx_294, eGx_294⟩ := hx_294
              obtain ⟨G_295, eG_295⟩ : ∃ z, z = ux_294.2 := ⟨_, rfl⟩
              rw [← eG_295] at eGx_294
              obtain ⟨hfr_296, hex_297⟩ := eGx_294
              have fr_298 : FR [107, 108, 109, 110, 114, 127, 128, 118, 119, 120] [(g.2.2 100), (g.2.2 115), (g.2.2 125), (g.2.2 126), (g.2.2 129)] [106] G G_295 := FR.tr fr_271 hfr_296 (by decide) (fun b h => ⟨h.1, h.2.1, trivial⟩) (by decide)
              have u_299 : G_295.1 113 = (G.1 113) := (hfr_296.1 113 (by decide)).trans u_272
              have u_300 : G_295.1 118 = x_279 := (hfr_296.1 118 (by decide)).trans ex_279
              have u_301 : G_295.1 119 = x_280 := (hfr_296.1 119 (by decide)).trans ex_280
              have u_302 : G_295.1 120 = x_281 := (hfr_296.1 120 (by decide)).trans ex_281
              have w_303 : G_295.2.1 (g.2.2 116) = (G.2.1 (g.2.2 116)) := (hfr_296.2.1 (g.2.2 116) ⟨(ne_kd hmk.2.2.2.2.1 hmk.1 (by decide)), (ne_kd hmk.2.2.2.2.1 hmk.2.2.2.1 (by decide)), trivial⟩).trans w_274
              have w_304 : G_295.2.1 (g.2.2 130) = (G.2.1 (g.2.2 130)) := (hfr_296.2.1 (g.2.2 130) ⟨(ne_kd hmk.2.2.2.2.2.2.2.2.2.2.2.1 hmk.1 (by decide)), (ne_kd hmk.2.2.2.2.2.2.2.2.2.2.2.1 hmk.2.2.2.1 (by decide)), trivial⟩).trans w_275
              have w_305 : G_295.2.1 (g.2.2 111) = (G.2.1 (g.2.2 111)) := (hfr_296.2.1 (g.2.2 111) ⟨(ne_kd hmk.2.2.2.2.2.2.2.2.2.2.2.2.2.2.2.2.2.2.2.2.1 hmk.1 (by decide)), (ne_kd hmk.2.2.2.2.2.2.2.2.2.2.2.2.2.2.2.2.2.2.2.2.1 hmk.2.2.2.1 (by decide)), trivial⟩).trans w_276
              have w_306 : G_295.2.1 (g.2.2 129) = (G.2.1 (g.2.2 129)) := (hfr_296.2.1 (g.2.2 129) ⟨(hLD 129 (by decide) 100 (by decide) (by decide)), (ne_kd hmk.2.2.2.2.2.2.2.2.2.2.1 hmk.2.2.2.1 (by decide)), trivial⟩).trans w_277
              have u_307 : G_295.2.2 111 = some (g.2.2 111) := (hfr_296.2.2 111 (by decide)).trans u_278
              obtain ⟨f_308, ef_308⟩ : ∃ z : Nat → Int32, G_295.2.1 (g.2.2 100) = z := ⟨_, rfl⟩
              have ti_309 := hex_297
              rw [ef_308] at ti_309
              have hH : HT g Ty G_295 H := by rw [← ht, ← eTx_294, eG_295]; exact hB
              refine lv_pop hx hb dX12_act_131 rfl ?_
              refine lv_iconst (v := 1) hx hb dX12_act_132 (by decide) ?_
              exact W.zret hx hb hr rfl (fun t ht hWm => ⟨⟨1, (Ty, G_295), rfl, ⟨rg_w rl_1 (by decide) (by decide), ⟨rfl, ⟨fr_298, (by rw [ef_308]; exact (TI.hi ti_309 (by omega)))⟩⟩⟩, by show HT g Ty G_295 t.heap; rw [ht]; exact hH⟩, hS.F ht⟩) hS.2.2 dX12_act_133
            · exact rg_noE r_263 rl_109 c_293 (by decide)
          · have r_310 : rgI (-3) (-1) x_289 := rg_w (rg_ltL rx_289 rl_0 (nle_lt c_291)) (by decide) (by decide)
            refine lv_iconst (v := 0) hx hb dX12_act_85 (by decide) ?_
            exact W.zret hx hb hr rfl (fun t ht hWm => ⟨⟨0, (Ty, G_268), rfl, ⟨rg_w rl_0 (by decide) (by decide), ⟨rfl, ⟨fr_271, (by rw [w_273]; exact (hTI.hi (by omega)))⟩⟩⟩, by show HT g Ty G_268 t.heap; rw [ht]; exact hH⟩, hS.F ht⟩) hS.2.2 dX12_act_86
        · exact rg_noE r_263 rl_109 c_285 (by decide)
      · have r_311 : rgI (0) (0) x_267 := rg_w (rg_eq rl_0 c_283) (by decide) (by decide)
        refine lv_iconst (v := 0) hx hb dX12_act_38 (by decide) ?_
        exact W.zret hx hb hr rfl (fun t ht hWm => ⟨⟨0, (Ty, G_268), rfl, ⟨rg_w rl_0 (by decide) (by decide), ⟨rfl, ⟨fr_271, (by rw [w_273]; exact (hTI.hi (by omega)))⟩⟩⟩, by show HT g Ty G_268 t.heap; rw [ht]; exact hH⟩, hS.F ht⟩) hS.2.2 dX12_act_39
