set_option maxHeartbeats 4000000 in
set_option maxRecDepth 100000 in
theorem c_X12_act (l : Launch) (g : Gx) (Ty : TyM) (G : Gh) (sz : Nat) (h0 : Nat) (a0 : Int32) (k_h0 : Ty h0 = some (22, 0)) (pr0 : rgI (0) (316) a0) (Bd : Int) (hTI : TI Bd (G.2.1 (g.2.2 100))) (hBd : Bd ≤ 1950000) (hr1 : G.2.2 111 = some (g.2.2 111)) (hr3 : rgI 0 40 (G.1 113)) (hLD : LD g) (lmx : Int) (hok : AOK (G.2.1 (g.2.2 116)) (G.2.1 (g.2.2 130)) lmx a0.toNatClampNeg) : Met l yX12_act (wsG yX12_act cX12_act 5 (some .boolean)) ({ frames := 342, cells := 0, slots := 0, locals := 8026 }) (PcT g Ty G sz [.ref h0, .int a0]) (QwI g Ty sz (fun r u => (rgI (0) (1) r) ∧ u.1 = Ty ∧ FR [107, 108, 109, 110, 114, 127, 128, 118, 119, 120] [(g.2.2 100), (g.2.2 115), (g.2.2 125), (g.2.2 126), (g.2.2 129)] [106] G u.2 ∧ TI (Bd + 25) (u.2.2.1 (g.2.2 100)))) 0 0 (AF Ty sz) := by
  refine Met.ofW (cc := cX12_act) (maxL := 5) (ret := (some .boolean)) (by decide) rfl ?_
  intro p e s m args below meth c s₁ B hml hv
  obtain ⟨rfl, hsz, hK, hH⟩ := hv
  subst hsz
  have hx := B.exec
  have hb := B.bytes
  have hr := B.returns
  have hts := atoms_spec (ws := (wsG yX12_act cX12_act 5 (some .boolean))) B.pre
  have hG : ∀ w ∈ GW, w.before ([.ref h0, .int a0] : List Value).toArray s = true := fun w h => hts w (List.mem_cons_of_mem _ h)
  have hown : s.vm.findClass RX12 = some m.cls := findClass_of_methodNamed B.named
  have hlocks := B.notSynchronized
  have hl := lv_entry [.ref h0, .int a0] (n := 5) (Nat.le_of_ble_eq_true rfl)
  rw [lg_entry_eq]
  generalize (lg_sl [.ref h0, .int a0] ++ List.replicate (5 - (lg_sl [.ref h0, .int a0]).length) Slot.unset).toArray = ls at hl ⊢
  have hl : lv_has ls 5 [(0, .ref h0), (1, .int a0)] := hl
  have hmk : mdK g Ty := mdk_of hH k_h0
  have hS : va_S (AF Ty s.heap.size) s.heap s.heap [] := va_S.rf
  obtain ⟨⟨σ0, hTS0⟩, h10, hBB0⟩ := id hTI
  obtain ⟨ρ, hT⟩ := hTS0.1
  refine lv_aload_n hx hb dX12_act_0 rfl (lv_at hl 0 rfl) ?_
  obtain ⟨_, ⟨rfl, t_2, hk_3⟩, o_c_1⟩ := hH h0 _ k_h0
  refine hg_get hx hb hG igX12 hown hK o_c_1 rfl 30 (by decide) (hG _ mw_1314) rfl dX12_act_1 ?_
  refine lv_iload_n hx hb dX12_act_4 rfl (lv_at hl 1 rfl) ?_
  obtain ⟨_, rfl, o_c_4⟩ := hH (g.2.2 130) _ hk_3.2.2.2.2.2.2.2.2.2.2.2.1
  have o_c_4 : va_at g.1 vwCl ((g.2.2 130), .inl (g.2.1 1, 320, .inl (G.2.1 (g.2.2 130)))) s.heap := o_c_4
  refine hg_iald hx hb hK o_c_4 (rg_in (n := 320) pr0 (by decide) (by decide)) dX12_act_5 ?_
  refine lv_topi (fun x_5 ex_5 => ?_)
  refine lv_istore_n (lv' := [(2, .int x_5), (0, .ref h0), (1, .int a0)]) hx hb dX12_act_6 rfl hl (by decide) rfl (fun ls hl => ?_)
  refine lv_iload_n hx hb dX12_act_7 rfl (lv_at hl 0 rfl) ?_
  refine lv_bipush (v := 109) hx hb dX12_act_8 (by decide) ?_
  refine lv_icmp_eq (tgt := 19) hx hb dX12_act_10 (by decide) (fun c_6 => ?_) (fun c_6 => ?_)
  · have r_7 : rgI (109) (109) x_5 := rg_w (rg_eq rl_109 c_6) (by decide) (by decide)
    refine lv_aload_n hx hb dX12_act_19 rfl (lv_at hl 1 rfl) ?_
    refine lv_aload_n hx hb dX12_act_20 rfl (lv_at hl 1 rfl) ?_
    refine hg_get hx hb hG igX12 hown hK o_c_1 rfl 0 (by decide) (hG _ mw_1284) rfl dX12_act_21 ?_
    refine lv_aload_n hx hb dX12_act_24 rfl (lv_at hl 1 rfl) ?_
    refine hg_get hx hb hG igX12 hown hK o_c_1 rfl 30 (by decide) (hG _ mw_1314) rfl dX12_act_25 ?_
    refine lv_iload_n hx hb dX12_act_28 rfl (lv_at hl 2 rfl) ?_
    refine lv_iconst (v := 1) hx hb dX12_act_29 (by decide) ?_
    refine lv_iadd hx hb dX12_act_30 ?_
    refine lv_topi (fun x_8 ex_8 => ?_)
    have rx_8 : rgI (1) (317) x_8 := by rw [ex_8]; exact rg_w (rg_add pr0 rl_1 (by decide) (by decide)) (by decide) (by decide)
    have qx_8 : x_8.toInt = (a0 : Int32).toInt + 1 := by rw [ex_8]; exact rg_addE pr0 rl_1 (by decide) (by decide)
    refine hg_iald hx hb hK o_c_4 (rg_in (n := 320) rx_8 (by decide) (by decide)) dX12_act_31 ?_
    refine lv_topi (fun x_9 ex_9 => ?_)
    have ak_10 : x_9 = (G.2.1 (g.2.2 130)) (a0.toNatClampNeg + 1) := by rw [ex_9, ai_d (n := 1) ex_8 pr0 rfl (by decide)]
    refine va_calli (va_runV (As := [.ref (g.2.2 100), .int x_9]) (rest := []) ⟨hx, hb, hml, hown, hts⟩ (c_X12_goPath l g Ty G s.heap.size h0 (g.2.2 100) x_9 k_h0 (hk_3.1) ρ hT lmx (ps_eq hok.1 ak_10)) (cwV 2 hts (gwV mw_1503 mw_1505 mw_47 mw_88 mw_1506) rfl rfl rfl hv_X12_goPath ⟨Nat.le_of_ble_eq_true rfl, Nat.le_of_ble_eq_true rfl⟩) ⟨PcT_blind, hg_recv hK o_c_1 rfl, PcT_pre hK hH⟩ rfl rfl hl.1 rfl (lv_room (Nat.le_of_ble_eq_true rfl)) dX12_act_32 ⟨Nat.zero_le _, Nat.zero_le _⟩) hS (fun q _ h => AF.mono hS.1 h) (fun q h => AF.mono hS.1 h) (fun x_11 ux_11 t H locs ht hvm hx_11 hB hz hk hS => ?_)
    obtain ⟨hx_11, fx_11⟩ := hx_11
    obtain ⟨eTx_11, eGx_11⟩ := fx_11
    obtain ⟨G_12, eG_12⟩ : ∃ z, z = ux_11.2 := ⟨_, rfl⟩
    rw [← eG_12] at eGx_11
    obtain ⟨hfr_13, hex_14⟩ := eGx_11
    have fr_15 : FR [107, 108, 109, 110, 114, 127, 128, 118, 119, 120] [(g.2.2 100), (g.2.2 115), (g.2.2 125), (g.2.2 126), (g.2.2 129)] [106] G G_12 := FR.tr FR.rf hfr_13 (by decide) (fun _ _ => trivial) (by decide)
    have u_16 : G_12.1 113 = (G.1 113) := (hfr_13.1 113 (by decide))
    have w_17 : G_12.2.1 (g.2.2 100) = (G.2.1 (g.2.2 100)) := (hfr_13.2.1 (g.2.2 100) trivial)
    have w_18 : G_12.2.1 (g.2.2 116) = (G.2.1 (g.2.2 116)) := (hfr_13.2.1 (g.2.2 116) trivial)
    have w_19 : G_12.2.1 (g.2.2 130) = (G.2.1 (g.2.2 130)) := (hfr_13.2.1 (g.2.2 130) trivial)
    have w_20 : G_12.2.1 (g.2.2 111) = (G.2.1 (g.2.2 111)) := (hfr_13.2.1 (g.2.2 111) trivial)
    have w_21 : G_12.2.1 (g.2.2 129) = (G.2.1 (g.2.2 129)) := (hfr_13.2.1 (g.2.2 129) trivial)
    have u_22 : G_12.2.2 111 = some (g.2.2 111) := (hfr_13.2.2 111 (by decide)).trans hr1
    obtain ⟨x_23, ex_23⟩ : ∃ z : Int32, G_12.1 118 = z := ⟨_, rfl⟩
    obtain ⟨x_24, ex_24⟩ : ∃ z : Int32, G_12.1 119 = z := ⟨_, rfl⟩
    obtain ⟨x_25, ex_25⟩ : ∃ z : Int32, G_12.1 120 = z := ⟨_, rfl⟩
    have tp_26 := hex_14
    rw [ex_23] at tp_26
    have hH : HT g Ty G_12 H := by rw [← ht, ← eTx_11, eG_12]; exact hB
    have rx_11 : rgI (0) (1) x_11 := hx_11
    refine lv_if_ne (tgt := 40) hx hb dX12_act_35 (by decide) (fun c_27 => ?_) (fun c_27 => ?_)
    · have r_28 : rgI (1) (1) x_11 := rg_w (rg_neL rx_11 rl_0 c_27) (by decide) (by decide)
      refine lv_iload_n hx hb dX12_act_40 rfl (lv_at hl 0 rfl) ?_
      refine lv_bipush (v := 109) hx hb dX12_act_41 (by decide) ?_
      refine lv_icmp_ne (tgt := 65) hx hb dX12_act_43 (by decide) (fun c_29 => ?_) (fun c_29 => ?_)
      · exact rg_clash (rg_neL r_7 rl_109 c_29) (r_7) (by decide)
      · refine lv_aload_n hx hb dX12_act_46 rfl (lv_at hl 1 rfl) ?_
        refine lv_aload_n hx hb dX12_act_47 rfl (lv_at hl 1 rfl) ?_
        obtain ⟨_, ⟨rfl, t_31, hk_32⟩, o_c_30⟩ := hH h0 _ k_h0
        refine hg_get hx hb hG igX12 hown hK o_c_30 rfl 0 (by decide) (hG _ mw_1284) rfl dX12_act_48 ?_
        refine lv_aload_n hx hb dX12_act_51 rfl (lv_at hl 1 rfl) ?_
        refine hg_get hx hb hG igX12 hown hK o_c_30 rfl 18 (by decide) (hG _ mw_1302) rfl dX12_act_52 ?_
        rw [ex_23]
        refine lv_aload_n hx hb dX12_act_55 rfl (lv_at hl 1 rfl) ?_
        refine hg_get hx hb hG igX12 hown hK o_c_30 rfl 19 (by decide) (hG _ mw_1303) rfl dX12_act_56 ?_
        rw [ex_24]
        refine va_calli (va_runV (As := [.ref (g.2.2 100), .int x_23, .int x_24]) (rest := []) ⟨hx, hb, hml, hown, hts⟩ (c_X12_refusesComing l g Ty G_12 H.size h0 (g.2.2 100) x_23 x_24 k_h0 (hk_32.1) ρ (by rw [w_17]; exact hT) (g.2.2 111) hmk.2.2.2.2.2.2.2.2.2.2.2.2.2.2.2.2.2.2.2.2.1 u_22 (by rw [u_16]; exact hr3)) (cwV 3 hts (gwV mw_1546 mw_1548 mw_50 mw_88 mw_1549) rfl rfl rfl hv_X12_refusesComing ⟨Nat.le_of_ble_eq_true rfl, Nat.le_of_ble_eq_true rfl⟩) ⟨PcT_blind, hg_recv hK o_c_30 rfl, PcT_pre hK hH⟩ rfl rfl hl.1 rfl (lv_room (Nat.le_of_ble_eq_true rfl)) dX12_act_59 ⟨Nat.zero_le _, Nat.zero_le _⟩) hS (fun q _ h => AF.mono hS.1 h) (fun q h => AF.mono hS.1 h) (fun x_33 ux_33 t H locs ht hvm hx_33 hB hz hk hS => ?_)
        obtain ⟨hx_33, fx_33⟩ := hx_33
        obtain ⟨eTx_33, eGx_33⟩ := fx_33
        obtain ⟨G_34, eG_34⟩ : ∃ z, z = ux_33.2 := ⟨_, rfl⟩
        rw [← eG_34] at eGx_33
        have fr_35 : FR [107, 108, 109, 110, 114, 127, 128, 118, 119, 120] [(g.2.2 100), (g.2.2 115), (g.2.2 125), (g.2.2 126), (g.2.2 129)] [106] G G_34 := FR.tr fr_15 eGx_33 (by decide) (fun b h => ⟨h.2.1, trivial⟩) (by decide)
        have u_36 : G_34.1 113 = (G.1 113) := (eGx_33.1 113 (by decide)).trans u_16
        have u_37 : G_34.1 118 = x_23 := (eGx_33.1 118 (by decide)).trans ex_23
        have u_38 : G_34.1 119 = x_24 := (eGx_33.1 119 (by decide)).trans ex_24
        have u_39 : G_34.1 120 = x_25 := (eGx_33.1 120 (by decide)).trans ex_25
        have w_40 : G_34.2.1 (g.2.2 100) = (G.2.1 (g.2.2 100)) := (eGx_33.2.1 (g.2.2 100) ⟨(ne_kd hmk.1 hmk.2.2.2.1 (by decide)), trivial⟩).trans w_17
        have w_41 : G_34.2.1 (g.2.2 116) = (G.2.1 (g.2.2 116)) := (eGx_33.2.1 (g.2.2 116) ⟨(ne_kd hmk.2.2.2.2.1 hmk.2.2.2.1 (by decide)), trivial⟩).trans w_18
        have w_42 : G_34.2.1 (g.2.2 130) = (G.2.1 (g.2.2 130)) := (eGx_33.2.1 (g.2.2 130) ⟨(ne_kd hmk.2.2.2.2.2.2.2.2.2.2.2.1 hmk.2.2.2.1 (by decide)), trivial⟩).trans w_19
        have w_43 : G_34.2.1 (g.2.2 111) = (G.2.1 (g.2.2 111)) := (eGx_33.2.1 (g.2.2 111) ⟨(ne_kd hmk.2.2.2.2.2.2.2.2.2.2.2.2.2.2.2.2.2.2.2.2.1 hmk.2.2.2.1 (by decide)), trivial⟩).trans w_20
        have w_44 : G_34.2.1 (g.2.2 129) = (G.2.1 (g.2.2 129)) := (eGx_33.2.1 (g.2.2 129) ⟨(ne_kd hmk.2.2.2.2.2.2.2.2.2.2.1 hmk.2.2.2.1 (by decide)), trivial⟩).trans w_21
        have u_45 : G_34.2.2 111 = some (g.2.2 111) := (eGx_33.2.2 111 (by decide)).trans u_22
        have hH : HT g Ty G_34 H := by rw [← ht, ← eTx_33, eG_34]; exact hB
        have rx_33 : rgI (-9) (0) x_33 := hx_33.1
        have tx_46 := hx_33.2
        try rw [w_17] at tx_46
        try rw [w_20] at tx_46
        try rw [u_16] at tx_46
        refine lv_goto (tgt := 80) hx hb dX12_act_62 (by decide) ?_
        refine lv_istore_n (lv' := [(3, .int x_33), (2, .int x_5), (0, .ref h0), (1, .int a0)]) hx hb dX12_act_80 rfl hl (by decide) rfl (fun ls hl => ?_)
        refine lv_iload_n hx hb dX12_act_81 rfl (lv_at hl 0 rfl) ?_
        refine lv_if_ge (tgt := 87) hx hb dX12_act_82 (by decide) (fun c_47 => ?_) (fun c_47 => ?_)
        · have r_48 : rgI (0) (0) x_33 := rg_w (rg_leR rl_0 rx_33 c_47) (by decide) (by decide)
          have c0_49 := tx_46 (rg_00 r_48 c_47)
          obtain ⟨⟨σ_50, hts_51⟩, h1_52, hb_53⟩ := id hTI
          refine lv_iload_n hx hb dX12_act_87 rfl (lv_at hl 1 rfl) ?_
          refine lv_bipush (v := 109) hx hb dX12_act_88 (by decide) ?_
          refine lv_icmp_ne (tgt := 115) hx hb dX12_act_90 (by decide) (fun c_54 => ?_) (fun c_54 => ?_)
          · exact rg_clash (rg_neL r_7 rl_109 c_54) (r_7) (by decide)
          · refine lv_aload_n hx hb dX12_act_93 rfl (lv_at hl 2 rfl) ?_
            refine lv_aload_n hx hb dX12_act_94 rfl (lv_at hl 2 rfl) ?_
            obtain ⟨_, ⟨rfl, t_56, hk_57⟩, o_c_55⟩ := hH h0 _ k_h0
            refine hg_get hx hb hG igX12 hown hK o_c_55 rfl 0 (by decide) (hG _ mw_1284) rfl dX12_act_95 ?_
            refine lv_bipush (v := 24) hx hb dX12_act_98 (by decide) ?_
            refine lv_aload_n hx hb dX12_act_100 rfl (lv_at hl 2 rfl) ?_
            refine hg_get hx hb hG igX12 hown hK o_c_55 rfl 18 (by decide) (hG _ mw_1302) rfl dX12_act_101 ?_
            rw [u_37]
            refine lv_aload_n hx hb dX12_act_104 rfl (lv_at hl 2 rfl) ?_
            refine hg_get hx hb hG igX12 hown hK o_c_55 rfl 19 (by decide) (hG _ mw_1303) rfl dX12_act_105 ?_
            rw [u_38]
            refine va_calli (va_runV (As := [.ref (g.2.2 100), .int 24, .int x_23, .int x_24]) (rest := []) ⟨hx, hb, hml, hown, hts⟩ (c_X12_goClone l g Ty G_34 H.size h0 (g.2.2 100) 24 x_23 x_24 k_h0 (hk_57.1) (rg_w rl_24 (by decide) (by decide)) (rg_w tp_26.1 (by decide) (by decide)) (rg_w c0_49.2.1 (by decide) (by decide)) (g.2.2 111) hmk.2.2.2.2.2.2.2.2.2.2.2.2.2.2.2.2.2.2.2.2.1 u_45 (by rw [u_36]; exact hr3) hLD σ_50 (by rw [w_40]; exact hts_51) (by rw [w_40]; exact h1_52) Bd (by rw [w_40]; exact hb_53) (by rw [w_40]; exact (Int.le_trans hb_53 (Int.le_trans hBd (by decide)))) (Or.inl rfl) (by rw [w_40, w_43, u_36]; exact c0_49)) (cwV 4 hts (gwV mw_1584 mw_1586 mw_54 mw_88 mw_1587) rfl rfl rfl hv_X12_goClone ⟨Nat.le_of_ble_eq_true rfl, Nat.le_of_ble_eq_true rfl⟩) ⟨PcT_blind, hg_recv hK o_c_55 rfl, PcT_pre hK hH⟩ rfl rfl hl.1 rfl (lv_room (Nat.le_of_ble_eq_true rfl)) dX12_act_108 ⟨Nat.zero_le _, Nat.zero_le _⟩) hS (fun q _ h => AF.mono hS.1 h) (fun q h => AF.mono hS.1 h) (fun x_58 ux_58 t H locs ht hvm hx_58 hB hz hk hS => ?_)
            obtain ⟨eTx_58, eGx_58⟩ := hx_58
            obtain ⟨G_59, eG_59⟩ : ∃ z, z = ux_58.2 := ⟨_, rfl⟩
            rw [← eG_59] at eGx_58
            obtain ⟨hfr_60, hex_61⟩ := eGx_58
            have fr_62 : FR [107, 108, 109, 110, 114, 127, 128, 118, 119, 120] [(g.2.2 100), (g.2.2 115), (g.2.2 125), (g.2.2 126), (g.2.2 129)] [106] G G_59 := FR.tr fr_35 hfr_60 (by decide) (fun b h => ⟨h.1, h.2.1, h.2.2.1, h.2.2.2.1, trivial⟩) (by decide)
            have u_63 : G_59.1 113 = (G.1 113) := (hfr_60.1 113 (by decide)).trans u_36
            have u_64 : G_59.1 118 = x_23 := (hfr_60.1 118 (by decide)).trans u_37
            have u_65 : G_59.1 119 = x_24 := (hfr_60.1 119 (by decide)).trans u_38
            have u_66 : G_59.1 120 = x_25 := (hfr_60.1 120 (by decide)).trans u_39
            have w_67 : G_59.2.1 (g.2.2 116) = (G.2.1 (g.2.2 116)) := (hfr_60.2.1 (g.2.2 116) ⟨(ne_kd hmk.2.2.2.2.1 hmk.1 (by decide)), (ne_kd hmk.2.2.2.2.1 hmk.2.2.2.1 (by decide)), (ne_kd hmk.2.2.2.2.1 hmk.2.2.2.2.2.2.2.2.1 (by decide)), (ne_kd hmk.2.2.2.2.1 hmk.2.2.2.2.2.2.2.2.2.1 (by decide)), trivial⟩).trans w_41
            have w_68 : G_59.2.1 (g.2.2 130) = (G.2.1 (g.2.2 130)) := (hfr_60.2.1 (g.2.2 130) ⟨(ne_kd hmk.2.2.2.2.2.2.2.2.2.2.2.1 hmk.1 (by decide)), (ne_kd hmk.2.2.2.2.2.2.2.2.2.2.2.1 hmk.2.2.2.1 (by decide)), (ne_kd hmk.2.2.2.2.2.2.2.2.2.2.2.1 hmk.2.2.2.2.2.2.2.2.1 (by decide)), (ne_kd hmk.2.2.2.2.2.2.2.2.2.2.2.1 hmk.2.2.2.2.2.2.2.2.2.1 (by decide)), trivial⟩).trans w_42
            have w_69 : G_59.2.1 (g.2.2 111) = (G.2.1 (g.2.2 111)) := (hfr_60.2.1 (g.2.2 111) ⟨(ne_kd hmk.2.2.2.2.2.2.2.2.2.2.2.2.2.2.2.2.2.2.2.2.1 hmk.1 (by decide)), (ne_kd hmk.2.2.2.2.2.2.2.2.2.2.2.2.2.2.2.2.2.2.2.2.1 hmk.2.2.2.1 (by decide)), (ne_kd hmk.2.2.2.2.2.2.2.2.2.2.2.2.2.2.2.2.2.2.2.2.1 hmk.2.2.2.2.2.2.2.2.1 (by decide)), (ne_kd hmk.2.2.2.2.2.2.2.2.2.2.2.2.2.2.2.2.2.2.2.2.1 hmk.2.2.2.2.2.2.2.2.2.1 (by decide)), trivial⟩).trans w_43
            have w_70 : G_59.2.1 (g.2.2 129) = (G.2.1 (g.2.2 129)) := (hfr_60.2.1 (g.2.2 129) ⟨(hLD 129 (by decide) 100 (by decide) (by decide)), (ne_kd hmk.2.2.2.2.2.2.2.2.2.2.1 hmk.2.2.2.1 (by decide)), (ne_kd hmk.2.2.2.2.2.2.2.2.2.2.1 hmk.2.2.2.2.2.2.2.2.1 (by decide)), (ne_kd hmk.2.2.2.2.2.2.2.2.2.2.1 hmk.2.2.2.2.2.2.2.2.2.1 (by decide)), trivial⟩).trans w_44
            have u_71 : G_59.2.2 111 = some (g.2.2 111) := (hfr_60.2.2 111 (by decide)).trans u_45
            obtain ⟨f_72, ef_72⟩ : ∃ z : Nat → Int32, G_59.2.1 (g.2.2 100) = z := ⟨_, rfl⟩
            have gc_73 := hex_61
            rw [ef_72, w_40, w_43, u_36] at gc_73
            have hH : HT g Ty G_59 H := by rw [← ht, ← eTx_58, eG_59]; exact hB
            refine lv_pop hx hb dX12_act_111 rfl ?_
            refine lv_goto (tgt := 132) hx hb dX12_act_112 (by decide) ?_
            refine lv_iconst (v := 1) hx hb dX12_act_132 (by decide) ?_
            exact W.zret hx hb hr rfl (fun t ht hWm => ⟨⟨1, (Ty, G_59), rfl, ⟨rg_w rl_1 (by decide) (by decide), ⟨rfl, ⟨fr_62, (by rw [ef_72]; exact (TI.hi gc_73.1 (by omega)))⟩⟩⟩, by show HT g Ty G_59 t.heap; rw [ht]; exact hH⟩, hS.F ht⟩) hS.2.2 dX12_act_133
        · have r_74 : rgI (-9) (-1) x_33 := rg_w (rg_ltL rx_33 rl_0 (nle_lt c_47)) (by decide) (by decide)
          refine lv_iconst (v := 0) hx hb dX12_act_85 (by decide) ?_
          exact W.zret hx hb hr rfl (fun t ht hWm => ⟨⟨0, (Ty, G_34), rfl, ⟨rg_w rl_0 (by decide) (by decide), ⟨rfl, ⟨fr_35, (by rw [w_40]; exact (hTI.hi (by omega)))⟩⟩⟩, by show HT g Ty G_34 t.heap; rw [ht]; exact hH⟩, hS.F ht⟩) hS.2.2 dX12_act_86
    · have r_75 : rgI (0) (0) x_11 := rg_w (rg_eq rl_0 c_27) (by decide) (by decide)
      refine lv_iconst (v := 0) hx hb dX12_act_38 (by decide) ?_
      exact W.zret hx hb hr rfl (fun t ht hWm => ⟨⟨0, (Ty, G_12), rfl, ⟨rg_w rl_0 (by decide) (by decide), ⟨rfl, ⟨fr_15, (by rw [w_17]; exact (hTI.hi (by omega)))⟩⟩⟩, by show HT g Ty G_12 t.heap; rw [ht]; exact hH⟩, hS.F ht⟩) hS.2.2 dX12_act_39
  · refine lv_iload_n hx hb dX12_act_13 rfl (lv_at hl 0 rfl) ?_
    refine lv_bipush (v := 117) hx hb dX12_act_14 (by decide) ?_
    refine lv_icmp_ne (tgt := 134) hx hb dX12_act_16 (by decide) (fun c_76 => ?_) (fun c_76 => ?_)
    · refine lv_aload_n hx hb dX12_act_134 rfl (lv_at hl 1 rfl) ?_
      refine lv_aload_n hx hb dX12_act_135 rfl (lv_at hl 1 rfl) ?_
      refine hg_get hx hb hG igX12 hown hK o_c_1 rfl 30 (by decide) (hG _ mw_1314) rfl dX12_act_136 ?_
      refine lv_iload_n hx hb dX12_act_139 rfl (lv_at hl 2 rfl) ?_
      refine lv_iconst (v := 1) hx hb dX12_act_140 (by decide) ?_
      refine lv_iadd hx hb dX12_act_141 ?_
      refine lv_topi (fun x_77 ex_77 => ?_)
      have rx_77 : rgI (1) (317) x_77 := by rw [ex_77]; exact rg_w (rg_add pr0 rl_1 (by decide) (by decide)) (by decide) (by decide)
      have qx_77 : x_77.toInt = (a0 : Int32).toInt + 1 := by rw [ex_77]; exact rg_addE pr0 rl_1 (by decide) (by decide)
      refine hg_iald hx hb hK o_c_4 (rg_in (n := 320) rx_77 (by decide) (by decide)) dX12_act_142 ?_
      refine lv_topi (fun x_78 ex_78 => ?_)
      have ak_79 : x_78 = (G.2.1 (g.2.2 130)) (a0.toNatClampNeg + 1) := by rw [ex_78, ai_d (n := 1) ex_77 pr0 rfl (by decide)]
      refine va_calli (va_runV (As := [.int x_78]) (rest := []) ⟨hx, hb, hml, hown, hts⟩ (c_X12_mountedAt l g Ty G s.heap.size h0 x_78 k_h0 ρ hT lmx (ps_eq hok.1 ak_79)) (cwV 1 hts (gwV mw_1692 mw_1694 mw_66 mw_88 mw_1695) rfl rfl rfl hv_X12_mountedAt ⟨Nat.le_of_ble_eq_true rfl, Nat.le_of_ble_eq_true rfl⟩) ⟨PcT_blind, hg_recv hK o_c_1 rfl, PcT_pre hK hH⟩ rfl rfl hl.1 rfl (lv_room (Nat.le_of_ble_eq_true rfl)) dX12_act_143 ⟨Nat.zero_le _, Nat.zero_le _⟩) hS (fun q _ h => AF.mono hS.1 h) (fun q h => AF.mono hS.1 h) (fun x_80 ux_80 t H locs ht hvm hx_80 hB hz hk hS => ?_)
      obtain ⟨hx_80, fx_80⟩ := hx_80
      obtain ⟨eTx_80, eGx_80⟩ := fx_80
      obtain ⟨G_81, eG_81⟩ : ∃ z, z = ux_80.2 := ⟨_, rfl⟩
      rw [← eG_81] at eGx_80
      obtain ⟨hfr_82, hex_83⟩ := eGx_80
      have fr_84 : FR [107, 108, 109, 110, 114, 127, 128, 118, 119, 120] [(g.2.2 100), (g.2.2 115), (g.2.2 125), (g.2.2 126), (g.2.2 129)] [106] G G_81 := FR.tr FR.rf hfr_82 (by decide) (fun _ _ => trivial) (by decide)
      have u_85 : G_81.1 113 = (G.1 113) := (hfr_82.1 113 (by decide))
      have w_86 : G_81.2.1 (g.2.2 100) = (G.2.1 (g.2.2 100)) := (hfr_82.2.1 (g.2.2 100) trivial)
      have w_87 : G_81.2.1 (g.2.2 116) = (G.2.1 (g.2.2 116)) := (hfr_82.2.1 (g.2.2 116) trivial)
      have w_88 : G_81.2.1 (g.2.2 130) = (G.2.1 (g.2.2 130)) := (hfr_82.2.1 (g.2.2 130) trivial)
      have w_89 : G_81.2.1 (g.2.2 111) = (G.2.1 (g.2.2 111)) := (hfr_82.2.1 (g.2.2 111) trivial)
      have w_90 : G_81.2.1 (g.2.2 129) = (G.2.1 (g.2.2 129)) := (hfr_82.2.1 (g.2.2 129) trivial)
      have u_91 : G_81.2.2 111 = some (g.2.2 111) := (hfr_82.2.2 111 (by decide)).trans hr1
      obtain ⟨x_92, ex_92⟩ : ∃ z : Int32, G_81.1 118 = z := ⟨_, rfl⟩
      obtain ⟨x_93, ex_93⟩ : ∃ z : Int32, G_81.1 119 = z := ⟨_, rfl⟩
      obtain ⟨x_94, ex_94⟩ : ∃ z : Int32, G_81.1 120 = z := ⟨_, rfl⟩
      have hH : HT g Ty G_81 H := by rw [← ht, ← eTx_80, eG_81]; exact hB
      have rx_80 : rgI (1) (24) x_80 := hx_80.1
      refine lv_istore_n (lv' := [(3, .int x_80), (2, .int x_5), (0, .ref h0), (1, .int a0)]) hx hb dX12_act_146 rfl hl (by decide) rfl (fun ls hl => ?_)
      refine lv_iload_n hx hb dX12_act_147 rfl (lv_at hl 0 rfl) ?_
      refine lv_bipush (v := 24) hx hb dX12_act_148 (by decide) ?_
      refine lv_icmp_ne (tgt := 155) hx hb dX12_act_150 (by decide) (fun c_95 => ?_) (fun c_95 => ?_)
      · have r_96 : rgI (1) (23) x_80 := rg_w (rg_neR rx_80 rl_24 c_95) (by decide) (by decide)
        have th_97 : thr (G.2.1 (g.2.2 100)) x_80 := hx_80.2.resolve_left c_95
        refine lv_iload_n hx hb dX12_act_155 rfl (lv_at hl 1 rfl) ?_
        refine lv_bipush (v := 107) hx hb dX12_act_156 (by decide) ?_
        refine lv_icmp_ne (tgt := 200) hx hb dX12_act_158 (by decide) (fun c_98 => ?_) (fun c_98 => ?_)
        · refine lv_aload_n hx hb dX12_act_200 rfl (lv_at hl 2 rfl) ?_
          refine lv_aload_n hx hb dX12_act_201 rfl (lv_at hl 2 rfl) ?_
          obtain ⟨_, ⟨rfl, t_100, hk_101⟩, o_c_99⟩ := hH h0 _ k_h0
          refine hg_get hx hb hG igX12 hown hK o_c_99 rfl 0 (by decide) (hG _ mw_1284) rfl dX12_act_202 ?_
          refine lv_aload_n hx hb dX12_act_205 rfl (lv_at hl 2 rfl) ?_
          refine hg_get hx hb hG igX12 hown hK o_c_99 rfl 30 (by decide) (hG _ mw_1314) rfl dX12_act_206 ?_
          refine lv_iload_n hx hb dX12_act_209 rfl (lv_at hl 3 rfl) ?_
          refine lv_iconst (v := 2) hx hb dX12_act_210 (by decide) ?_
          refine lv_iadd hx hb dX12_act_211 ?_
          refine lv_topi (fun x_102 ex_102 => ?_)
          have rx_102 : rgI (2) (318) x_102 := by rw [ex_102]; exact rg_w (rg_add pr0 rl_2 (by decide) (by decide)) (by decide) (by decide)
          have qx_102 : x_102.toInt = (a0 : Int32).toInt + 2 := by rw [ex_102]; exact rg_addE pr0 rl_2 (by decide) (by decide)
          obtain ⟨_, rfl, o_c_103⟩ := hH (g.2.2 130) _ hk_101.2.2.2.2.2.2.2.2.2.2.2.1
          have o_c_103 : va_at g.1 vwCl ((g.2.2 130), .inl (g.2.1 1, 320, .inl (G_81.2.1 (g.2.2 130)))) H := o_c_103
          refine hg_iald hx hb hK o_c_103 (rg_in (n := 320) rx_102 (by decide) (by decide)) dX12_act_212 ?_
          rw [w_88]
          refine lv_topi (fun x_104 ex_104 => ?_)
          have ak_105 : x_104 = (G.2.1 (g.2.2 130)) (a0.toNatClampNeg + 2) := by rw [ex_104, ai_d (n := 2) ex_102 pr0 rfl (by decide)]
          refine va_calli (va_runV (As := [.ref (g.2.2 100), .int x_104]) (rest := []) ⟨hx, hb, hml, hown, hts⟩ (c_X12_goPath l g Ty G_81 H.size h0 (g.2.2 100) x_104 k_h0 (hk_101.1) ρ (by rw [w_86]; exact hT) lmx (by rw [w_87]; exact (ps_eq (((hok.2.resolve_left (by rw [← ex_5]; exact c_6)).resolve_left (by rw [← ex_5]; exact c_76)).resolve_left (by rw [← ex_5]; exact c_98)) ak_105))) (cwV 2 hts (gwV mw_1503 mw_1505 mw_47 mw_88 mw_1506) rfl rfl rfl hv_X12_goPath ⟨Nat.le_of_ble_eq_true rfl, Nat.le_of_ble_eq_true rfl⟩) ⟨PcT_blind, hg_recv hK o_c_99 rfl, PcT_pre hK hH⟩ rfl rfl hl.1 rfl (lv_room (Nat.le_of_ble_eq_true rfl)) dX12_act_213 ⟨Nat.zero_le _, Nat.zero_le _⟩) hS (fun q _ h => AF.mono hS.1 h) (fun q h => AF.mono hS.1 h) (fun x_106 ux_106 t H locs ht hvm hx_106 hB hz hk hS => ?_)
          obtain ⟨hx_106, fx_106⟩ := hx_106
          obtain ⟨eTx_106, eGx_106⟩ := fx_106
          obtain ⟨G_107, eG_107⟩ : ∃ z, z = ux_106.2 := ⟨_, rfl⟩
          rw [← eG_107] at eGx_106
          obtain ⟨hfr_108, hex_109⟩ := eGx_106
          have fr_110 : FR [107, 108, 109, 110, 114, 127, 128, 118, 119, 120] [(g.2.2 100), (g.2.2 115), (g.2.2 125), (g.2.2 126), (g.2.2 129)] [106] G G_107 := FR.tr fr_84 hfr_108 (by decide) (fun _ _ => trivial) (by decide)
          have u_111 : G_107.1 113 = (G.1 113) := (hfr_108.1 113 (by decide)).trans u_85
          have w_112 : G_107.2.1 (g.2.2 100) = (G.2.1 (g.2.2 100)) := (hfr_108.2.1 (g.2.2 100) trivial).trans w_86
          have w_113 : G_107.2.1 (g.2.2 116) = (G.2.1 (g.2.2 116)) := (hfr_108.2.1 (g.2.2 116) trivial).trans w_87
          have w_114 : G_107.2.1 (g.2.2 130) = (G.2.1 (g.2.2 130)) := (hfr_108.2.1 (g.2.2 130) trivial).trans w_88
          have w_115 : G_107.2.1 (g.2.2 111) = (G.2.1 (g.2.2 111)) := (hfr_108.2.1 (g.2.2 111) trivial).trans w_89
          have w_116 : G_107.2.1 (g.2.2 129) = (G.2.1 (g.2.2 129)) := (hfr_108.2.1 (g.2.2 129) trivial).trans w_90
          have u_117 : G_107.2.2 111 = some (g.2.2 111) := (hfr_108.2.2 111 (by decide)).trans u_91
          obtain ⟨x_118, ex_118⟩ : ∃ z : Int32, G_107.1 118 = z := ⟨_, rfl⟩
          obtain ⟨x_119, ex_119⟩ : ∃ z : Int32, G_107.1 119 = z := ⟨_, rfl⟩
          obtain ⟨x_120, ex_120⟩ : ∃ z : Int32, G_107.1 120 = z := ⟨_, rfl⟩
          have tp_121 := hex_109
          rw [ex_118, w_86] at tp_121
          have hH : HT g Ty G_107 H := by rw [← ht, ← eTx_106, eG_107]; exact hB
          have rx_106 : rgI (0) (1) x_106 := hx_106
          refine lv_if_ne (tgt := 221) hx hb dX12_act_216 (by decide) (fun c_122 => ?_) (fun c_122 => ?_)
          · have r_123 : rgI (1) (1) x_106 := rg_w (rg_neL rx_106 rl_0 c_122) (by decide) (by decide)
            refine lv_iload_n hx hb dX12_act_221 rfl (lv_at hl 1 rfl) ?_
            refine lv_bipush (v := 98) hx hb dX12_act_222 (by decide) ?_
            refine lv_icmp_ne (tgt := 247) hx hb dX12_act_224 (by decide) (fun c_124 => ?_) (fun c_124 => ?_)
            · refine lv_iload_n hx hb dX12_act_247 rfl (lv_at hl 1 rfl) ?_
              refine lv_bipush (v := 114) hx hb dX12_act_248 (by decide) ?_
              refine lv_icmp_ne (tgt := 273) hx hb dX12_act_250 (by decide) (fun c_125 => ?_) (fun c_125 => ?_)
              · refine lv_aload_n hx hb dX12_act_273 rfl (lv_at hl 2 rfl) ?_
                obtain ⟨_, ⟨rfl, t_127, hk_128⟩, o_c_126⟩ := hH h0 _ k_h0
                refine hg_get hx hb hG igX12 hown hK o_c_126 rfl 0 (by decide) (hG _ mw_1284) rfl dX12_act_274 ?_
                refine lv_iload_n hx hb dX12_act_277 rfl (lv_at hl 0 rfl) ?_
                refine lv_aload_n hx hb dX12_act_278 rfl (lv_at hl 2 rfl) ?_
                refine hg_get hx hb hG igX12 hown hK o_c_126 rfl 18 (by decide) (hG _ mw_1302) rfl dX12_act_279 ?_
                rw [ex_118]
                refine lv_aload_n hx hb dX12_act_282 rfl (lv_at hl 2 rfl) ?_
                refine hg_get hx hb hG igX12 hown hK o_c_126 rfl 19 (by decide) (hG _ mw_1303) rfl dX12_act_283 ?_
                rw [ex_119]
                refine vp_callSi (W.runS (As := [.ref (g.2.2 100), .int x_80, .int x_118, .int x_119]) (rest := []) ⟨hx, hb, hml, hown, hts⟩ (c_X12_refusesMove l g Ty G_107 (g.2.2 100) x_80 x_118 x_119 (hk_128.1) ρ (by rw [w_112]; exact hT)) (cwSx 4 hts hG (gwC mw_1673) mw_88 mw_1671 mw_1672 rfl rfl rfl hd_X12_refusesMove ⟨Nat.le_of_ble_eq_true rfl, Nat.le_of_ble_eq_true rfl⟩) ⟨PcH_blind, PcH_pre hK hH⟩ rfl rfl hl.1 rfl (lv_room (Nat.le_of_ble_eq_true rfl)) dX12_act_286 ⟨Nat.zero_le _, Nat.zero_le _⟩) (fun x_129 hx_129 => ?_)
                have rx_129 : rgI (-6) (0) x_129 := hx_129.1
                have tx_130 := hx_129.2
                try rw [w_112] at tx_130
                try rw [w_115] at tx_130
                try rw [u_111] at tx_130
                refine lv_istore (lv' := [(4, .int x_129), (3, .int x_80), (2, .int x_5), (0, .ref h0), (1, .int a0)]) hx hb dX12_act_289 hl (by decide) rfl (fun ls hl => ?_)
                refine lv_iload hx hb dX12_act_291 (lv_at hl 0 rfl) ?_
                refine lv_if_ge (tgt := 298) hx hb dX12_act_293 (by decide) (fun c_131 => ?_) (fun c_131 => ?_)
                · have r_132 : rgI (0) (0) x_129 := rg_w (rg_leR rl_0 rx_129 c_131) (by decide) (by decide)
                  have c0_133 := tx_130 (rg_00 r_132 c_131)
                  refine lv_iload_n hx hb dX12_act_298 rfl (lv_at hl 2 rfl) ?_
                  refine lv_bipush (v := 98) hx hb dX12_act_299 (by decide) ?_
                  refine lv_icmp_ne (tgt := 325) hx hb dX12_act_301 (by decide) (fun c_134 => ?_) (fun c_134 => ?_)
                  · refine lv_iload_n hx hb dX12_act_325 rfl (lv_at hl 2 rfl) ?_
                    refine lv_bipush (v := 114) hx hb dX12_act_326 (by decide) ?_
                    refine lv_icmp_ne (tgt := 352) hx hb dX12_act_328 (by decide) (fun c_135 => ?_) (fun c_135 => ?_)
                    · refine lv_aload_n hx hb dX12_act_352 rfl (lv_at hl 3 rfl) ?_
                      refine hg_get hx hb hG igX12 hown hK o_c_126 rfl 0 (by decide) (hG _ mw_1284) rfl dX12_act_353 ?_
                      refine lv_iload_n hx hb dX12_act_356 rfl (lv_at hl 1 rfl) ?_
                      refine lv_aload_n hx hb dX12_act_357 rfl (lv_at hl 3 rfl) ?_
                      refine hg_get hx hb hG igX12 hown hK o_c_126 rfl 18 (by decide) (hG _ mw_1302) rfl dX12_act_358 ?_
                      rw [ex_118]
                      refine lv_aload_n hx hb dX12_act_361 rfl (lv_at hl 3 rfl) ?_
                      refine hg_get hx hb hG igX12 hown hK o_c_126 rfl 19 (by decide) (hG _ mw_1303) rfl dX12_act_362 ?_
                      rw [ex_119]
                      refine va_callv (va_runS (As := [.ref (g.2.2 100), .int x_80, .int x_118, .int x_119]) (rest := []) ⟨hx, hb, hml, hown, hts⟩ (c_X12_goMove l g Ty G_107 H.size (g.2.2 100) x_80 x_118 x_119 (hk_128.1) (rg_w r_96 (by decide) (by decide))) (cwSx 4 hts hG (gwC mw_1679) mw_88 mw_1677 mw_1678 rfl rfl rfl hd_X12_goMove ⟨Nat.le_of_ble_eq_true rfl, Nat.le_of_ble_eq_true rfl⟩) ⟨PcT_blind, PcT_pre hK hH⟩ rfl rfl hl.1 rfl (lv_room (Nat.le_of_ble_eq_true rfl)) dX12_act_365 ⟨Nat.zero_le _, Nat.zero_le _⟩) hS (fun q _ h => AF.mono hS.1 h) (fun q h => AF.mono hS.1 h) (fun ux_136 t H locs ht hvm hx_136 hB hz hk hS => ?_)
                      obtain ⟨eTx_136, eGx_136⟩ := hx_136
                      obtain ⟨G_137, eG_137⟩ : ∃ z, z = ux_136.2 := ⟨_, rfl⟩
                      rw [← eG_137] at eGx_136
                      have hg_139 := eGx_136
                      rw [w_112] at hg_139
                      obtain ⟨f_138, ef_138⟩ : ∃ z : Nat → Int32, z = F_X12_goMove (G.2.1 (g.2.2 100)) x_80 x_118 x_119 := ⟨_, rfl⟩
                      rw [← ef_138] at hg_139
                      have fr_140 : FR [107, 108, 109, 110, 114, 127, 128, 118, 119, 120] [(g.2.2 100), (g.2.2 115), (g.2.2 125), (g.2.2 126), (g.2.2 129)] [106] G G_137 := FR.a fr_110 hg_139 (fun b h => h.1)
                      have u_141 : G_137.1 113 = (G.1 113) := by rw [hg_139]; exact u_111
                      have u_142 : G_137.1 118 = x_118 := by rw [hg_139]; exact ex_118
                      have u_143 : G_137.1 119 = x_119 := by rw [hg_139]; exact ex_119
                      have u_144 : G_137.1 120 = x_120 := by rw [hg_139]; exact ex_120
                      have w_145 : G_137.2.1 (g.2.2 100) = f_138 := by rw [hg_139]; exact aset_eq
                      have w_146 : G_137.2.1 (g.2.2 116) = (G.2.1 (g.2.2 116)) := by rw [hg_139]; exact (aset_ne (ne_kd hmk.2.2.2.2.1 hmk.1 (by decide))).trans w_113
                      have w_147 : G_137.2.1 (g.2.2 130) = (G.2.1 (g.2.2 130)) := by rw [hg_139]; exact (aset_ne (ne_kd hmk.2.2.2.2.2.2.2.2.2.2.2.1 hmk.1 (by decide))).trans w_114
                      have w_148 : G_137.2.1 (g.2.2 111) = (G.2.1 (g.2.2 111)) := by rw [hg_139]; exact (aset_ne (ne_kd hmk.2.2.2.2.2.2.2.2.2.2.2.2.2.2.2.2.2.2.2.2.1 hmk.1 (by decide))).trans w_115
                      have w_149 : G_137.2.1 (g.2.2 129) = (G.2.1 (g.2.2 129)) := by rw [hg_139]; exact (aset_ne (hLD 129 (by decide) 100 (by decide) (by decide))).trans w_116
                      have u_150 : G_137.2.2 111 = some (g.2.2 111) := by rw [hg_139]; exact u_117
                      have hH : HT g Ty G_137 H := by rw [← ht, ← eTx_136, eG_137]; exact hB
                      have tm_151 : TI (Bd + 25) f_138 := by rw [ef_138]; exact (TI_move hTI c0_133.1 c0_133.2.1 c0_133.2.2.2.1 c0_133.2.2.2.2.1 c0_133.2.2.2.2.2).1
                      refine lv_iconst (v := 1) hx hb dX12_act_368 (by decide) ?_
                      exact W.zret hx hb hr rfl (fun t ht hWm => ⟨⟨1, (Ty, G_137), rfl, ⟨rg_w rl_1 (by decide) (by decide), ⟨rfl, ⟨fr_140, (by rw [w_145]; exact (TI.hi tm_151 (by omega)))⟩⟩⟩, by show HT g Ty G_137 t.heap; rw [ht]; exact hH⟩, hS.F ht⟩) hS.2.2 dX12_act_369
                    · have r_152 : rgI (114) (114) x_5 := rg_w (rg_eq rl_114 c_135) (by decide) (by decide)
                      exact absurd c_135 c_125
                  · have r_153 : rgI (98) (98) x_5 := rg_w (rg_eq rl_98 c_134) (by decide) (by decide)
                    exact absurd c_134 c_124
                · have r_154 : rgI (-6) (-1) x_129 := rg_w (rg_ltL rx_129 rl_0 (nle_lt c_131)) (by decide) (by decide)
                  refine lv_iconst (v := 0) hx hb dX12_act_296 (by decide) ?_
                  exact W.zret hx hb hr rfl (fun t ht hWm => ⟨⟨0, (Ty, G_107), rfl, ⟨rg_w rl_0 (by decide) (by decide), ⟨rfl, ⟨fr_110, (by rw [w_112]; exact (hTI.hi (by omega)))⟩⟩⟩, by show HT g Ty G_107 t.heap; rw [ht]; exact hH⟩, hS.F ht⟩) hS.2.2 dX12_act_297
              · have r_155 : rgI (114) (114) x_5 := rg_w (rg_eq rl_114 c_125) (by decide) (by decide)
                refine lv_aload_n hx hb dX12_act_253 rfl (lv_at hl 2 rfl) ?_
                refine lv_aload_n hx hb dX12_act_254 rfl (lv_at hl 2 rfl) ?_
                obtain ⟨_, ⟨rfl, t_157, hk_158⟩, o_c_156⟩ := hH h0 _ k_h0
                refine hg_get hx hb hG igX12 hown hK o_c_156 rfl 0 (by decide) (hG _ mw_1284) rfl dX12_act_255 ?_
                refine lv_iload_n hx hb dX12_act_258 rfl (lv_at hl 0 rfl) ?_
                refine lv_aload_n hx hb dX12_act_259 rfl (lv_at hl 2 rfl) ?_
                refine hg_get hx hb hG igX12 hown hK o_c_156 rfl 18 (by decide) (hG _ mw_1302) rfl dX12_act_260 ?_
                rw [ex_118]
                refine lv_aload_n hx hb dX12_act_263 rfl (lv_at hl 2 rfl) ?_
                refine hg_get hx hb hG igX12 hown hK o_c_156 rfl 19 (by decide) (hG _ mw_1303) rfl dX12_act_264 ?_
                rw [ex_119]
                refine vp_callSi (W.runV (As := [.ref (g.2.2 100), .int x_80, .int x_118, .int x_119]) (rest := []) ⟨hx, hb, hml, hown, hts⟩ (c_X12_refusesTree l g Ty G_107 h0 (g.2.2 100) x_80 x_118 x_119 k_h0 (hk_158.1) ρ (by rw [w_112]; exact hT)) (cwV 4 hts (gwV mw_1621 mw_1623 mw_59 mw_88 mw_1624) rfl rfl rfl hv_X12_refusesTree ⟨Nat.le_of_ble_eq_true rfl, Nat.le_of_ble_eq_true rfl⟩) ⟨PcH_blind, hg_recv hK o_c_156 rfl, PcH_pre hK hH⟩ rfl rfl hl.1 rfl (lv_room (Nat.le_of_ble_eq_true rfl)) dX12_act_267 ⟨Nat.zero_le _, Nat.zero_le _⟩) (fun x_159 hx_159 => ?_)
                have rx_159 : rgI (-9) (0) x_159 := hx_159.1
                have tx_160 := hx_159.2
                try rw [w_112] at tx_160
                try rw [w_115] at tx_160
                try rw [u_111] at tx_160
                refine lv_goto (tgt := 289) hx hb dX12_act_270 (by decide) ?_
                refine lv_istore (lv' := [(4, .int x_159), (3, .int x_80), (2, .int x_5), (0, .ref h0), (1, .int a0)]) hx hb dX12_act_289 hl (by decide) rfl (fun ls hl => ?_)
                refine lv_iload hx hb dX12_act_291 (lv_at hl 0 rfl) ?_
                refine lv_if_ge (tgt := 298) hx hb dX12_act_293 (by decide) (fun c_161 => ?_) (fun c_161 => ?_)
                · have r_162 : rgI (0) (0) x_159 := rg_w (rg_leR rl_0 rx_159 c_161) (by decide) (by decide)
                  have c0_163 := tx_160 (rg_00 r_162 c_161)
                  refine lv_iload_n hx hb dX12_act_298 rfl (lv_at hl 2 rfl) ?_
                  refine lv_bipush (v := 98) hx hb dX12_act_299 (by decide) ?_
                  refine lv_icmp_ne (tgt := 325) hx hb dX12_act_301 (by decide) (fun c_164 => ?_) (fun c_164 => ?_)
                  · refine lv_iload_n hx hb dX12_act_325 rfl (lv_at hl 2 rfl) ?_
                    refine lv_bipush (v := 114) hx hb dX12_act_326 (by decide) ?_
                    refine lv_icmp_ne (tgt := 352) hx hb dX12_act_328 (by decide) (fun c_165 => ?_) (fun c_165 => ?_)
                    · exact rg_clash (rg_neL r_155 rl_114 c_165) (r_155) (by decide)
                    · refine lv_aload_n hx hb dX12_act_331 rfl (lv_at hl 3 rfl) ?_
                      refine lv_aload_n hx hb dX12_act_332 rfl (lv_at hl 3 rfl) ?_
                      obtain ⟨_, ⟨rfl, t_167, hk_168⟩, o_c_166⟩ := hH h0 _ k_h0
                      refine hg_get hx hb hG igX12 hown hK o_c_166 rfl 0 (by decide) (hG _ mw_1284) rfl dX12_act_333 ?_
                      refine lv_iload_n hx hb dX12_act_336 rfl (lv_at hl 1 rfl) ?_
                      refine lv_aload_n hx hb dX12_act_337 rfl (lv_at hl 3 rfl) ?_
                      refine hg_get hx hb hG igX12 hown hK o_c_166 rfl 18 (by decide) (hG _ mw_1302) rfl dX12_act_338 ?_
                      rw [ex_118]
                      refine lv_aload_n hx hb dX12_act_341 rfl (lv_at hl 3 rfl) ?_
                      refine hg_get hx hb hG igX12 hown hK o_c_166 rfl 19 (by decide) (hG _ mw_1303) rfl dX12_act_342 ?_
                      rw [ex_119]
                      refine va_calli (va_runV (As := [.ref (g.2.2 100), .int x_80, .int x_118, .int x_119]) (rest := []) ⟨hx, hb, hml, hown, hts⟩ (c_X12_goTree l g Ty G_107 H.size h0 (g.2.2 100) x_80 x_118 x_119 k_h0 (hk_168.1) (rg_w r_96 (by decide) (by decide)) (rg_w tp_121.1 (by decide) (by decide)) (rg_w c0_163.2.2.1 (by decide) (by decide)) (hLD 100 (by decide) 129 (by decide) (by decide)) Bd (by rw [w_112]; exact hTI) (Int.le_trans hBd (by decide)) (g.2.2 111) hmk.2.2.2.2.2.2.2.2.2.2.2.2.2.2.2.2.2.2.2.2.1 u_117 (by rw [u_111]; exact hr3) hLD (by rw [w_112]; exact c0_163)) (cwV 4 hts (gwV mw_1628 mw_1630 mw_60 mw_88 mw_1631) rfl rfl rfl hv_X12_goTree ⟨Nat.le_of_ble_eq_true rfl, Nat.le_of_ble_eq_true rfl⟩) ⟨PcT_blind, hg_recv hK o_c_166 rfl, PcT_pre hK hH⟩ rfl rfl hl.1 rfl (lv_room (Nat.le_of_ble_eq_true rfl)) dX12_act_345 ⟨Nat.zero_le _, Nat.zero_le _⟩) hS (fun q _ h => AF.mono hS.1 h) (fun q h => AF.mono hS.1 h) (fun x_169 ux_169 t H locs ht hvm hx_169 hB hz hk hS => ?_)
                      obtain ⟨eTx_169, eGx_169⟩ := hx_169
                      obtain ⟨G_170, eG_170⟩ : ∃ z, z = ux_169.2 := ⟨_, rfl⟩
                      rw [← eG_170] at eGx_169
                      obtain ⟨hfr_171, hex_172⟩ := eGx_169
                      have fr_173 : FR [107, 108, 109, 110, 114, 127, 128, 118, 119, 120] [(g.2.2 100), (g.2.2 115), (g.2.2 125), (g.2.2 126), (g.2.2 129)] [106] G G_170 := FR.tr fr_110 hfr_171 (by decide) (fun b h => ⟨h.1, h.2.1, h.2.2.1, h.2.2.2.1, h.2.2.2.2.1, trivial⟩) (by decide)
                      have u_174 : G_170.1 113 = (G.1 113) := (hfr_171.1 113 (by decide)).trans u_111
                      have u_175 : G_170.1 118 = x_118 := (hfr_171.1 118 (by decide)).trans ex_118
                      have u_176 : G_170.1 119 = x_119 := (hfr_171.1 119 (by decide)).trans ex_119
                      have u_177 : G_170.1 120 = x_120 := (hfr_171.1 120 (by decide)).trans ex_120
                      have w_178 : G_170.2.1 (g.2.2 116) = (G.2.1 (g.2.2 116)) := (hfr_171.2.1 (g.2.2 116) ⟨(ne_kd hmk.2.2.2.2.1 hmk.1 (by decide)), (ne_kd hmk.2.2.2.2.1 hmk.2.2.2.1 (by decide)), (ne_kd hmk.2.2.2.2.1 hmk.2.2.2.2.2.2.2.2.1 (by decide)), (ne_kd hmk.2.2.2.2.1 hmk.2.2.2.2.2.2.2.2.2.1 (by decide)), (ne_kd hmk.2.2.2.2.1 hmk.2.2.2.2.2.2.2.2.2.2.1 (by decide)), trivial⟩).trans w_113
                      have w_179 : G_170.2.1 (g.2.2 130) = (G.2.1 (g.2.2 130)) := (hfr_171.2.1 (g.2.2 130) ⟨(ne_kd hmk.2.2.2.2.2.2.2.2.2.2.2.1 hmk.1 (by decide)), (ne_kd hmk.2.2.2.2.2.2.2.2.2.2.2.1 hmk.2.2.2.1 (by decide)), (ne_kd hmk.2.2.2.2.2.2.2.2.2.2.2.1 hmk.2.2.2.2.2.2.2.2.1 (by decide)), (ne_kd hmk.2.2.2.2.2.2.2.2.2.2.2.1 hmk.2.2.2.2.2.2.2.2.2.1 (by decide)), (ne_kd hmk.2.2.2.2.2.2.2.2.2.2.2.1 hmk.2.2.2.2.2.2.2.2.2.2.1 (by decide)), trivial⟩).trans w_114
                      have w_180 : G_170.2.1 (g.2.2 111) = (G.2.1 (g.2.2 111)) := (hfr_171.2.1 (g.2.2 111) ⟨(ne_kd hmk.2.2.2.2.2.2.2.2.2.2.2.2.2.2.2.2.2.2.2.2.1 hmk.1 (by decide)), (ne_kd hmk.2.2.2.2.2.2.2.2.2.2.2.2.2.2.2.2.2.2.2.2.1 hmk.2.2.2.1 (by decide)), (ne_kd hmk.2.2.2.2.2.2.2.2.2.2.2.2.2.2.2.2.2.2.2.2.1 hmk.2.2.2.2.2.2.2.2.1 (by decide)), (ne_kd hmk.2.2.2.2.2.2.2.2.2.2.2.2.2.2.2.2.2.2.2.2.1 hmk.2.2.2.2.2.2.2.2.2.1 (by decide)), (ne_kd hmk.2.2.2.2.2.2.2.2.2.2.2.2.2.2.2.2.2.2.2.2.1 hmk.2.2.2.2.2.2.2.2.2.2.1 (by decide)), trivial⟩).trans w_115
                      have u_181 : G_170.2.2 111 = some (g.2.2 111) := (hfr_171.2.2 111 (by decide)).trans u_117
                      obtain ⟨f_182, ef_182⟩ : ∃ z : Nat → Int32, G_170.2.1 (g.2.2 100) = z := ⟨_, rfl⟩
                      have ti_183 := hex_172
                      rw [ef_182] at ti_183
                      have hH : HT g Ty G_170 H := by rw [← ht, ← eTx_169, eG_170]; exact hB
                      refine lv_pop hx hb dX12_act_348 rfl ?_
                      refine lv_goto (tgt := 368) hx hb dX12_act_349 (by decide) ?_
                      refine lv_iconst (v := 1) hx hb dX12_act_368 (by decide) ?_
                      exact W.zret hx hb hr rfl (fun t ht hWm => ⟨⟨1, (Ty, G_170), rfl, ⟨rg_w rl_1 (by decide) (by decide), ⟨rfl, ⟨fr_173, (by rw [ef_182]; exact (TI.hi ti_183 (by omega)))⟩⟩⟩, by show HT g Ty G_170 t.heap; rw [ht]; exact hH⟩, hS.F ht⟩) hS.2.2 dX12_act_369
                  · exact rg_noE r_155 rl_98 c_164 (by decide)
                · have r_184 : rgI (-9) (-1) x_159 := rg_w (rg_ltL rx_159 rl_0 (nle_lt c_161)) (by decide) (by decide)
                  refine lv_iconst (v := 0) hx hb dX12_act_296 (by decide) ?_
                  exact W.zret hx hb hr rfl (fun t ht hWm => ⟨⟨0, (Ty, G_107), rfl, ⟨rg_w rl_0 (by decide) (by decide), ⟨rfl, ⟨fr_110, (by rw [w_112]; exact (hTI.hi (by omega)))⟩⟩⟩, by show HT g Ty G_107 t.heap; rw [ht]; exact hH⟩, hS.F ht⟩) hS.2.2 dX12_act_297
            · have r_185 : rgI (98) (98) x_5 := rg_w (rg_eq rl_98 c_124) (by decide) (by decide)
              refine lv_aload_n hx hb dX12_act_227 rfl (lv_at hl 2 rfl) ?_
              refine lv_aload_n hx hb dX12_act_228 rfl (lv_at hl 2 rfl) ?_
              obtain ⟨_, ⟨rfl, t_187, hk_188⟩, o_c_186⟩ := hH h0 _ k_h0
              refine hg_get hx hb hG igX12 hown hK o_c_186 rfl 0 (by decide) (hG _ mw_1284) rfl dX12_act_229 ?_
              refine lv_iload_n hx hb dX12_act_232 rfl (lv_at hl 0 rfl) ?_
              refine lv_aload_n hx hb dX12_act_233 rfl (lv_at hl 2 rfl) ?_
              refine hg_get hx hb hG igX12 hown hK o_c_186 rfl 18 (by decide) (hG _ mw_1302) rfl dX12_act_234 ?_
              rw [ex_118]
              refine lv_aload_n hx hb dX12_act_237 rfl (lv_at hl 2 rfl) ?_
              refine hg_get hx hb hG igX12 hown hK o_c_186 rfl 19 (by decide) (hG _ mw_1303) rfl dX12_act_238 ?_
              rw [ex_119]
              refine va_calli (va_runV (As := [.ref (g.2.2 100), .int x_80, .int x_118, .int x_119]) (rest := []) ⟨hx, hb, hml, hown, hts⟩ (c_X12_refusesBind l g Ty G_107 H.size h0 (g.2.2 100) x_80 x_118 x_119 k_h0 (hk_188.1) ρ (by rw [w_112]; exact hT) (g.2.2 111) hmk.2.2.2.2.2.2.2.2.2.2.2.2.2.2.2.2.2.2.2.2.1 u_117 (by rw [u_111]; exact hr3)) (cwV 4 hts (gwV mw_1613 mw_1615 mw_58 mw_88 mw_1616) rfl rfl rfl hv_X12_refusesBind ⟨Nat.le_of_ble_eq_true rfl, Nat.le_of_ble_eq_true rfl⟩) ⟨PcT_blind, hg_recv hK o_c_186 rfl, PcT_pre hK hH⟩ rfl rfl hl.1 rfl (lv_room (Nat.le_of_ble_eq_true rfl)) dX12_act_241 ⟨Nat.zero_le _, Nat.zero_le _⟩) hS (fun q _ h => AF.mono hS.1 h) (fun q h => AF.mono hS.1 h) (fun x_189 ux_189 t H locs ht hvm hx_189 hB hz hk hS => ?_)
              obtain ⟨hx_189, fx_189⟩ := hx_189
              obtain ⟨eTx_189, eGx_189⟩ := fx_189
              obtain ⟨G_190, eG_190⟩ : ∃ z, z = ux_189.2 := ⟨_, rfl⟩
              rw [← eG_190] at eGx_189
              have fr_191 : FR [107, 108, 109, 110, 114, 127, 128, 118, 119, 120] [(g.2.2 100), (g.2.2 115), (g.2.2 125), (g.2.2 126), (g.2.2 129)] [106] G G_190 := FR.tr fr_110 eGx_189 (by decide) (fun b h => ⟨h.2.1, trivial⟩) (by decide)
              have u_192 : G_190.1 113 = (G.1 113) := (eGx_189.1 113 (by decide)).trans u_111
              have u_193 : G_190.1 118 = x_118 := (eGx_189.1 118 (by decide)).trans ex_118
              have u_194 : G_190.1 119 = x_119 := (eGx_189.1 119 (by decide)).trans ex_119
              have u_195 : G_190.1 120 = x_120 := (eGx_189.1 120 (by decide)).trans ex_120
              have w_196 : G_190.2.1 (g.2.2 100) = (G.2.1 (g.2.2 100)) := (eGx_189.2.1 (g.2.2 100) ⟨(ne_kd hmk.1 hmk.2.2.2.1 (by decide)), trivial⟩).trans w_112
              have w_197 : G_190.2.1 (g.2.2 116) = (G.2.1 (g.2.2 116)) := (eGx_189.2.1 (g.2.2 116) ⟨(ne_kd hmk.2.2.2.2.1 hmk.2.2.2.1 (by decide)), trivial⟩).trans w_113
              have w_198 : G_190.2.1 (g.2.2 130) = (G.2.1 (g.2.2 130)) := (eGx_189.2.1 (g.2.2 130) ⟨(ne_kd hmk.2.2.2.2.2.2.2.2.2.2.2.1 hmk.2.2.2.1 (by decide)), trivial⟩).trans w_114
              have w_199 : G_190.2.1 (g.2.2 111) = (G.2.1 (g.2.2 111)) := (eGx_189.2.1 (g.2.2 111) ⟨(ne_kd hmk.2.2.2.2.2.2.2.2.2.2.2.2.2.2.2.2.2.2.2.2.1 hmk.2.2.2.1 (by decide)), trivial⟩).trans w_115
              have w_200 : G_190.2.1 (g.2.2 129) = (G.2.1 (g.2.2 129)) := (eGx_189.2.1 (g.2.2 129) ⟨(ne_kd hmk.2.2.2.2.2.2.2.2.2.2.1 hmk.2.2.2.1 (by decide)), trivial⟩).trans w_116
              have u_201 : G_190.2.2 111 = some (g.2.2 111) := (eGx_189.2.2 111 (by decide)).trans u_117
              have hH : HT g Ty G_190 H := by rw [← ht, ← eTx_189, eG_190]; exact hB
              have rx_189 : rgI (-9) (0) x_189 := hx_189.1
              have tx_202 := hx_189.2
              try rw [w_112] at tx_202
              try rw [w_115] at tx_202
              try rw [u_111] at tx_202
              refine lv_goto (tgt := 289) hx hb dX12_act_244 (by decide) ?_
              refine lv_istore (lv' := [(4, .int x_189), (3, .int x_80), (2, .int x_5), (0, .ref h0), (1, .int a0)]) hx hb dX12_act_289 hl (by decide) rfl (fun ls hl => ?_)
              refine lv_iload hx hb dX12_act_291 (lv_at hl 0 rfl) ?_
              refine lv_if_ge (tgt := 298) hx hb dX12_act_293 (by decide) (fun c_203 => ?_) (fun c_203 => ?_)
              · have r_204 : rgI (0) (0) x_189 := rg_w (rg_leR rl_0 rx_189 c_203) (by decide) (by decide)
                have c0_205 := tx_202 (rg_00 r_204 c_203)
                obtain ⟨⟨σ_206, hts_207⟩, h1_208, hb_209⟩ := id hTI
                refine lv_iload_n hx hb dX12_act_298 rfl (lv_at hl 2 rfl) ?_
                refine lv_bipush (v := 98) hx hb dX12_act_299 (by decide) ?_
                refine lv_icmp_ne (tgt := 325) hx hb dX12_act_301 (by decide) (fun c_210 => ?_) (fun c_210 => ?_)
                · exact rg_clash (rg_neL r_185 rl_98 c_210) (r_185) (by decide)
                · refine lv_aload_n hx hb dX12_act_304 rfl (lv_at hl 3 rfl) ?_
                  refine lv_aload_n hx hb dX12_act_305 rfl (lv_at hl 3 rfl) ?_
                  obtain ⟨_, ⟨rfl, t_212, hk_213⟩, o_c_211⟩ := hH h0 _ k_h0
                  refine hg_get hx hb hG igX12 hown hK o_c_211 rfl 0 (by decide) (hG _ mw_1284) rfl dX12_act_306 ?_
                  refine lv_iload_n hx hb dX12_act_309 rfl (lv_at hl 1 rfl) ?_
                  refine lv_aload_n hx hb dX12_act_310 rfl (lv_at hl 3 rfl) ?_
                  refine hg_get hx hb hG igX12 hown hK o_c_211 rfl 18 (by decide) (hG _ mw_1302) rfl dX12_act_311 ?_
                  rw [u_193]
                  refine lv_aload_n hx hb dX12_act_314 rfl (lv_at hl 3 rfl) ?_
                  refine hg_get hx hb hG igX12 hown hK o_c_211 rfl 19 (by decide) (hG _ mw_1303) rfl dX12_act_315 ?_
                  rw [u_194]
                  refine va_calli (va_runV (As := [.ref (g.2.2 100), .int x_80, .int x_118, .int x_119]) (rest := []) ⟨hx, hb, hml, hown, hts⟩ (c_X12_goClone l g Ty G_190 H.size h0 (g.2.2 100) x_80 x_118 x_119 k_h0 (hk_213.1) (rg_w r_96 (by decide) (by decide)) (rg_w tp_121.1 (by decide) (by decide)) (rg_w c0_205.2.2.1 (by decide) (by decide)) (g.2.2 111) hmk.2.2.2.2.2.2.2.2.2.2.2.2.2.2.2.2.2.2.2.2.1 u_201 (by rw [u_192]; exact hr3) hLD σ_206 (by rw [w_196]; exact hts_207) (by rw [w_196]; exact h1_208) Bd (by rw [w_196]; exact hb_209) (by rw [w_196]; exact (Int.le_trans hb_209 (Int.le_trans hBd (by decide)))) (by rw [w_196]; exact (Or.inr c0_205.1)) (by rw [w_196, w_199, u_192]; exact c0_205.2)) (cwV 4 hts (gwV mw_1584 mw_1586 mw_54 mw_88 mw_1587) rfl rfl rfl hv_X12_goClone ⟨Nat.le_of_ble_eq_true rfl, Nat.le_of_ble_eq_true rfl⟩) ⟨PcT_blind, hg_recv hK o_c_211 rfl, PcT_pre hK hH⟩ rfl rfl hl.1 rfl (lv_room (Nat.le_of_ble_eq_true rfl)) dX12_act_318 ⟨Nat.zero_le _, Nat.zero_le _⟩) hS (fun q _ h => AF.mono hS.1 h) (fun q h => AF.mono hS.1 h) (fun x_214 ux_214 t H locs ht hvm hx_214 hB hz hk hS => ?_)
                  obtain ⟨eTx_214, eGx_214⟩ := hx_214
                  obtain ⟨G_215, eG_215⟩ : ∃ z, z = ux_214.2 := ⟨_, rfl⟩
                  rw [← eG_215] at eGx_214
                  obtain ⟨hfr_216, hex_217⟩ := eGx_214
                  have fr_218 : FR [107, 108, 109, 110, 114, 127, 128, 118, 119, 120] [(g.2.2 100), (g.2.2 115), (g.2.2 125), (g.2.2 126), (g.2.2 129)] [106] G G_215 := FR.tr fr_191 hfr_216 (by decide) (fun b h => ⟨h.1, h.2.1, h.2.2.1, h.2.2.2.1, trivial⟩) (by decide)
                  have u_219 : G_215.1 113 = (G.1 113) := (hfr_216.1 113 (by decide)).trans u_192
                  have u_220 : G_215.1 118 = x_118 := (hfr_216.1 118 (by decide)).trans u_193
                  have u_221 : G_215.1 119 = x_119 := (hfr_216.1 119 (by decide)).trans u_194
                  have u_222 : G_215.1 120 = x_120 := (hfr_216.1 120 (by decide)).trans u_195
                  have w_223 : G_215.2.1 (g.2.2 116) = (G.2.1 (g.2.2 116)) := (hfr_216.2.1 (g.2.2 116) ⟨(ne_kd hmk.2.2.2.2.1 hmk.1 (by decide)), (ne_kd hmk.2.2.2.2.1 hmk.2.2.2.1 (by decide)), (ne_kd hmk.2.2.2.2.1 hmk.2.2.2.2.2.2.2.2.1 (by decide)), (ne_kd hmk.2.2.2.2.1 hmk.2.2.2.2.2.2.2.2.2.1 (by decide)), trivial⟩).trans w_197
                  have w_224 : G_215.2.1 (g.2.2 130) = (G.2.1 (g.2.2 130)) := (hfr_216.2.1 (g.2.2 130) ⟨(ne_kd hmk.2.2.2.2.2.2.2.2.2.2.2.1 hmk.1 (by decide)), (ne_kd hmk.2.2.2.2.2.2.2.2.2.2.2.1 hmk.2.2.2.1 (by decide)), (ne_kd hmk.2.2.2.2.2.2.2.2.2.2.2.1 hmk.2.2.2.2.2.2.2.2.1 (by decide)), (ne_kd hmk.2.2.2.2.2.2.2.2.2.2.2.1 hmk.2.2.2.2.2.2.2.2.2.1 (by decide)), trivial⟩).trans w_198
                  have w_225 : G_215.2.1 (g.2.2 111) = (G.2.1 (g.2.2 111)) := (hfr_216.2.1 (g.2.2 111) ⟨(ne_kd hmk.2.2.2.2.2.2.2.2.2.2.2.2.2.2.2.2.2.2.2.2.1 hmk.1 (by decide)), (ne_kd hmk.2.2.2.2.2.2.2.2.2.2.2.2.2.2.2.2.2.2.2.2.1 hmk.2.2.2.1 (by decide)), (ne_kd hmk.2.2.2.2.2.2.2.2.2.2.2.2.2.2.2.2.2.2.2.2.1 hmk.2.2.2.2.2.2.2.2.1 (by decide)), (ne_kd hmk.2.2.2.2.2.2.2.2.2.2.2.2.2.2.2.2.2.2.2.2.1 hmk.2.2.2.2.2.2.2.2.2.1 (by decide)), trivial⟩).trans w_199
                  have w_226 : G_215.2.1 (g.2.2 129) = (G.2.1 (g.2.2 129)) := (hfr_216.2.1 (g.2.2 129) ⟨(hLD 129 (by decide) 100 (by decide) (by decide)), (ne_kd hmk.2.2.2.2.2.2.2.2.2.2.1 hmk.2.2.2.1 (by decide)), (ne_kd hmk.2.2.2.2.2.2.2.2.2.2.1 hmk.2.2.2.2.2.2.2.2.1 (by decide)), (ne_kd hmk.2.2.2.2.2.2.2.2.2.2.1 hmk.2.2.2.2.2.2.2.2.2.1 (by decide)), trivial⟩).trans w_200
                  have u_227 : G_215.2.2 111 = some (g.2.2 111) := (hfr_216.2.2 111 (by decide)).trans u_201
                  obtain ⟨f_228, ef_228⟩ : ∃ z : Nat → Int32, G_215.2.1 (g.2.2 100) = z := ⟨_, rfl⟩
                  have gc_229 := hex_217
                  rw [ef_228, w_196, w_199, u_192] at gc_229
                  have hH : HT g Ty G_215 H := by rw [← ht, ← eTx_214, eG_215]; exact hB
                  refine lv_pop hx hb dX12_act_321 rfl ?_
                  refine lv_goto (tgt := 368) hx hb dX12_act_322 (by decide) ?_
                  refine lv_iconst (v := 1) hx hb dX12_act_368 (by decide) ?_
                  exact W.zret hx hb hr rfl (fun t ht hWm => ⟨⟨1, (Ty, G_215), rfl, ⟨rg_w rl_1 (by decide) (by decide), ⟨rfl, ⟨fr_218, (by rw [ef_228]; exact (TI.hi gc_229.1 (by omega)))⟩⟩⟩, by show HT g Ty G_215 t.heap; rw [ht]; exact hH⟩, hS.F ht⟩) hS.2.2 dX12_act_369
              · have r_230 : rgI (-9) (-1) x_189 := rg_w (rg_ltL rx_189 rl_0 (nle_lt c_203)) (by decide) (by decide)
                refine lv_iconst (v := 0) hx hb dX12_act_296 (by decide) ?_
                exact W.zret hx hb hr rfl (fun t ht hWm => ⟨⟨0, (Ty, G_190), rfl, ⟨rg_w rl_0 (by decide) (by decide), ⟨rfl, ⟨fr_191, (by rw [w_196]; exact (hTI.hi (by omega)))⟩⟩⟩, by show HT g Ty G_190 t.heap; rw [ht]; exact hH⟩, hS.F ht⟩) hS.2.2 dX12_act_297
          · have r_231 : rgI (0) (0) x_106 := rg_w (rg_eq rl_0 c_122) (by decide) (by decide)
            refine lv_iconst (v := 0) hx hb dX12_act_219 (by decide) ?_
            exact W.zret hx hb hr rfl (fun t ht hWm => ⟨⟨0, (Ty, G_107), rfl, ⟨rg_w rl_0 (by decide) (by decide), ⟨rfl, ⟨fr_110, (by rw [w_112]; exact (hTI.hi (by omega)))⟩⟩⟩, by show HT g Ty G_107 t.heap; rw [ht]; exact hH⟩, hS.F ht⟩) hS.2.2 dX12_act_220
        · have r_232 : rgI (107) (107) x_5 := rg_w (rg_eq rl_107 c_98) (by decide) (by decide)
          refine lv_aload_n hx hb dX12_act_161 rfl (lv_at hl 2 rfl) ?_
          obtain ⟨_, ⟨rfl, t_234, hk_235⟩, o_c_233⟩ := hH h0 _ k_h0
          refine hg_get hx hb hG igX12 hown hK o_c_233 rfl 0 (by decide) (hG _ mw_1284) rfl dX12_act_162 ?_
          refine lv_iload_n hx hb dX12_act_165 rfl (lv_at hl 0 rfl) ?_
          refine lv_aload_n hx hb dX12_act_166 rfl (lv_at hl 2 rfl) ?_
          refine hg_get hx hb hG igX12 hown hK o_c_233 rfl 30 (by decide) (hG _ mw_1314) rfl dX12_act_167 ?_
          refine lv_iload_n hx hb dX12_act_170 rfl (lv_at hl 3 rfl) ?_
          refine lv_iconst (v := 3) hx hb dX12_act_171 (by decide) ?_
          refine lv_iadd hx hb dX12_act_172 ?_
          refine lv_topi (fun x_236 ex_236 => ?_)
          have rx_236 : rgI (3) (319) x_236 := by rw [ex_236]; exact rg_w (rg_add pr0 rl_3 (by decide) (by decide)) (by decide) (by decide)
          have qx_236 : x_236.toInt = (a0 : Int32).toInt + 3 := by rw [ex_236]; exact rg_addE pr0 rl_3 (by decide) (by decide)
          obtain ⟨_, rfl, o_c_237⟩ := hH (g.2.2 130) _ hk_235.2.2.2.2.2.2.2.2.2.2.2.1
          have o_c_237 : va_at g.1 vwCl ((g.2.2 130), .inl (g.2.1 1, 320, .inl (G_81.2.1 (g.2.2 130)))) H := o_c_237
          refine hg_iald hx hb hK o_c_237 (rg_in (n := 320) rx_236 (by decide) (by decide)) dX12_act_173 ?_
          rw [w_88]
          refine lv_topi (fun x_238 ex_238 => ?_)
          refine vp_callSi (W.runS (As := [.ref (g.2.2 100), .int x_80, .int x_238]) (rest := []) ⟨hx, hb, hml, hown, hts⟩ (c_X12_refusesMaking l g Ty G_81 (g.2.2 100) x_80 x_238 (hk_235.1)) (cwSx 3 hts hG (gwC mw_1642) mw_88 mw_1640 mw_1641 rfl rfl rfl hd_X12_refusesMaking ⟨Nat.le_of_ble_eq_true rfl, Nat.le_of_ble_eq_true rfl⟩) ⟨PcH_blind, PcH_pre hK hH⟩ rfl rfl hl.1 rfl (lv_room (Nat.le_of_ble_eq_true rfl)) dX12_act_174 ⟨Nat.zero_le _, Nat.zero_le _⟩) (fun x_239 hx_239 => ?_)
          have rx_239 : rgI (-2) (0) x_239 := hx_239.1
          have ex_240 : x_239 = F_X12_refusesMaking (G.2.1 (g.2.2 100)) x_80 x_238 := by rw [← w_86]; exact hx_239.2
          refine lv_if_ge (tgt := 182) hx hb dX12_act_177 (by decide) (fun c_241 => ?_) (fun c_241 => ?_)
          · have r_242 : rgI (0) (0) x_239 := rg_w (rg_leR rl_0 rx_239 c_241) (by decide) (by decide)
            refine lv_aload_n hx hb dX12_act_182 rfl (lv_at hl 2 rfl) ?_
            refine hg_get hx hb hG igX12 hown hK o_c_233 rfl 0 (by decide) (hG _ mw_1284) rfl dX12_act_183 ?_
            refine lv_iload_n hx hb dX12_act_186 rfl (lv_at hl 0 rfl) ?_
            refine lv_aload_n hx hb dX12_act_187 rfl (lv_at hl 2 rfl) ?_
            refine hg_get hx hb hG igX12 hown hK o_c_233 rfl 30 (by decide) (hG _ mw_1314) rfl dX12_act_188 ?_
            refine lv_iload_n hx hb dX12_act_191 rfl (lv_at hl 3 rfl) ?_
            refine lv_iconst (v := 3) hx hb dX12_act_192 (by decide) ?_
            refine lv_iadd hx hb dX12_act_193 ?_
            refine lv_topi (fun x_243 ex_243 => ?_)
            have rx_243 : rgI (3) (319) x_243 := by rw [ex_243]; exact rg_w (rg_add pr0 rl_3 (by decide) (by decide)) (by decide) (by decide)
            have qx_243 : x_243.toInt = (a0 : Int32).toInt + 3 := by rw [ex_243]; exact rg_addE pr0 rl_3 (by decide) (by decide)
            refine hg_iald hx hb hK o_c_237 (rg_in (n := 320) rx_243 (by decide) (by decide)) dX12_act_194 ?_
            rw [w_88]
            refine lv_topi (fun x_244 ex_244 => ?_)
            refine va_callv (va_runS (As := [.ref (g.2.2 100), .int x_80, .int x_244]) (rest := []) ⟨hx, hb, hml, hown, hts⟩ (c_X12_goMake l g Ty G_81 H.size (g.2.2 100) x_80 x_244 (hk_235.1) (rg_w r_96 (by decide) (by decide))) (cwSx 3 hts hG (gwC mw_1645) mw_88 mw_1643 mw_1644 rfl rfl rfl hd_X12_goMake ⟨Nat.le_of_ble_eq_true rfl, Nat.le_of_ble_eq_true rfl⟩) ⟨PcT_blind, PcT_pre hK hH⟩ rfl rfl hl.1 rfl (lv_room (Nat.le_of_ble_eq_true rfl)) dX12_act_195 ⟨Nat.zero_le _, Nat.zero_le _⟩) hS (fun q _ h => AF.mono hS.1 h) (fun q h => AF.mono hS.1 h) (fun ux_245 t H locs ht hvm hx_245 hB hz hk hS => ?_)
            obtain ⟨eTx_245, eGx_245⟩ := hx_245
            obtain ⟨G_246, eG_246⟩ : ∃ z, z = ux_245.2 := ⟨_, rfl⟩
            rw [← eG_246] at eGx_245
            have hg_248 := eGx_245
            rw [w_86] at hg_248
            obtain ⟨f_247, ef_247⟩ : ∃ z : Nat → Int32, z = F_X12_goMake (G.2.1 (g.2.2 100)) x_80 x_244 := ⟨_, rfl⟩
            rw [← ef_247] at hg_248
            have fr_249 : FR [107, 108, 109, 110, 114, 127, 128, 118, 119, 120] [(g.2.2 100), (g.2.2 115), (g.2.2 125), (g.2.2 126), (g.2.2 129)] [106] G G_246 := FR.a fr_84 hg_248 (fun b h => h.1)
            have u_250 : G_246.1 113 = (G.1 113) := by rw [hg_248]; exact u_85
            have u_251 : G_246.1 118 = x_92 := by rw [hg_248]; exact ex_92
            have u_252 : G_246.1 119 = x_93 := by rw [hg_248]; exact ex_93
            have u_253 : G_246.1 120 = x_94 := by rw [hg_248]; exact ex_94
            have w_254 : G_246.2.1 (g.2.2 100) = f_247 := by rw [hg_248]; exact aset_eq
            have w_255 : G_246.2.1 (g.2.2 116) = (G.2.1 (g.2.2 116)) := by rw [hg_248]; exact (aset_ne (ne_kd hmk.2.2.2.2.1 hmk.1 (by decide))).trans w_87
            have w_256 : G_246.2.1 (g.2.2 130) = (G.2.1 (g.2.2 130)) := by rw [hg_248]; exact (aset_ne (ne_kd hmk.2.2.2.2.2.2.2.2.2.2.2.1 hmk.1 (by decide))).trans w_88
            have w_257 : G_246.2.1 (g.2.2 111) = (G.2.1 (g.2.2 111)) := by rw [hg_248]; exact (aset_ne (ne_kd hmk.2.2.2.2.2.2.2.2.2.2.2.2.2.2.2.2.2.2.2.2.1 hmk.1 (by decide))).trans w_89
            have w_258 : G_246.2.1 (g.2.2 129) = (G.2.1 (g.2.2 129)) := by rw [hg_248]; exact (aset_ne (hLD 129 (by decide) 100 (by decide) (by decide))).trans w_90
            have u_259 : G_246.2.2 111 = some (g.2.2 111) := by rw [hg_248]; exact u_91
            have hH : HT g Ty G_246 H := by rw [← ht, ← eTx_245, eG_246]; exact hB
            have tm_260 : TI (Bd + 25) f_247 := by rw [ef_247]; exact (TI_make hTI (Int.le_trans hBd (by decide)) th_97).1
            refine lv_iconst (v := 1) hx hb dX12_act_198 (by decide) ?_
            exact W.zret hx hb hr rfl (fun t ht hWm => ⟨⟨1, (Ty, G_246), rfl, ⟨rg_w rl_1 (by decide) (by decide), ⟨rfl, ⟨fr_249, (by rw [w_254]; exact (TI.hi tm_260 (by omega)))⟩⟩⟩, by show HT g Ty G_246 t.heap; rw [ht]; exact hH⟩, hS.F ht⟩) hS.2.2 dX12_act_199
          · have r_261 : rgI (-2) (-1) x_239 := rg_w (rg_ltL rx_239 rl_0 (nle_lt c_241)) (by decide) (by decide)
            refine lv_iconst (v := 0) hx hb dX12_act_180 (by decide) ?_
            exact W.zret hx hb hr rfl (fun t ht hWm => ⟨⟨0, (Ty, G_81), rfl, ⟨rg_w rl_0 (by decide) (by decide), ⟨rfl, ⟨fr_84, (by rw [w_86]; exact (hTI.hi (by omega)))⟩⟩⟩, by show HT g Ty G_81 t.heap; rw [ht]; exact hH⟩, hS.F ht⟩) hS.2.2 dX12_act_181
      · have r_262 : rgI (24) (24) x_80 := rg_w (rg_eq rl_24 c_95) (by decide) (by decide)
        refine lv_iconst (v := 0) hx hb dX12_act_153 (by decide) ?_
        exact W.zret hx hb hr rfl (fun t ht hWm => ⟨⟨0, (Ty, G_81), rfl, ⟨rg_w rl_0 (by decide) (by decide), ⟨rfl, ⟨fr_84, (by rw [w_86]; exact (hTI.hi (by omega)))⟩⟩⟩, by show HT g Ty G_81 t.heap; rw [ht]; exact hH⟩, hS.F ht⟩) hS.2.2 dX12_act_154
    · have r_263 : rgI (117) (117) x_5 := rg_w (rg_eq rl_117 c_76) (by decide) (by decide)
      refine lv_aload_n hx hb dX12_act_19 rfl (lv_at hl 1 rfl) ?_
      refine lv_aload_n hx hb dX12_act_20 rfl (lv_at hl 1 rfl) ?_
      refine hg_get hx hb hG igX12 hown hK o_c_1 rfl 0 (by decide) (hG _ mw_1284) rfl dX12_act_21 ?_
      refine lv_aload_n hx hb dX12_act_24 rfl (lv_at hl 1 rfl) ?_
      refine hg_get hx hb hG igX12 hown hK o_c_1 rfl 30 (by decide) (hG _ mw_1314) rfl dX12_act_25 ?_
      refine lv_iload_n hx hb dX12_act_28 rfl (lv_at hl 2 rfl) ?_
      refine lv_iconst (v := 1) hx hb dX12_act_29 (by decide) ?_
      refine lv_iadd hx hb dX12_act_30 ?_
      refine lv_topi (fun x_264 ex_264 => ?_)
      have rx_264 : rgI (1) (317) x_264 := by rw [ex_264]; exact rg_w (rg_add pr0 rl_1 (by decide) (by decide)) (by decide) (by decide)
      have qx_264 : x_264.toInt = (a0 : Int32).toInt + 1 := by rw [ex_264]; exact rg_addE pr0 rl_1 (by decide) (by decide)
      refine hg_iald hx hb hK o_c_4 (rg_in (n := 320) rx_264 (by decide) (by decide)) dX12_act_31 ?_
      refine lv_topi (fun x_265 ex_265 => ?_)
      have ak_266 : x_265 = (G.2.1 (g.2.2 130)) (a0.toNatClampNeg + 1) := by rw [ex_265, ai_d (n := 1) ex_264 pr0 rfl (by decide)]
      refine va_calli (va_runV (As := [.ref (g.2.2 100), .int x_265]) (rest := []) ⟨hx, hb, hml, hown, hts⟩ (c_X12_goPath l g Ty G s.heap.size h0 (g.2.2 100) x_265 k_h0 (hk_3.1) ρ hT lmx (ps_eq hok.1 ak_266)) (cwV 2 hts (gwV mw_1503 mw_1505 mw_47 mw_88 mw_1506) rfl rfl rfl hv_X12_goPath ⟨Nat.le_of_ble_eq_true rfl, Nat.le_of_ble_eq_true rfl⟩) ⟨PcT_blind, hg_recv hK o_c_1 rfl, PcT_pre hK hH⟩ rfl rfl hl.1 rfl (lv_room (Nat.le_of_ble_eq_true rfl)) dX12_act_32 ⟨Nat.zero_le _, Nat.zero_le _⟩) hS (fun q _ h => AF.mono hS.1 h) (fun q h => AF.mono hS.1 h) (fun x_267 ux_267 t H locs ht hvm hx_267 hB hz hk hS => ?_)
      obtain ⟨hx_267, fx_267⟩ := hx_267
      obtain ⟨eTx_267, eGx_267⟩ := fx_267
      obtain ⟨G_268, eG_268⟩ : ∃ z, z = ux_267.2 := ⟨_, rfl⟩
      rw [← eG_268] at eGx_267
      obtain ⟨hfr_269, hex_270⟩ := eGx_267
      have fr_271 : FR [107, 108, 109, 110, 114, 127, 128, 118, 119, 120] [(g.2.2 100), (g.2.2 115), (g.2.2 125), (g.2.2 126), (g.2.2 129)] [106] G G_268 := FR.tr FR.rf hfr_269 (by decide) (fun _ _ => trivial) (by decide)
      have u_272 : G_268.1 113 = (G.1 113) := (hfr_269.1 113 (by decide))
      have w_273 : G_268.2.1 (g.2.2 100) = (G.2.1 (g.2.2 100)) := (hfr_269.2.1 (g.2.2 100) trivial)
      have w_274 : G_268.2.1 (g.2.2 116) = (G.2.1 (g.2.2 116)) := (hfr_269.2.1 (g.2.2 116) trivial)
      have w_275 : G_268.2.1 (g.2.2 130) = (G.2.1 (g.2.2 130)) := (hfr_269.2.1 (g.2.2 130) trivial)
      have w_276 : G_268.2.1 (g.2.2 111) = (G.2.1 (g.2.2 111)) := (hfr_269.2.1 (g.2.2 111) trivial)
      have w_277 : G_268.2.1 (g.2.2 129) = (G.2.1 (g.2.2 129)) := (hfr_269.2.1 (g.2.2 129) trivial)
      have u_278 : G_268.2.2 111 = some (g.2.2 111) := (hfr_269.2.2 111 (by decide)).trans hr1
      obtain ⟨x_279, ex_279⟩ : ∃ z : Int32, G_268.1 118 = z := ⟨_, rfl⟩
      obtain ⟨x_280, ex_280⟩ : ∃ z : Int32, G_268.1 119 = z := ⟨_, rfl⟩
      obtain ⟨x_281, ex_281⟩ : ∃ z : Int32, G_268.1 120 = z := ⟨_, rfl⟩
      have tp_282 := hex_270
      rw [ex_279] at tp_282
      have hH : HT g Ty G_268 H := by rw [← ht, ← eTx_267, eG_268]; exact hB
      have rx_267 : rgI (0) (1) x_267 := hx_267
      refine lv_if_ne (tgt := 40) hx hb dX12_act_35 (by decide) (fun c_283 => ?_) (fun c_283 => ?_)
      · have r_284 : rgI (1) (1) x_267 := rg_w (rg_neL rx_267 rl_0 c_283) (by decide) (by decide)
        refine lv_iload_n hx hb dX12_act_40 rfl (lv_at hl 0 rfl) ?_
        refine lv_bipush (v := 109) hx hb dX12_act_41 (by decide) ?_
        refine lv_icmp_ne (tgt := 65) hx hb dX12_act_43 (by decide) (fun c_285 => ?_) (fun c_285 => ?_)
        · refine lv_aload_n hx hb dX12_act_65 rfl (lv_at hl 1 rfl) ?_
          obtain ⟨_, ⟨rfl, t_287, hk_288⟩, o_c_286⟩ := hH h0 _ k_h0
          refine hg_get hx hb hG igX12 hown hK o_c_286 rfl 0 (by decide) (hG _ mw_1284) rfl dX12_act_66 ?_
          refine lv_aload_n hx hb dX12_act_69 rfl (lv_at hl 1 rfl) ?_
          refine hg_get hx hb hG igX12 hown hK o_c_286 rfl 18 (by decide) (hG _ mw_1302) rfl dX12_act_70 ?_
          rw [ex_279]
          refine lv_aload_n hx hb dX12_act_73 rfl (lv_at hl 1 rfl) ?_
          refine hg_get hx hb hG igX12 hown hK o_c_286 rfl 19 (by decide) (hG _ mw_1303) rfl dX12_act_74 ?_
          rw [ex_280]
          refine vp_callSi (W.runS (As := [.ref (g.2.2 100), .int x_279, .int x_280]) (rest := []) ⟨hx, hb, hml, hown, hts⟩ (c_X12_refusesUnmount l g Ty G_268 (g.2.2 100) x_279 x_280 (hk_288.1)) (cwSx 3 hts hG (gwC mw_1655) mw_88 mw_1653 mw_1654 rfl rfl rfl hd_X12_refusesUnmount ⟨Nat.le_of_ble_eq_true rfl, Nat.le_of_ble_eq_true rfl⟩) ⟨PcH_blind, PcH_pre hK hH⟩ rfl rfl hl.1 rfl (lv_room (Nat.le_of_ble_eq_true rfl)) dX12_act_77 ⟨Nat.zero_le _, Nat.zero_le _⟩) (fun x_289 hx_289 => ?_)
          have rx_289 : rgI (-3) (0) x_289 := hx_289.1
          have ex_290 : x_289 = F_X12_refusesUnmount (G.2.1 (g.2.2 100)) x_279 x_280 := by rw [← w_273]; exact hx_289.2
          refine lv_istore_n (lv' := [(3, .int x_289), (2, .int x_5), (0, .ref h0), (1, .int a0)]) hx hb dX12_act_80 rfl hl (by decide) rfl (fun ls hl => ?_)
          refine lv_iload_n hx hb dX12_act_81 rfl (lv_at hl 0 rfl) ?_
          refine lv_if_ge (tgt := 87) hx hb dX12_act_82 (by decide) (fun c_291 => ?_) (fun c_291 => ?_)
          · have r_292 : rgI (0) (0) x_289 := rg_w (rg_leR rl_0 rx_289 c_291) (by decide) (by decide)
            refine lv_iload_n hx hb dX12_act_87 rfl (lv_at hl 1 rfl) ?_
            refine lv_bipush (v := 109) hx hb dX12_act_88 (by decide) ?_
            refine lv_icmp_ne (tgt := 115) hx hb dX12_act_90 (by decide) (fun c_293 => ?_) (fun c_293 => ?_)
            · refine lv_aload_n hx hb dX12_act_115 rfl (lv_at hl 2 rfl) ?_
              refine lv_aload_n hx hb dX12_act_116 rfl (lv_at hl 2 rfl) ?_
              refine hg_get hx hb hG igX12 hown hK o_c_286 rfl 0 (by decide) (hG _ mw_1284) rfl dX12_act_117 ?_
              refine lv_aload_n hx hb dX12_act_120 rfl (lv_at hl 2 rfl) ?_
              refine hg_get hx hb hG igX12 hown hK o_c_286 rfl 18 (by decide) (hG _ mw_1302) rfl dX12_act_121 ?_
              rw [ex_279]
              refine lv_aload_n hx hb dX12_act_124 rfl (lv_at hl 2 rfl) ?_
              refine hg_get hx hb hG igX12 hown hK o_c_286 rfl 19 (by decide) (hG _ mw_1303) rfl dX12_act_125 ?_
              rw [ex_280]
              refine va_calli (va_runV (As := [.ref (g.2.2 100), .int x_279, .int x_280]) (rest := []) ⟨hx, hb, hml, hown, hts⟩ (c_X12_goUnmount l g Ty G_268 H.size h0 (g.2.2 100) x_279 x_280 k_h0 (hk_288.1) (rg_w tp_282.1 (by decide) (by decide)) Bd (by rw [w_273]; exact hTI) (by rw [w_273]; exact tp_282) (g.2.2 111) hmk.2.2.2.2.2.2.2.2.2.2.2.2.2.2.2.2.2.2.2.2.1 u_278 (by rw [u_272]; exact hr3)) (cwV 3 hts (gwV mw_1656 mw_1658 mw_62 mw_88 mw_1659) rfl rfl rfl hv_X12_goUnmount ⟨Nat.le_of_ble_eq_true rfl, Nat.le_of_ble_eq_true rfl⟩) ⟨PcT_blind, hg_recv hK o_c_286 rfl, PcT_pre hK hH⟩ rfl rfl hl.1 rfl (lv_room (Nat.le_of_ble_eq_true rfl)) dX12_act_128 ⟨Nat.zero_le _, Nat.zero_le _⟩) hS (fun q _ h => AF.mono hS.1 h) (fun q h => AF.mono hS.1 h) (fun x_294 ux_294 t H locs ht hvm hx_294 hB hz hk hS => ?_)
              obtain ⟨eTx_294, eGx_294⟩ := hx_294
              obtain ⟨G_295, eG_295⟩ : ∃ z, z = ux_294.2 := ⟨_, rfl⟩
              rw [← eG_295] at eGx_294
              obtain ⟨hfr_296, hex_297⟩ := eGx_294
              have fr_298 : FR [107, 108, 109, 110, 114, 127, 128, 118, 119, 120] [(g.2.2 100), (g.2.2 115), (g.2.2 125), (g.2.2 126), (g.2.2 129)] [106] G G_295 := FR.tr fr_271 hfr_296 (by decide) (fun b h => ⟨h.1, h.2.1, trivial⟩) (by decide)
              have u_299 : G_295.1 113 = (G.1 113) := (hfr_296.1 113 (by decide)).trans u_272
              have u_300 : G_295.1 118 = x_279 := (hfr_296.1 118 (by decide)).trans ex_279
              have u_301 : G_295.1 119 = x_280 := (hfr_296.1 119 (by decide)).trans ex_280
              have u_302 : G_295.1 120 = x_281 := (hfr_296.1 120 (by decide)).trans ex_281
              have w_303 : G_295.2.1 (g.2.2 116) = (G.2.1 (g.2.2 116)) := (hfr_296.2.1 (g.2.2 116) ⟨(ne_kd hmk.2.2.2.2.1 hmk.1 (by decide)), (ne_kd hmk.2.2.2.2.1 hmk.2.2.2.1 (by decide)), trivial⟩).trans w_274
              have w_304 : G_295.2.1 (g.2.2 130) = (G.2.1 (g.2.2 130)) := (hfr_296.2.1 (g.2.2 130) ⟨(ne_kd hmk.2.2.2.2.2.2.2.2.2.2.2.1 hmk.1 (by decide)), (ne_kd hmk.2.2.2.2.2.2.2.2.2.2.2.1 hmk.2.2.2.1 (by decide)), trivial⟩).trans w_275
              have w_305 : G_295.2.1 (g.2.2 111) = (G.2.1 (g.2.2 111)) := (hfr_296.2.1 (g.2.2 111) ⟨(ne_kd hmk.2.2.2.2.2.2.2.2.2.2.2.2.2.2.2.2.2.2.2.2.1 hmk.1 (by decide)), (ne_kd hmk.2.2.2.2.2.2.2.2.2.2.2.2.2.2.2.2.2.2.2.2.1 hmk.2.2.2.1 (by decide)), trivial⟩).trans w_276
              have w_306 : G_295.2.1 (g.2.2 129) = (G.2.1 (g.2.2 129)) := (hfr_296.2.1 (g.2.2 129) ⟨(hLD 129 (by decide) 100 (by decide) (by decide)), (ne_kd hmk.2.2.2.2.2.2.2.2.2.2.1 hmk.2.2.2.1 (by decide)), trivial⟩).trans w_277
              have u_307 : G_295.2.2 111 = some (g.2.2 111) := (hfr_296.2.2 111 (by decide)).trans u_278
              obtain ⟨f_308, ef_308⟩ : ∃ z : Nat → Int32, G_295.2.1 (g.2.2 100) = z := ⟨_, rfl⟩
              have ti_309 := hex_297
              rw [ef_308] at ti_309
              have hH : HT g Ty G_295 H := by rw [← ht, ← eTx_294, eG_295]; exact hB
              refine lv_pop hx hb dX12_act_131 rfl ?_
              refine lv_iconst (v := 1) hx hb dX12_act_132 (by decide) ?_
              exact W.zret hx hb hr rfl (fun t ht hWm => ⟨⟨1, (Ty, G_295), rfl, ⟨rg_w rl_1 (by decide) (by decide), ⟨rfl, ⟨fr_298, (by rw [ef_308]; exact (TI.hi ti_309 (by omega)))⟩⟩⟩, by show HT g Ty G_295 t.heap; rw [ht]; exact hH⟩, hS.F ht⟩) hS.2.2 dX12_act_133
            · exact rg_noE r_263 rl_109 c_293 (by decide)
          · have r_310 : rgI (-3) (-1) x_289 := rg_w (rg_ltL rx_289 rl_0 (nle_lt c_291)) (by decide) (by decide)
            refine lv_iconst (v := 0) hx hb dX12_act_85 (by decide) ?_
            exact W.zret hx hb hr rfl (fun t ht hWm => ⟨⟨0, (Ty, G_268), rfl, ⟨rg_w rl_0 (by decide) (by decide), ⟨rfl, ⟨fr_271, (by rw [w_273]; exact (hTI.hi (by omega)))⟩⟩⟩, by show HT g Ty G_268 t.heap; rw [ht]; exact hH⟩, hS.F ht⟩) hS.2.2 dX12_act_86
        · exact rg_noE r_263 rl_109 c_285 (by decide)
      · have r_311 : rgI (0) (0) x_267 := rg_w (rg_eq rl_0 c_283) (by decide) (by decide)
        refine lv_iconst (v := 0) hx hb dX12_act_38 (by decide) ?_
        exact W.zret hx hb hr rfl (fun t ht hWm => ⟨⟨0, (Ty, G_268), rfl, ⟨rg_w rl_0 (by decide) (by decide), ⟨rfl, ⟨fr_271, (by rw [w_273]; exact (hTI.hi (by omega)))⟩⟩⟩, by show HT g Ty G_268 t.heap; rw [ht]; exact hH⟩, hS.F ht⟩) hS.2.2 dX12_act_39

set_option maxHeartbeats 4000000 in
set_option maxRecDepth 100000 in
theorem c_X12_day (l : Launch) (g : Gx) (Ty : TyM) (G : Gh) (sz : Nat) (h0 : Nat) (k_h0 : Ty h0 = some (22, 0)) (Bd : Int) (hI : OI g Bd G) (hBd : Bd ≤ 1900000) (hLD : LD g) : Met l yX12_day (wsG yX12_day cX12_day 3 (some .int)) ({ frames := 343, cells := 0, slots := 0, locals := 8050 }) (PcT g Ty G sz [.ref h0]) (QwI g Ty sz (fun r u => u.1 = Ty ∧ FR [102, 104, 105, 107, 108, 109, 110, 114, 117, 118, 119, 120, 122, 127, 128] [(g.2.2 116), (g.2.2 130), (g.2.2 100), (g.2.2 115), (g.2.2 125), (g.2.2 126), (g.2.2 129), (g.2.2 123), (g.2.2 121)] [106] G u.2 ∧ OI g (Bd + 3000) u.2 ∧ rgI 0 0 (u.2.1 102))) 0 0 (AF Ty sz) := by
  refine Met.ofW (cc := cX12_day) (maxL := 3) (ret := (some .int)) (by decide) rfl ?_
  intro p e s m args below meth c s₁ B hml hv
  obtain ⟨rfl, hsz, hK, hH⟩ := hv
  subst hsz
  have hx := B.exec
  have hb := B.bytes
  have hr := B.returns
  have hts := atoms_spec (ws := (wsG yX12_day cX12_day 3 (some .int))) B.pre
  have hG : ∀ w ∈ GW, w.before ([.ref h0] : List Value).toArray s = true := fun w h => hts w (List.mem_cons_of_mem _ h)
  have hown : s.vm.findClass RX12 = some m.cls := findClass_of_methodNamed B.named
  have hlocks := B.notSynchronized
  have hl := lv_entry [.ref h0] (n := 3) (Nat.le_of_ble_eq_true rfl)
  rw [lg_entry_eq]
  generalize (lg_sl [.ref h0] ++ List.replicate (3 - (lg_sl [.ref h0]).length) Slot.unset).toArray = ls at hl ⊢
  have hl : lv_has ls 3 [(0, .ref h0)] := hl
  have hmk : mdK g Ty := mdk_of hH k_h0
  have hS : va_S (AF Ty s.heap.size) s.heap s.heap [] := va_S.rf
  obtain ⟨⟨σ0, hTS0⟩, h10, hBB0⟩ := id hI.ti
  obtain ⟨ρ, hT⟩ := hTS0.1
  have L_77 : ∀ (n : Nat) (H : Heap) (locs : List Loc) (G_77 : Gh) (fl0_77 : Nat → Int32) (fl1_77 : Nat → Int32) (fl5_77 : Nat → Int32) (fl6_77 : Nat → Int32) (fl7_77 : Nat → Int32) (y1_77 : Int32) (y2_77 : Int32) (ls : Array Slot), rgI (0) (0) (G_77.1 102) → rgI (0) (32) (G_77.1 104) → rgI (0) (12) (G_77.1 122) → FR [102, 104, 105, 107, 108, 109, 110, 114, 117, 118, 119, 120, 122, 127, 128] [(g.2.2 116), (g.2.2 130), (g.2.2 100), (g.2.2 115), (g.2.2 125), (g.2.2 126), (g.2.2 129), (g.2.2 123), (g.2.2 121)] [106] G G_77 → G_77.2.1 (g.2.2 100) = fl0_77 → G_77.2.1 (g.2.2 121) = fl1_77 → G_77.2.1 (g.2.2 116) = fl5_77 → G_77.2.1 (g.2.2 130) = fl6_77 → G_77.2.1 (g.2.2 123) = fl7_77 → G_77.2.1 (g.2.2 121) = (G.2.1 (g.2.2 121)) → G_77.1 122 = G.1 122 → rgI (0) (80) y1_77 → rgI (0) (2147483647) y2_77 → TI (Bd + 25 * (y2_77 : Int32).toInt) fl0_77 → SR (G.2.1 (g.2.2 100)) fl7_77 → (∀ i : Nat, (i : Int) < (y1_77 : Int32).toInt → AOK fl5_77 fl6_77 ((G_77.1 117) : Int32).toInt (4 * i)) → (y2_77 : Int32).toInt ≤ (y1_77 : Int32).toInt → (80 - (y2_77).toInt).toNat < n → lv_has ls 3 [(0, .ref h0), (1, .int y1_77), (2, .int y2_77)] → HT g Ty G_77 H → va_S (AF Ty s.heap.size) s.heap H locs → Wm p l e (wsG yX12_day cX12_day 3 (some .int)) ({ frames := 343, cells := 0, slots := 0, locals := 8050 }) s m [.ref h0] below meth c H locs (0) (0) (QwI g Ty s.heap.size (fun r u => u.1 = Ty ∧ FR [102, 104, 105, 107, 108, 109, 110, 114, 117, 118, 119, 120, 122, 127, 128] [(g.2.2 116), (g.2.2 130), (g.2.2 100), (g.2.2 115), (g.2.2 125), (g.2.2 126), (g.2.2 129), (g.2.2 123), (g.2.2 121)] [106] G u.2 ∧ OI g (Bd + 3000) u.2 ∧ rgI 0 0 (u.2.1 102))) 0 0 (AF Ty s.heap.size) (F0 m 77 ls []) := by
    intro n
    induction n with
    | zero => intro H locs G_77 fl0_77 fl1_77 fl5_77 fl6_77 fl7_77 y1_77 y2_77 ls rg102_77 rg104_77 rg122_77 frL_77 efl0_77 efl1_77 efl5_77 efl6_77 efl7_77 ls0_77 ln_77 ry1_77 ry2_77 hi0_77 hi1_77 hi2_77 hi3_77 hm; exact absurd hm (Nat.not_lt_zero _)
    | succ n ih_77 =>
      intro H locs G_77 fl0_77 fl1_77 fl5_77 fl6_77 fl7_77 y1_77 y2_77 ls rg102_77 rg104_77 rg122_77 frL_77 efl0_77 efl1_77 efl5_77 efl6_77 efl7_77 ls0_77 ln_77 ry1_77 ry2_77 hi0_77 hi1_77 hi2_77 hi3_77 hm_77 hl hH hS
      refine lv_iload_n hx hb dX12_day_77 rfl (lv_at hl 2 rfl) ?_
      refine lv_iload_n hx hb dX12_day_78 rfl (lv_at hl 1 rfl) ?_
      refine lv_icmp_ge (tgt := 98) hx hb dX12_day_79 (by decide) (fun c_1 => ?_) (fun c_1 => ?_)
      · refine lv_iload_n hx hb dX12_day_98 rfl (lv_at hl 2 rfl) ?_
        refine lv_if_le (tgt := 110) hx hb dX12_day_99 (by decide) (fun c_2 => ?_) (fun c_2 => ?_)
        · have r_3 : rgI (0) (0) y2_77 := rg_w (rg_leL ry2_77 rl_0 c_2) (by decide) (by decide)
          refine lv_aload_n hx hb dX12_day_110 rfl (lv_at hl 0 rfl) ?_
          refine lv_iconst (v := 0) hx hb dX12_day_111 (by decide) ?_
          obtain ⟨_, ⟨rfl, t_5, hk_6⟩, o_c_4⟩ := hH h0 _ k_h0
          refine hg_put (ty := .int) hx hb hG igX12 tyX12 tyX12_ok nmX12 hown hK hS o_c_4 (AF.of k_h0) rfl 4 (by decide) (hG _ mw_1288) rfl (by decide +kernel) rfl rfl (Nat.le_of_ble_eq_true rfl) dX12_day_112 (fun H locs o_c_4 hz oq hS => ?_)
          obtain ⟨G_7, eG_7⟩ : ∃ z : Gh, z = gset G_77 104 0 := ⟨_, rfl⟩
          have hH : HT g Ty G_7 H := by rw [eG_7]; exact HT.putN 104 0 hH k_h0 ⟨rfl, t_5, hk_6⟩ o_c_4 oq (Or.inr (Or.inr (Or.inr (Or.inr (Or.inr ⟨by decide, t_5⟩)))))
          have fr_8 : FR [102, 104, 105, 107, 108, 109, 110, 114, 117, 118, 119, 120, 122, 127, 128] [(g.2.2 116), (g.2.2 130), (g.2.2 100), (g.2.2 115), (g.2.2 125), (g.2.2 126), (g.2.2 129), (g.2.2 123), (g.2.2 121)] [106] G G_7 := FR.n frL_77 eG_7 (by decide)
          have u_9 : G_7.1 102 = (G_77.1 102) := by rw [eG_7]; exact (gs_ne (by decide))
          have u_10 : G_7.1 122 = (G.1 122) := by rw [eG_7]; exact (gs_ne (by decide)).trans ln_77
          have u_11 : G_7.1 113 = (G.1 113) := by rw [eG_7]; exact (gs_ne (by decide)).trans (frL_77.1 113 (by decide))
          have u_12 : G_7.1 133 = (G.1 133) := by rw [eG_7]; exact (gs_ne (by decide)).trans (frL_77.1 133 (by decide))
          have u_13 : G_7.1 137 = (G.1 137) := by rw [eG_7]; exact (gs_ne (by decide)).trans (frL_77.1 137 (by decide))
          have u_14 : G_7.1 107 = (G_77.1 107) := by rw [eG_7]; exact (gs_ne (by decide))
          have u_15 : G_7.1 108 = (G_77.1 108) := by rw [eG_7]; exact (gs_ne (by decide))
          have u_16 : G_7.1 109 = (G_77.1 109) := by rw [eG_7]; exact (gs_ne (by decide))
          have u_17 : G_7.1 110 = (G_77.1 110) := by rw [eG_7]; exact (gs_ne (by decide))
          have u_18 : G_7.1 117 = (G_77.1 117) := by rw [eG_7]; exact (gs_ne (by decide))
          have u_19 : G_7.1 118 = (G_77.1 118) := by rw [eG_7]; exact (gs_ne (by decide))
          have u_20 : G_7.1 119 = (G_77.1 119) := by rw [eG_7]; exact (gs_ne (by decide))
          have u_21 : G_7.1 120 = (G_77.1 120) := by rw [eG_7]; exact (gs_ne (by decide))
          have u_22 : G_7.1 104 = 0 := by rw [eG_7]; exact gs_eq
          have w_23 : G_7.2.1 (g.2.2 100) = fl0_77 := by rw [eG_7]; exact efl0_77
          have w_24 : G_7.2.1 (g.2.2 121) = (G.2.1 (g.2.2 121)) := by rw [eG_7]; exact ls0_77
          have w_25 : G_7.2.1 (g.2.2 140) = (G.2.1 (g.2.2 140)) := by rw [eG_7]; exact (frL_77.2.1 (g.2.2 140) ⟨(ne_kd hmk.2.2.2.2.2.2.2.2.2.2.2.2.2.2.2.2.2.2.1 hmk.2.2.2.2.1 (by decide)), (ne_kd hmk.2.2.2.2.2.2.2.2.2.2.2.2.2.2.2.2.2.2.1 hmk.2.2.2.2.2.2.2.2.2.2.2.1 (by decide)), (ne_kd hmk.2.2.2.2.2.2.2.2.2.2.2.2.2.2.2.2.2.2.1 hmk.1 (by decide)), (ne_kd hmk.2.2.2.2.2.2.2.2.2.2.2.2.2.2.2.2.2.2.1 hmk.2.2.2.1 (by decide)), (ne_kd hmk.2.2.2.2.2.2.2.2.2.2.2.2.2.2.2.2.2.2.1 hmk.2.2.2.2.2.2.2.2.1 (by decide)), (ne_kd hmk.2.2.2.2.2.2.2.2.2.2.2.2.2.2.2.2.2.2.1 hmk.2.2.2.2.2.2.2.2.2.1 (by decide)), (ne_kd hmk.2.2.2.2.2.2.2.2.2.2.2.2.2.2.2.2.2.2.1 hmk.2.2.2.2.2.2.2.2.2.2.1 (by decide)), (ne_kd hmk.2.2.2.2.2.2.2.2.2.2.2.2.2.2.2.2.2.2.1 hmk.2.2.2.2.2.2.1 (by decide)), (ne_kd hmk.2.2.2.2.2.2.2.2.2.2.2.2.2.2.2.2.2.2.1 hmk.2.2.2.2.2.1 (by decide)), trivial⟩)
          have w_26 : G_7.2.1 (g.2.2 141) = (G.2.1 (g.2.2 141)) := by rw [eG_7]; exact (frL_77.2.1 (g.2.2 141) ⟨(ne_kd hmk.2.2.2.2.2.2.2.2.2.2.2.2.2.2.2.2.2.2.2.1 hmk.2.2.2.2.1 (by decide)), (ne_kd hmk.2.2.2.2.2.2.2.2.2.2.2.2.2.2.2.2.2.2.2.1 hmk.2.2.2.2.2.2.2.2.2.2.2.1 (by decide)), (ne_kd hmk.2.2.2.2.2.2.2.2.2.2.2.2.2.2.2.2.2.2.2.1 hmk.1 (by decide)), (ne_kd hmk.2.2.2.2.2.2.2.2.2.2.2.2.2.2.2.2.2.2.2.1 hmk.2.2.2.1 (by decide)), (ne_kd hmk.2.2.2.2.2.2.2.2.2.2.2.2.2.2.2.2.2.2.2.1 hmk.2.2.2.2.2.2.2.2.1 (by decide)), (ne_kd hmk.2.2.2.2.2.2.2.2.2.2.2.2.2.2.2.2.2.2.2.1 hmk.2.2.2.2.2.2.2.2.2.1 (by decide)), (ne_kd hmk.2.2.2.2.2.2.2.2.2.2.2.2.2.2.2.2.2.2.2.1 hmk.2.2.2.2.2.2.2.2.2.2.1 (by decide)), (ne_kd hmk.2.2.2.2.2.2.2.2.2.2.2.2.2.2.2.2.2.2.2.1 hmk.2.2.2.2.2.2.1 (by decide)), (ne_kd hmk.2.2.2.2.2.2.2.2.2.2.2.2.2.2.2.2.2.2.2.1 hmk.2.2.2.2.2.1 (by decide)), trivial⟩)
          have w_27 : G_7.2.1 (g.2.2 111) = (G.2.1 (g.2.2 111)) := by rw [eG_7]; exact (frL_77.2.1 (g.2.2 111) ⟨(ne_kd hmk.2.2.2.2.2.2.2.2.2.2.2.2.2.2.2.2.2.2.2.2.1 hmk.2.2.2.2.1 (by decide)), (ne_kd hmk.2.2.2.2.2.2.2.2.2.2.2.2.2.2.2.2.2.2.2.2.1 hmk.2.2.2.2.2.2.2.2.2.2.2.1 (by decide)), (ne_kd hmk.2.2.2.2.2.2.2.2.2.2.2.2.2.2.2.2.2.2.2.2.1 hmk.1 (by decide)), (ne_kd hmk.2.2.2.2.2.2.2.2.2.2.2.2.2.2.2.2.2.2.2.2.1 hmk.2.2.2.1 (by decide)), (ne_kd hmk.2.2.2.2.2.2.2.2.2.2.2.2.2.2.2.2.2.2.2.2.1 hmk.2.2.2.2.2.2.2.2.1 (by decide)), (ne_kd hmk.2.2.2.2.2.2.2.2.2.2.2.2.2.2.2.2.2.2.2.2.1 hmk.2.2.2.2.2.2.2.2.2.1 (by decide)), (ne_kd hmk.2.2.2.2.2.2.2.2.2.2.2.2.2.2.2.2.2.2.2.2.1 hmk.2.2.2.2.2.2.2.2.2.2.1 (by decide)), (ne_kd hmk.2.2.2.2.2.2.2.2.2.2.2.2.2.2.2.2.2.2.2.2.1 hmk.2.2.2.2.2.2.1 (by decide)), (ne_kd hmk.2.2.2.2.2.2.2.2.2.2.2.2.2.2.2.2.2.2.2.2.1 hmk.2.2.2.2.2.1 (by decide)), trivial⟩)
          have w_28 : G_7.2.1 (g.2.2 116) = fl5_77 := by rw [eG_7]; exact efl5_77
          have w_29 : G_7.2.1 (g.2.2 130) = fl6_77 := by rw [eG_7]; exact efl6_77
          have w_30 : G_7.2.1 (g.2.2 123) = fl7_77 := by rw [eG_7]; exact efl7_77
          have u_31 : G_7.2.2 111 = some (g.2.2 111) := by rw [eG_7]; exact ((frL_77.2.2 111 (by decide)).trans hI.r111)
          have u_32 : G_7.2.2 112 = some (g.2.2 112) := by rw [eG_7]; exact ((frL_77.2.2 112 (by decide)).trans hI.r112)
          clear oq hz
          refine lv_aload_n hx hb dX12_day_115 rfl (lv_at hl 0 rfl) ?_
          refine lv_iload_n hx hb dX12_day_116 rfl (lv_at hl 2 rfl) ?_
          refine lv_iload_n hx hb dX12_day_117 rfl (lv_at hl 1 rfl) ?_
          refine lv_icmp_ge (tgt := 125) hx hb dX12_day_118 (by decide) (fun c_33 => ?_) (fun c_33 => ?_)
          · have r_34 : rgI (0) (0) y1_77 := rg_w (rg_leL ry1_77 r_3 c_33) (by decide) (by decide)
            refine lv_lconst (v := 0) hx hb dX12_day_125 (by decide) ?_
            obtain ⟨_, ⟨rfl, t_36, hk_37⟩, o_c_35⟩ := hH h0 _ k_h0
            refine va_callv (va_runV (As := [.long 0]) (rest := []) ⟨hx, hb, hml, hown, hts⟩ (c_X12_tell l g Ty G_7 H.size h0 0 k_h0 (by rw [u_22]; exact rg_w rl_0 (by decide) (by decide))) (cwV 1 hts (gwV mw_1510 mw_1512 mw_48 mw_88 mw_1513) rfl rfl rfl hv_X12_tell ⟨Nat.le_of_ble_eq_true rfl, Nat.le_of_ble_eq_true rfl⟩) ⟨PcT_blind, hg_recv hK o_c_35 rfl, PcT_pre hK hH⟩ rfl rfl hl.1 rfl (lv_room (Nat.le_of_ble_eq_true rfl)) dX12_day_126 ⟨Nat.zero_le _, Nat.zero_le _⟩) hS (fun q _ h => AF.mono hS.1 h) (fun q h => AF.mono hS.1 h) (fun ux_38 t H locs ht hvm hx_38 hB hz hk hS => ?_)
            obtain ⟨eTx_38, eGx_38⟩ := hx_38
            obtain ⟨G_39, eG_39⟩ : ∃ z, z = ux_38.2 := ⟨_, rfl⟩
            rw [← eG_39] at eGx_38
            obtain ⟨x_40, ex_40⟩ : ∃ z : Int32, z = 0 + 1 := ⟨_, rfl⟩
            have e_41 : G_39 = gset G_7 104 x_40 := by rw [ex_40, ← u_22]; exact eGx_38
            have rx_40 : rgI (1) (1) x_40 := by rw [ex_40]; exact rg_w (rg_add rl_0 rl_1 (by decide) (by decide)) (by decide) (by decide)
            have fr_42 : FR [102, 104, 105, 107, 108, 109, 110, 114, 117, 118, 119, 120, 122, 127, 128] [(g.2.2 116), (g.2.2 130), (g.2.2 100), (g.2.2 115), (g.2.2 125), (g.2.2 126), (g.2.2 129), (g.2.2 123), (g.2.2 121)] [106] G G_39 := FR.n fr_8 e_41 (by decide)
            have u_43 : G_39.1 102 = (G_77.1 102) := by rw [e_41]; exact (gs_ne (by decide)).trans u_9
            have u_44 : G_39.1 122 = (G.1 122) := by rw [e_41]; exact (gs_ne (by decide)).trans u_10
            have u_45 : G_39.1 113 = (G.1 113) := by rw [e_41]; exact (gs_ne (by decide)).trans u_11
            have u_46 : G_39.1 133 = (G.1 133) := by rw [e_41]; exact (gs_ne (by decide)).trans u_12
            have u_47 : G_39.1 137 = (G.1 137) := by rw [e_41]; exact (gs_ne (by decide)).trans u_13
            have u_48 : G_39.1 107 = (G_77.1 107) := by rw [e_41]; exact (gs_ne (by decide)).trans u_14
            have u_49 : G_39.1 108 = (G_77.1 108) := by rw [e_41]; exact (gs_ne (by decide)).trans u_15
            have u_50 : G_39.1 109 = (G_77.1 109) := by rw [e_41]; exact (gs_ne (by decide)).trans u_16
            have u_51 : G_39.1 110 = (G_77.1 110) := by rw [e_41]; exact (gs_ne (by decide)).trans u_17
            have u_52 : G_39.1 117 = (G_77.1 117) := by rw [e_41]; exact (gs_ne (by decide)).trans u_18
            have u_53 : G_39.1 118 = (G_77.1 118) := by rw [e_41]; exact (gs_ne (by decide)).trans u_19
            have u_54 : G_39.1 119 = (G_77.1 119) := by rw [e_41]; exact (gs_ne (by decide)).trans u_20
            have u_55 : G_39.1 120 = (G_77.1 120) := by rw [e_41]; exact (gs_ne (by decide)).trans u_21
            have u_56 : G_39.1 104 = x_40 := by rw [e_41]; exact gs_eq
            have w_57 : G_39.2.1 (g.2.2 100) = fl0_77 := by rw [e_41]; exact w_23
            have w_58 : G_39.2.1 (g.2.2 121) = (G.2.1 (g.2.2 121)) := by rw [e_41]; exact w_24
            have w_59 : G_39.2.1 (g.2.2 140) = (G.2.1 (g.2.2 140)) := by rw [e_41]; exact w_25
            have w_60 : G_39.2.1 (g.2.2 141) = (G.2.1 (g.2.2 141)) := by rw [e_41]; exact w_26
            have w_61 : G_39.2.1 (g.2.2 111) = (G.2.1 (g.2.2 111)) := by rw [e_41]; exact w_27
            have w_62 : G_39.2.1 (g.2.2 116) = fl5_77 := by rw [e_41]; exact w_28
            have w_63 : G_39.2.1 (g.2.2 130) = fl6_77 := by rw [e_41]; exact w_29
            have w_64 : G_39.2.1 (g.2.2 123) = fl7_77 := by rw [e_41]; exact w_30
            have u_65 : G_39.2.2 111 = some (g.2.2 111) := by rw [e_41]; exact u_31
            have u_66 : G_39.2.2 112 = some (g.2.2 112) := by rw [e_41]; exact u_32
            have hH : HT g Ty G_39 H := by rw [← ht, ← eTx_38, eG_39]; exact hB
            refine lv_aload_n hx hb dX12_day_129 rfl (lv_at hl 0 rfl) ?_
            refine lv_aload_n hx hb dX12_day_130 rfl (lv_at hl 0 rfl) ?_
            obtain ⟨_, ⟨rfl, t_68, hk_69⟩, o_c_67⟩ := hH h0 _ k_h0
            refine hg_get hx hb hG igX12 hown hK o_c_67 rfl 0 (by decide) (hG _ mw_1284) rfl dX12_day_131 ?_
            refine vp_callSi (W.runS (As := [.ref (g.2.2 100)]) (rest := [.ref h0]) ⟨hx, hb, hml, hown, hts⟩ (c_X12_thereOf l g Ty G_39 (g.2.2 100) (hk_69.1)) (cwSx 1 hts hG (gwC mw_1552) mw_88 mw_1550 mw_1551 rfl rfl rfl hd_X12_thereOf ⟨Nat.le_of_ble_eq_true rfl, Nat.le_of_ble_eq_true rfl⟩) ⟨PcH_blind, PcH_pre hK hH⟩ rfl rfl hl.1 rfl (lv_room (Nat.le_of_ble_eq_true rfl)) dX12_day_134 ⟨Nat.zero_le _, Nat.zero_le _⟩) (fun x_70 hx_70 => ?_)
            have ex_71 : x_70 = F_X12_thereOf fl0_77 := by rw [← w_57]; exact hx_70
            refine vp_callSi (W.runS (As := [.int x_70]) (rest := [.ref h0]) ⟨hx, hb, hml, hown, hts⟩ (c_J6_bitCount_x l g Ty G_39 x_70 ) (cwSx 1 hts hG (gwC mw_620) mw_99 mw_1553 mw_619 rfl rfl rfl hd_J6_bitCount_0f7a4 ⟨Nat.le_of_ble_eq_true rfl, Nat.le_of_ble_eq_true rfl⟩) ⟨PcH_blind, PcH_pre hK hH⟩ rfl rfl hl.1 rfl (lv_room (Nat.le_of_ble_eq_true rfl)) dX12_day_137 ⟨Nat.zero_le _, Nat.zero_le _⟩) (fun x_72 hx_72 => ?_)
            have rx_72 : rgI (0) (63) x_72 := hx_72.1
            refine lv_i2l hx hb dX12_day_140 rfl ?_
            refine lv_topl (fun u_73 eu_73 => ?_)
            refine va_callv (va_runV (As := [.long u_73]) (rest := []) ⟨hx, hb, hml, hown, hts⟩ (c_X12_tell l g Ty G_39 H.size h0 u_73 k_h0 (by rw [u_56]; exact rg_w rx_40 (by decide) (by decide))) (cwV 1 hts (gwV mw_1510 mw_1512 mw_48 mw_88 mw_1513) rfl rfl rfl hv_X12_tell ⟨Nat.le_of_ble_eq_true rfl, Nat.le_of_ble_eq_true rfl⟩) ⟨PcT_blind, hg_recv hK o_c_67 rfl, PcT_pre hK hH⟩ rfl rfl hl.1 rfl (lv_room (Nat.le_of_ble_eq_true rfl)) dX12_day_141 ⟨Nat.zero_le _, Nat.zero_le _⟩) hS (fun q _ h => AF.mono hS.1 h) (fun q h => AF.mono hS.1 h) (fun ux_74 t H locs ht hvm hx_74 hB hz hk hS => ?_)
            obtain ⟨eTx_74, eGx_74⟩ := hx_74
            obtain ⟨G_75, eG_75⟩ : ∃ z, z = ux_74.2 := ⟨_, rfl⟩
            rw [← eG_75] at eGx_74
            obtain ⟨x_76, ex_76⟩ : ∃ z : Int32, z = x_40 + 1 := ⟨_, rfl⟩
            have e_77 : G_75 = gset G_39 104 x_76 := by rw [ex_76, ← u_56]; exact eGx_74
            have rx_76 : rgI (2) (2) x_76 := by rw [ex_76]; exact rg_w (rg_add rx_40 rl_1 (by decide) (by decide)) (by decide) (by decide)
            have fr_78 : FR [102, 104, 105, 107, 108, 109, 110, 114, 117, 118, 119, 120, 122, 127, 128] [(g.2.2 116), (g.2.2 130), (g.2.2 100), (g.2.2 115), (g.2.2 125), (g.2.2 126), (g.2.2 129), (g.2.2 123), (g.2.2 121)] [106] G G_75 := FR.n fr_42 e_77 (by decide)
            have u_79 : G_75.1 102 = (G_77.1 102) := by rw [e_77]; exact (gs_ne (by decide)).trans u_43
            have u_80 : G_75.1 122 = (G.1 122) := by rw [e_77]; exact (gs_ne (by decide)).trans u_44
            have u_81 : G_75.1 113 = (G.1 113) := by rw [e_77]; exact (gs_ne (by decide)).trans u_45
            have u_82 : G_75.1 133 = (G.1 133) := by rw [e_77]; exact (gs_ne (by decide)).trans u_46
            have u_83 : G_75.1 137 = (G.1 137) := by rw [e_77]; exact (gs_ne (by decide)).trans u_47
            have u_84 : G_75.1 107 = (G_77.1 107) := by rw [e_77]; exact (gs_ne (by decide)).trans u_48
            have u_85 : G_75.1 108 = (G_77.1 108) := by rw [e_77]; exact (gs_ne (by decide)).trans u_49
            have u_86 : G_75.1 109 = (G_77.1 109) := by rw [e_77]; exact (gs_ne (by decide)).trans u_50
            have u_87 : G_75.1 110 = (G_77.1 110) := by rw [e_77]; exact (gs_ne (by decide)).trans u_51
            have u_88 : G_75.1 117 = (G_77.1 117) := by rw [e_77]; exact (gs_ne (by decide)).trans u_52
            have u_89 : G_75.1 118 = (G_77.1 118) := by rw [e_77]; exact (gs_ne (by decide)).trans u_53
            have u_90 : G_75.1 119 = (G_77.1 119) := by rw [e_77]; exact (gs_ne (by decide)).trans u_54
            have u_91 : G_75.1 120 = (G_77.1 120) := by rw [e_77]; exact (gs_ne (by decide)).trans u_55
            have u_92 : G_75.1 104 = x_76 := by rw [e_77]; exact gs_eq
            have w_93 : G_75.2.1 (g.2.2 100) = fl0_77 := by rw [e_77]; exact w_57
            have w_94 : G_75.2.1 (g.2.2 121) = (G.2.1 (g.2.2 121)) := by rw [e_77]; exact w_58
            have w_95 : G_75.2.1 (g.2.2 140) = (G.2.1 (g.2.2 140)) := by rw [e_77]; exact w_59
            have w_96 : G_75.2.1 (g.2.2 141) = (G.2.1 (g.2.2 141)) := by rw [e_77]; exact w_60
            have w_97 : G_75.2.1 (g.2.2 111) = (G.2.1 (g.2.2 111)) := by rw [e_77]; exact w_61
            have w_98 : G_75.2.1 (g.2.2 116) = fl5_77 := by rw [e_77]; exact w_62
            have w_99 : G_75.2.1 (g.2.2 130) = fl6_77 := by rw [e_77]; exact w_63
            have w_100 : G_75.2.1 (g.2.2 123) = fl7_77 := by rw [e_77]; exact w_64
            have u_101 : G_75.2.2 111 = some (g.2.2 111) := by rw [e_77]; exact u_65
            have u_102 : G_75.2.2 112 = some (g.2.2 112) := by rw [e_77]; exact u_66
            have hH : HT g Ty G_75 H := by rw [← ht, ← eTx_74, eG_75]; exact hB
            refine lv_iload_n hx hb dX12_day_144 rfl (lv_at hl 2 rfl) ?_
            exact W.iret hx hb hr (fun t ht hWm => ⟨⟨y2_77, (Ty, G_75), rfl, ⟨rfl, ⟨fr_78, ⟨⟨(by rw [u_79]; exact (rg_w rg102_77 (by decide) (by decide))), (by rw [u_92]; exact (rg_w rx_76 (by decide) (by decide))), (by rw [u_81]; exact (rg_w hI.a113 (by decide) (by decide))), (by rw [u_80]; exact (rg_w hI.a122 (by decide) (by decide))), (by rw [u_82]; exact (rg_w hI.a133 (by decide) (by decide))), (by rw [u_83]; exact (rg_w hI.a137 (by decide) (by decide))), u_101, u_102, (by rw [w_93]; exact (TI.hi (TI.hi hi0_77 (show _ ≤ Bd + 2500 by have q := hi3_77; have q2 := (ry1_77).2; omega)) (by omega))), (hI.un2 (show Bd ≤ Bd + 3000 by omega) w_94 u_80), (hI.ke2 (show Bd ≤ Bd + 3000 by omega) w_95 w_96)⟩, (by rw [u_79]; exact (rg_w rg102_77 (by decide) (by decide)))⟩⟩⟩, by show HT g Ty G_75 t.heap; rw [ht]; exact hH⟩, hS.F ht⟩) hS.2.2 dX12_day_145
          · have r_103 : rgI (1) (80) y1_77 := rg_w (rg_ltR r_3 ry1_77 (nle_lt c_33)) (by decide) (by decide)
            refine lv_lconst (v := 1) hx hb dX12_day_121 (by decide) ?_
            refine lv_goto (tgt := 126) hx hb dX12_day_122 (by decide) ?_
            obtain ⟨_, ⟨rfl, t_105, hk_106⟩, o_c_104⟩ := hH h0 _ k_h0
            refine va_callv (va_runV (As := [.long 1]) (rest := []) ⟨hx, hb, hml, hown, hts⟩ (c_X12_tell l g Ty G_7 H.size h0 1 k_h0 (by rw [u_22]; exact rg_w rl_0 (by decide) (by decide))) (cwV 1 hts (gwV mw_1510 mw_1512 mw_48 mw_88 mw_1513) rfl rfl rfl hv_X12_tell ⟨Nat.le_of_ble_eq_true rfl, Nat.le_of_ble_eq_true rfl⟩) ⟨PcT_blind, hg_recv hK o_c_104 rfl, PcT_pre hK hH⟩ rfl rfl hl.1 rfl (lv_room (Nat.le_of_ble_eq_true rfl)) dX12_day_126 ⟨Nat.zero_le _, Nat.zero_le _⟩) hS (fun q _ h => AF.mono hS.1 h) (fun q h => AF.mono hS.1 h) (fun ux_107 t H locs ht hvm hx_107 hB hz hk hS => ?_)
            obtain ⟨eTx_107, eGx_107⟩ := hx_107
            obtain ⟨G_108, eG_108⟩ : ∃ z, z = ux_107.2 := ⟨_, rfl⟩
            rw [← eG_108] at eGx_107
            obtain ⟨x_109, ex_109⟩ : ∃ z : Int32, z = 0 + 1 := ⟨_, rfl⟩
            have e_110 : G_108 = gset G_7 104 x_109 := by rw [ex_109, ← u_22]; exact eGx_107
            have rx_109 : rgI (1) (1) x_109 := by rw [ex_109]; exact rg_w (rg_add rl_0 rl_1 (by decide) (by decide)) (by decide) (by decide)
            have fr_111 : FR [102, 104, 105, 107, 108, 109, 110, 114, 117, 118, 119, 120, 122, 127, 128] [(g.2.2 116), (g.2.2 130), (g.2.2 100), (g.2.2 115), (g.2.2 125), (g.2.2 126), (g.2.2 129), (g.2.2 123), (g.2.2 121)] [106] G G_108 := FR.n fr_8 e_110 (by decide)
            have u_112 : G_108.1 102 = (G_77.1 102) := by rw [e_110]; exact (gs_ne (by decide)).trans u_9
            have u_113 : G_108.1 122 = (G.1 122) := by rw [e_110]; exact (gs_ne (by decide)).trans u_10
            have u_114 : G_108.1 113 = (G.1 113) := by rw [e_110]; exact (gs_ne (by decide)).trans u_11
            have u_115 : G_108.1 133 = (G.1 133) := by rw [e_110]; exact (gs_ne (by decide)).trans u_12
            have u_116 : G_108.1 137 = (G.1 137) := by rw [e_110]; exact (gs_ne (by decide)).trans u_13
            have u_117 : G_108.1 107 = (G_77.1 107) := by rw [e_110]; exact (gs_ne (by decide)).trans u_14
            have u_118 : G_108.1 108 = (G_77.1 108) := by rw [e_110]; exact (gs_ne (by decide)).trans u_15
            have u_119 : G_108.1 109 = (G_77.1 109) := by rw [e_110]; exact (gs_ne (by decide)).trans u_16
            have u_120 : G_108.1 110 = (G_77.1 110) := by rw [e_110]; exact (gs_ne (by decide)).trans u_17
            have u_121 : G_108.1 117 = (G_77.1 117) := by rw [e_110]; exact (gs_ne (by decide)).trans u_18
            have u_122 : G_108.1 118 = (G_77.1 118) := by rw [e_110]; exact (gs_ne (by decide)).trans u_19
            have u_123 : G_108.1 119 = (G_77.1 119) := by rw [e_110]; exact (gs_ne (by decide)).trans u_20
            have u_124 : G_108.1 120 = (G_77.1 120) := by rw [e_110]; exact (gs_ne (by decide)).trans u_21
            have u_125 : G_108.1 104 = x_109 := by rw [e_110]; exact gs_eq
            have w_126 : G_108.2.1 (g.2.2 100) = fl0_77 := by rw [e_110]; exact w_23
            have w_127 : G_108.2.1 (g.2.2 121) = (G.2.1 (g.2.2 121)) := by rw [e_110]; exact w_24
            have w_128 : G_108.2.1 (g.2.2 140) = (G.2.1 (g.2.2 140)) := by rw [e_110]; exact w_25
            have w_129 : G_108.2.1 (g.2.2 141) = (G.2.1 (g.2.2 141)) := by rw [e_110]; exact w_26
            have w_130 : G_108.2.1 (g.2.2 111) = (G.2.1 (g.2.2 111)) := by rw [e_110]; exact w_27
            have w_131 : G_108.2.1 (g.2.2 116) = fl5_77 := by rw [e_110]; exact w_28
            have w_132 : G_108.2.1 (g.2.2 130) = fl6_77 := by rw [e_110]; exact w_29
            have w_133 : G_108.2.1 (g.2.2 123) = fl7_77 := by rw [e_110]; exact w_30
            have u_134 : G_108.2.2 111 = some (g.2.2 111) := by rw [e_110]; exact u_31
            have u_135 : G_108.2.2 112 = some (g.2.2 112) := by rw [e_110]; exact u_32
            have hH : HT g Ty G_108 H := by rw [← ht, ← eTx_107, eG_108]; exact hB
            refine lv_aload_n hx hb dX12_day_129 rfl (lv_at hl 0 rfl) ?_
            refine lv_aload_n hx hb dX12_day_130 rfl (lv_at hl 0 rfl) ?_
            obtain ⟨_, ⟨rfl, t_137, hk_138⟩, o_c_136⟩ := hH h0 _ k_h0
            refine hg_get hx hb hG igX12 hown hK o_c_136 rfl 0 (by decide) (hG _ mw_1284) rfl dX12_day_131 ?_
            refine vp_callSi (W.runS (As := [.ref (g.2.2 100)]) (rest := [.ref h0]) ⟨hx, hb, hml, hown, hts⟩ (c_X12_thereOf l g Ty G_108 (g.2.2 100) (hk_138.1)) (cwSx 1 hts hG (gwC mw_1552) mw_88 mw_1550 mw_1551 rfl rfl rfl hd_X12_thereOf ⟨Nat.le_of_ble_eq_true rfl, Nat.le_of_ble_eq_true rfl⟩) ⟨PcH_blind, PcH_pre hK hH⟩ rfl rfl hl.1 rfl (lv_room (Nat.le_of_ble_eq_true rfl)) dX12_day_134 ⟨Nat.zero_le _, Nat.zero_le _⟩) (fun x_139 hx_139 => ?_)
            have ex_140 : x_139 = F_X12_thereOf fl0_77 := by rw [← w_126]; exact hx_139
            refine vp_callSi (W.runS (As := [.int x_139]) (rest := [.ref h0]) ⟨hx, hb, hml, hown, hts⟩ (c_J6_bitCount_x l g Ty G_108 x_139 ) (cwSx 1 hts hG (gwC mw_620) mw_99 mw_1553 mw_619 rfl rfl rfl hd_J6_bitCount_0f7a4 ⟨Nat.le_of_ble_eq_true rfl, Nat.le_of_ble_eq_true rfl⟩) ⟨PcH_blind, PcH_pre hK hH⟩ rfl rfl hl.1 rfl (lv_room (Nat.le_of_ble_eq_true rfl)) dX12_day_137 ⟨Nat.zero_le _, Nat.zero_le _⟩) (fun x_141 hx_141 => ?_)
            have rx_141 : rgI (0) (63) x_141 := hx_141.1
            refine lv_i2l hx hb dX12_day_140 rfl ?_
            refine lv_topl (fun u_142 eu_142 => ?_)
            refine va_callv (va_runV (As := [.long u_142]) (rest := []) ⟨hx, hb, hml, hown, hts⟩ (c_X12_tell l g Ty G_108 H.size h0 u_142 k_h0 (by rw [u_125]; exact rg_w rx_109 (by decide) (by decide))) (cwV 1 hts (gwV mw_1510 mw_1512 mw_48 mw_88 mw_1513) rfl rfl rfl hv_X12_tell ⟨Nat.le_of_ble_eq_true rfl, Nat.le_of_ble_eq_true rfl⟩) ⟨PcT_blind, hg_recv hK o_c_136 rfl, PcT_pre hK hH⟩ rfl rfl hl.1 rfl (lv_room (Nat.le_of_ble_eq_true rfl)) dX12_day_141 ⟨Nat.zero_le _, Nat.zero_le _⟩) hS (fun q _ h => AF.mono hS.1 h) (fun q h => AF.mono hS.1 h) (fun ux_143 t H locs ht hvm hx_143 hB hz hk hS => ?_)
            obtain ⟨eTx_143, eGx_143⟩ := hx_143
            obtain ⟨G_144, eG_144⟩ : ∃ z, z = ux_143.2 := ⟨_, rfl⟩
            rw [← eG_144] at eGx_143
            obtain ⟨x_145, ex_145⟩ : ∃ z : Int32, z = x_109 + 1 := ⟨_, rfl⟩
            have e_146 : G_144 = gset G_108 104 x_145 := by rw [ex_145, ← u_125]; exact eGx_143
            have rx_145 : rgI (2) (2) x_145 := by rw [ex_145]; exact rg_w (rg_add rx_109 rl_1 (by decide) (by decide)) (by decide) (by decide)
            have fr_147 : FR [102, 104, 105, 107, 108, 109, 110, 114, 117, 118, 119, 120, 122, 127, 128] [(g.2.2 116), (g.2.2 130), (g.2.2 100), (g.2.2 115), (g.2.2 125), (g.2.2 126), (g.2.2 129), (g.2.2 123), (g.2.2 121)] [106] G G_144 := FR.n fr_111 e_146 (by decide)
            have u_148 : G_144.1 102 = (G_77.1 102) := by rw [e_146]; exact (gs_ne (by decide)).trans u_112
            have u_149 : G_144.1 122 = (G.1 122) := by rw [e_146]; exact (gs_ne (by decide)).trans u_113
            have u_150 : G_144.1 113 = (G.1 113) := by rw [e_146]; exact (gs_ne (by decide)).trans u_114
            have u_151 : G_144.1 133 = (G.1 133) := by rw [e_146]; exact (gs_ne (by decide)).trans u_115
            have u_152 : G_144.1 137 = (G.1 137) := by rw [e_146]; exact (gs_ne (by decide)).trans u_116
            have u_153 : G_144.1 107 = (G_77.1 107) := by rw [e_146]; exact (gs_ne (by decide)).trans u_117
            have u_154 : G_144.1 108 = (G_77.1 108) := by rw [e_146]; exact (gs_ne (by decide)).trans u_118
            have u_155 : G_144.1 109 = (G_77.1 109) := by rw [e_146]; exact (gs_ne (by decide)).trans u_119
            have u_156 : G_144.1 110 = (G_77.1 110) := by rw [e_146]; exact (gs_ne (by decide)).trans u_120
            have u_157 : G_144.1 117 = (G_77.1 117) := by rw [e_146]; exact (gs_ne (by decide)).trans u_121
            have u_158 : G_144.1 118 = (G_77.1 118) := by rw [e_146]; exact (gs_ne (by decide)).trans u_122
            have u_159 : G_144.1 119 = (G_77.1 119) := by rw [e_146]; exact (gs_ne (by decide)).trans u_123
            have u_160 : G_144.1 120 = (G_77.1 120) := by rw [e_146]; exact (gs_ne (by decide)).trans u_124
            have u_161 : G_144.1 104 = x_145 := by rw [e_146]; exact gs_eq
            have w_162 : G_144.2.1 (g.2.2 100) = fl0_77 := by rw [e_146]; exact w_126
            have w_163 : G_144.2.1 (g.2.2 121) = (G.2.1 (g.2.2 121)) := by rw [e_146]; exact w_127
            have w_164 : G_144.2.1 (g.2.2 140) = (G.2.1 (g.2.2 140)) := by rw [e_146]; exact w_128
            have w_165 : G_144.2.1 (g.2.2 141) = (G.2.1 (g.2.2 141)) := by rw [e_146]; exact w_129
            have w_166 : G_144.2.1 (g.2.2 111) = (G.2.1 (g.2.2 111)) := by rw [e_146]; exact w_130
            have w_167 : G_144.2.1 (g.2.2 116) = fl5_77 := by rw [e_146]; exact w_131
            have w_168 : G_144.2.1 (g.2.2 130) = fl6_77 := by rw [e_146]; exact w_132
            have w_169 : G_144.2.1 (g.2.2 123) = fl7_77 := by rw [e_146]; exact w_133
            have u_170 : G_144.2.2 111 = some (g.2.2 111) := by rw [e_146]; exact u_134
            have u_171 : G_144.2.2 112 = some (g.2.2 112) := by rw [e_146]; exact u_135
            have hH : HT g Ty G_144 H := by rw [← ht, ← eTx_143, eG_144]; exact hB
            refine lv_iload_n hx hb dX12_day_144 rfl (lv_at hl 2 rfl) ?_
            exact W.iret hx hb hr (fun t ht hWm => ⟨⟨y2_77, (Ty, G_144), rfl, ⟨rfl, ⟨fr_147, ⟨⟨(by rw [u_148]; exact (rg_w rg102_77 (by decide) (by decide))), (by rw [u_161]; exact (rg_w rx_145 (by decide) (by decide))), (by rw [u_150]; exact (rg_w hI.a113 (by decide) (by decide))), (by rw [u_149]; exact (rg_w hI.a122 (by decide) (by decide))), (by rw [u_151]; exact (rg_w hI.a133 (by decide) (by decide))), (by rw [u_152]; exact (rg_w hI.a137 (by decide) (by decide))), u_170, u_171, (by rw [w_162]; exact (TI.hi (TI.hi hi0_77 (show _ ≤ Bd + 2500 by have q := hi3_77; have q2 := (ry1_77).2; omega)) (by omega))), (hI.un2 (show Bd ≤ Bd + 3000 by omega) w_163 u_149), (hI.ke2 (show Bd ≤ Bd + 3000 by omega) w_164 w_165)⟩, (by rw [u_148]; exact (rg_w rg102_77 (by decide) (by decide)))⟩⟩⟩, by show HT g Ty G_144 t.heap; rw [ht]; exact hH⟩, hS.F ht⟩) hS.2.2 dX12_day_145
        · have r_172 : rgI (1) (2147483647) y2_77 := rg_w (rg_ltR rl_0 ry2_77 (nle_lt c_2)) (by decide) (by decide)
          refine lv_aload_n hx hb dX12_day_102 rfl (lv_at hl 0 rfl) ?_
          refine lv_aload_n hx hb dX12_day_103 rfl (lv_at hl 0 rfl) ?_
          obtain ⟨_, ⟨rfl, t_174, hk_175⟩, o_c_173⟩ := hH h0 _ k_h0
          refine hg_get hx hb hG igX12 hown hK o_c_173 rfl 23 (by decide) (hG _ mw_1307) rfl dX12_day_104 ?_
          refine va_callv (va_runV (As := [.ref (g.2.2 123)]) (rest := []) ⟨hx, hb, hml, hown, hts⟩ (c_X12_remember l g Ty G_77 H.size h0 (g.2.2 123) k_h0 (hk_175.2.2.2.2.2.2.1) Bd (by rw [efl7_77]; exact (SR_ti hi1_77 hI.ti)) (by rw [ln_77]; exact (rg_w hI.a122 (by decide) (by decide))) (by rw [ln_77, ls0_77]; exact hI.un)) (cwV 1 hts (gwV mw_1577 mw_1579 mw_53 mw_88 mw_1580) rfl rfl rfl hv_X12_remember ⟨Nat.le_of_ble_eq_true rfl, Nat.le_of_ble_eq_true rfl⟩) ⟨PcT_blind, hg_recv hK o_c_173 rfl, PcT_pre hK hH⟩ rfl rfl hl.1 rfl (lv_room (Nat.le_of_ble_eq_true rfl)) dX12_day_107 ⟨Nat.zero_le _, Nat.zero_le _⟩) hS (fun q _ h => AF.mono hS.1 h) (fun q h => AF.mono hS.1 h) (fun ux_176 t H locs ht hvm hx_176 hB hz hk hS => ?_)
          obtain ⟨eTx_176, eGx_176⟩ := hx_176
          obtain ⟨G_177, eG_177⟩ : ∃ z, z = ux_176.2 := ⟨_, rfl⟩
          rw [← eG_177] at eGx_176
          obtain ⟨hfr_178, hex_179⟩ := eGx_176
          have fr_180 : FR [102, 104, 105, 107, 108, 109, 110, 114, 117, 118, 119, 120, 122, 127, 128] [(g.2.2 116), (g.2.2 130), (g.2.2 100), (g.2.2 115), (g.2.2 125), (g.2.2 126), (g.2.2 129), (g.2.2 123), (g.2.2 121)] [106] G G_177 := FR.tr frL_77 hfr_178 (by decide) (fun b h => ⟨h.2.2.2.2.2.2.2.2.1, trivial⟩) (by decide)
          have u_181 : G_177.1 102 = (G_77.1 102) := (hfr_178.1 102 (by decide))
          have u_182 : G_177.1 104 = (G_77.1 104) := (hfr_178.1 104 (by decide))
          have u_183 : G_177.1 113 = (G.1 113) := (hfr_178.1 113 (by decide)).trans (frL_77.1 113 (by decide))
          have u_184 : G_177.1 133 = (G.1 133) := (hfr_178.1 133 (by decide)).trans (frL_77.1 133 (by decide))
          have u_185 : G_177.1 137 = (G.1 137) := (hfr_178.1 137 (by decide)).trans (frL_77.1 137 (by decide))
          have u_186 : G_177.1 107 = (G_77.1 107) := (hfr_178.1 107 (by decide))
          have u_187 : G_177.1 108 = (G_77.1 108) := (hfr_178.1 108 (by decide))
          have u_188 : G_177.1 109 = (G_77.1 109) := (hfr_178.1 109 (by decide))
          have u_189 : G_177.1 110 = (G_77.1 110) := (hfr_178.1 110 (by decide))
          have u_190 : G_177.1 117 = (G_77.1 117) := (hfr_178.1 117 (by decide))
          have u_191 : G_177.1 118 = (G_77.1 118) := (hfr_178.1 118 (by decide))
          have u_192 : G_177.1 119 = (G_77.1 119) := (hfr_178.1 119 (by decide))
          have u_193 : G_177.1 120 = (G_77.1 120) := (hfr_178.1 120 (by decide))
          have w_194 : G_177.2.1 (g.2.2 100) = fl0_77 := (hfr_178.2.1 (g.2.2 100) ⟨(ne_kd hmk.1 hmk.2.2.2.2.2.1 (by decide)), trivial⟩).trans efl0_77
          have w_195 : G_177.2.1 (g.2.2 140) = (G.2.1 (g.2.2 140)) := (hfr_178.2.1 (g.2.2 140) ⟨(ne_kd hmk.2.2.2.2.2.2.2.2.2.2.2.2.2.2.2.2.2.2.1 hmk.2.2.2.2.2.1 (by decide)), trivial⟩).trans (frL_77.2.1 (g.2.2 140) ⟨(ne_kd hmk.2.2.2.2.2.2.2.2.2.2.2.2.2.2.2.2.2.2.1 hmk.2.2.2.2.1 (by decide)), (ne_kd hmk.2.2.2.2.2.2.2.2.2.2.2.2.2.2.2.2.2.2.1 hmk.2.2.2.2.2.2.2.2.2.2.2.1 (by decide)), (ne_kd hmk.2.2.2.2.2.2.2.2.2.2.2.2.2.2.2.2.2.2.1 hmk.1 (by decide)), (ne_kd hmk.2.2.2.2.2.2.2.2.2.2.2.2.2.2.2.2.2.2.1 hmk.2.2.2.1 (by decide)), (ne_kd hmk.2.2.2.2.2.2.2.2.2.2.2.2.2.2.2.2.2.2.1 hmk.2.2.2.2.2.2.2.2.1 (by decide)), (ne_kd hmk.2.2.2.2.2.2.2.2.2.2.2.2.2.2.2.2.2.2.1 hmk.2.2.2.2.2.2.2.2.2.1 (by decide)), (ne_kd hmk.2.2.2.2.2.2.2.2.2.2.2.2.2.2.2.2.2.2.1 hmk.2.2.2.2.2.2.2.2.2.2.1 (by decide)), (ne_kd hmk.2.2.2.2.2.2.2.2.2.2.2.2.2.2.2.2.2.2.1 hmk.2.2.2.2.2.2.1 (by decide)), (ne_kd hmk.2.2.2.2.2.2.2.2.2.2.2.2.2.2.2.2.2.2.1 hmk.2.2.2.2.2.1 (by decide)), trivial⟩)
          have w_196 : G_177.2.1 (g.2.2 141) = (G.2.1 (g.2.2 141)) := (hfr_178.2.1 (g.2.2 141) ⟨(ne_kd hmk.2.2.2.2.2.2.2.2.2.2.2.2.2.2.2.2.2.2.2.1 hmk.2.2.2.2.2.1 (by decide)), trivial⟩).trans (frL_77.2.1 (g.2.2 141) ⟨(ne_kd hmk.2.2.2.2.2.2.2.2.2.2.2.2.2.2.2.2.2.2.2.1 hmk.2.2.2.2.1 (by decide)), (ne_kd hmk.2.2.2.2.2.2.2.2.2.2.2.2.2.2.2.2.2.2.2.1 hmk.2.2.2.2.2.2.2.2.2.2.2.1 (by decide)), (ne_kd hmk.2.2.2.2.2.2.2.2.2.2.2.2.2.2.2.2.2.2.2.1 hmk.1 (by decide)), (ne_kd hmk.2.2.2.2.2.2.2.2.2.2.2.2.2.2.2.2.2.2.2.1 hmk.2.2.2.1 (by decide)), (ne_kd hmk.2.2.2.2.2.2.2.2.2.2.2.2.2.2.2.2.2.2.2.1 hmk.2.2.2.2.2.2.2.2.1 (by decide)), (ne_kd hmk.2.2.2.2.2.2.2.2.2.2.2.2.2.2.2.2.2.2.2.1 hmk.2.2.2.2.2.2.2.2.2.1 (by decide)), (ne_kd hmk.2.2.2.2.2.2.2.2.2.2.2.2.2.2.2.2.2.2.2.1 hmk.2.2.2.2.2.2.2.2.2.2.1 (by decide)), (ne_kd hmk.2.2.2.2.2.2.2.2.2.2.2.2.2.2.2.2.2.2.2.1 hmk.2.2.2.2.2.2.1 (by decide)), (ne_kd hmk.2.2.2.2.2.2.2.2.2.2.2.2.2.2.2.2.2.2.2.1 hmk.2.2.2.2.2.1 (by decide)), trivial⟩)
          have w_197 : G_177.2.1 (g.2.2 111) = (G.2.1 (g.2.2 111)) := (hfr_178.2.1 (g.2.2 111) ⟨(ne_kd hmk.2.2.2.2.2.2.2.2.2.2.2.2.2.2.2.2.2.2.2.2.1 hmk.2.2.2.2.2.1 (by decide)), trivial⟩).trans (frL_77.2.1 (g.2.2 111) ⟨(ne_kd hmk.2.2.2.2.2.2.2.2.2.2.2.2.2.2.2.2.2.2.2.2.1 hmk.2.2.2.2.1 (by decide)), (ne_kd hmk.2.2.2.2.2.2.2.2.2.2.2.2.2.2.2.2.2.2.2.2.1 hmk.2.2.2.2.2.2.2.2.2.2.2.1 (by decide)), (ne_kd hmk.2.2.2.2.2.2.2.2.2.2.2.2.2.2.2.2.2.2.2.2.1 hmk.1 (by decide)), (ne_kd hmk.2.2.2.2.2.2.2.2.2.2.2.2.2.2.2.2.2.2.2.2.1 hmk.2.2.2.1 (by decide)), (ne_kd hmk.2.2.2.2.2.2.2.2.2.2.2.2.2.2.2.2.2.2.2.2.1 hmk.2.2.2.2.2.2.2.2.1 (by decide)), (ne_kd hmk.2.2.2.2.2.2.2.2.2.2.2.2.2.2.2.2.2.2.2.2.1 hmk.2.2.2.2.2.2.2.2.2.1 (by decide)), (ne_kd hmk.2.2.2.2.2.2.2.2.2.2.2.2.2.2.2.2.2.2.2.2.1 hmk.2.2.2.2.2.2.2.2.2.2.1 (by decide)), (ne_kd hmk.2.2.2.2.2.2.2.2.2.2.2.2.2.2.2.2.2.2.2.2.1 hmk.2.2.2.2.2.2.1 (by decide)), (ne_kd hmk.2.2.2.2.2.2.2.2.2.2.2.2.2.2.2.2.2.2.2.2.1 hmk.2.2.2.2.2.1 (by decide)), trivial⟩)
          have w_198 : G_177.2.1 (g.2.2 116) = fl5_77 := (hfr_178.2.1 (g.2.2 116) ⟨(ne_kd hmk.2.2.2.2.1 hmk.2.2.2.2.2.1 (by decide)), trivial⟩).trans efl5_77
          have w_199 : G_177.2.1 (g.2.2 130) = fl6_77 := (hfr_178.2.1 (g.2.2 130) ⟨(ne_kd hmk.2.2.2.2.2.2.2.2.2.2.2.1 hmk.2.2.2.2.2.1 (by decide)), trivial⟩).trans efl6_77
          have w_200 : G_177.2.1 (g.2.2 123) = fl7_77 := (hfr_178.2.1 (g.2.2 123) ⟨(ne_kd hmk.2.2.2.2.2.2.1 hmk.2.2.2.2.2.1 (by decide)), trivial⟩).trans efl7_77
          have u_201 : G_177.2.2 111 = some (g.2.2 111) := (hfr_178.2.2 111 (by decide)).trans ((frL_77.2.2 111 (by decide)).trans hI.r111)
          have u_202 : G_177.2.2 112 = some (g.2.2 112) := (hfr_178.2.2 112 (by decide)).trans ((frL_77.2.2 112 (by decide)).trans hI.r112)
          obtain ⟨f_203, ef_203⟩ : ∃ z : Nat → Int32, G_177.2.1 (g.2.2 121) = z := ⟨_, rfl⟩
          obtain ⟨n_204, en_204⟩ : ∃ z : Int32, G_177.1 122 = z := ⟨_, rfl⟩
          have rm_205 := hex_179
          rw [ef_203, en_204] at rm_205
          have hH : HT g Ty G_177 H := by rw [← ht, ← eTx_176, eG_177]; exact hB
          refine lv_aload_n hx hb dX12_day_110 rfl (lv_at hl 0 rfl) ?_
          refine lv_iconst (v := 0) hx hb dX12_day_111 (by decide) ?_
          obtain ⟨_, ⟨rfl, t_207, hk_208⟩, o_c_206⟩ := hH h0 _ k_h0
          refine hg_put (ty := .int) hx hb hG igX12 tyX12 tyX12_ok nmX12 hown hK hS o_c_206 (AF.of k_h0) rfl 4 (by decide) (hG _ mw_1288) rfl (by decide +kernel) rfl rfl (Nat.le_of_ble_eq_true rfl) dX12_day_112 (fun H locs o_c_206 hz oq hS => ?_)
          obtain ⟨G_209, eG_209⟩ : ∃ z : Gh, z = gset G_177 104 0 := ⟨_, rfl⟩
          have hH : HT g Ty G_209 H := by rw [eG_209]; exact HT.putN 104 0 hH k_h0 ⟨rfl, t_207, hk_208⟩ o_c_206 oq (Or.inr (Or.inr (Or.inr (Or.inr (Or.inr ⟨by decide, t_207⟩)))))
          have fr_210 : FR [102, 104, 105, 107, 108, 109, 110, 114, 117, 118, 119, 120, 122, 127, 128] [(g.2.2 116), (g.2.2 130), (g.2.2 100), (g.2.2 115), (g.2.2 125), (g.2.2 126), (g.2.2 129), (g.2.2 123), (g.2.2 121)] [106] G G_209 := FR.n fr_180 eG_209 (by decide)
          have u_211 : G_209.1 102 = (G_77.1 102) := by rw [eG_209]; exact (gs_ne (by decide)).trans u_181
          have u_212 : G_209.1 113 = (G.1 113) := by rw [eG_209]; exact (gs_ne (by decide)).trans u_183
          have u_213 : G_209.1 133 = (G.1 133) := by rw [eG_209]; exact (gs_ne (by decide)).trans u_184
          have u_214 : G_209.1 137 = (G.1 137) := by rw [eG_209]; exact (gs_ne (by decide)).trans u_185
          have u_215 : G_209.1 107 = (G_77.1 107) := by rw [eG_209]; exact (gs_ne (by decide)).trans u_186
          have u_216 : G_209.1 108 = (G_77.1 108) := by rw [eG_209]; exact (gs_ne (by decide)).trans u_187
          have u_217 : G_209.1 109 = (G_77.1 109) := by rw [eG_209]; exact (gs_ne (by decide)).trans u_188
          have u_218 : G_209.1 110 = (G_77.1 110) := by rw [eG_209]; exact (gs_ne (by decide)).trans u_189
          have u_219 : G_209.1 117 = (G_77.1 117) := by rw [eG_209]; exact (gs_ne (by decide)).trans u_190
          have u_220 : G_209.1 118 = (G_77.1 118) := by rw [eG_209]; exact (gs_ne (by decide)).trans u_191
          have u_221 : G_209.1 119 = (G_77.1 119) := by rw [eG_209]; exact (gs_ne (by decide)).trans u_192
          have u_222 : G_209.1 120 = (G_77.1 120) := by rw [eG_209]; exact (gs_ne (by decide)).trans u_193
          have u_223 : G_209.1 122 = n_204 := by rw [eG_209]; exact (gs_ne (by decide)).trans en_204
          have u_224 : G_209.1 104 = 0 := by rw [eG_209]; exact gs_eq
          have w_225 : G_209.2.1 (g.2.2 100) = fl0_77 := by rw [eG_209]; exact w_194
          have w_226 : G_209.2.1 (g.2.2 140) = (G.2.1 (g.2.2 140)) := by rw [eG_209]; exact w_195
          have w_227 : G_209.2.1 (g.2.2 141) = (G.2.1 (g.2.2 141)) := by rw [eG_209]; exact w_196
          have w_228 : G_209.2.1 (g.2.2 111) = (G.2.1 (g.2.2 111)) := by rw [eG_209]; exact w_197
          have w_229 : G_209.2.1 (g.2.2 116) = fl5_77 := by rw [eG_209]; exact w_198
          have w_230 : G_209.2.1 (g.2.2 130) = fl6_77 := by rw [eG_209]; exact w_199
          have w_231 : G_209.2.1 (g.2.2 123) = fl7_77 := by rw [eG_209]; exact w_200
          have w_232 : G_209.2.1 (g.2.2 121) = f_203 := by rw [eG_209]; exact ef_203
          have u_233 : G_209.2.2 111 = some (g.2.2 111) := by rw [eG_209]; exact u_201
          have u_234 : G_209.2.2 112 = some (g.2.2 112) := by rw [eG_209]; exact u_202
          clear oq hz
          refine lv_aload_n hx hb dX12_day_115 rfl (lv_at hl 0 rfl) ?_
          refine lv_iload_n hx hb dX12_day_116 rfl (lv_at hl 2 rfl) ?_
          refine lv_iload_n hx hb dX12_day_117 rfl (lv_at hl 1 rfl) ?_
          refine lv_icmp_ge (tgt := 125) hx hb dX12_day_118 (by decide) (fun c_235 => ?_) (fun c_235 => ?_)
          · refine lv_lconst (v := 0) hx hb dX12_day_125 (by decide) ?_
            obtain ⟨_, ⟨rfl, t_237, hk_238⟩, o_c_236⟩ := hH h0 _ k_h0
            refine va_callv (va_runV (As := [.long 0]) (rest := []) ⟨hx, hb, hml, hown, hts⟩ (c_X12_tell l g Ty G_209 H.size h0 0 k_h0 (by rw [u_224]; exact rg_w rl_0 (by decide) (by decide))) (cwV 1 hts (gwV mw_1510 mw_1512 mw_48 mw_88 mw_1513) rfl rfl rfl hv_X12_tell ⟨Nat.le_of_ble_eq_true rfl, Nat.le_of_ble_eq_true rfl⟩) ⟨PcT_blind, hg_recv hK o_c_236 rfl, PcT_pre hK hH⟩ rfl rfl hl.1 rfl (lv_room (Nat.le_of_ble_eq_true rfl)) dX12_day_126 ⟨Nat.zero_le _, Nat.zero_le _⟩) hS (fun q _ h => AF.mono hS.1 h) (fun q h => AF.mono hS.1 h) (fun ux_239 t H locs ht hvm hx_239 hB hz hk hS => ?_)
            obtain ⟨eTx_239, eGx_239⟩ := hx_239
            obtain ⟨G_240, eG_240⟩ : ∃ z, z = ux_239.2 := ⟨_, rfl⟩
            rw [← eG_240] at eGx_239
            obtain ⟨x_241, ex_241⟩ : ∃ z : Int32, z = 0 + 1 := ⟨_, rfl⟩
            have e_242 : G_240 = gset G_209 104 x_241 := by rw [ex_241, ← u_224]; exact eGx_239
            have rx_241 : rgI (1) (1) x_241 := by rw [ex_241]; exact rg_w (rg_add rl_0 rl_1 (by decide) (by decide)) (by decide) (by decide)
            have fr_243 : FR [102, 104, 105, 107, 108, 109, 110, 114, 117, 118, 119, 120, 122, 127, 128] [(g.2.2 116), (g.2.2 130), (g.2.2 100), (g.2.2 115), (g.2.2 125), (g.2.2 126), (g.2.2 129), (g.2.2 123), (g.2.2 121)] [106] G G_240 := FR.n fr_210 e_242 (by decide)
            have u_244 : G_240.1 102 = (G_77.1 102) := by rw [e_242]; exact (gs_ne (by decide)).trans u_211
            have u_245 : G_240.1 113 = (G.1 113) := by rw [e_242]; exact (gs_ne (by decide)).trans u_212
            have u_246 : G_240.1 133 = (G.1 133) := by rw [e_242]; exact (gs_ne (by decide)).trans u_213
            have u_247 : G_240.1 137 = (G.1 137) := by rw [e_242]; exact (gs_ne (by decide)).trans u_214
            have u_248 : G_240.1 107 = (G_77.1 107) := by rw [e_242]; exact (gs_ne (by decide)).trans u_215
            have u_249 : G_240.1 108 = (G_77.1 108) := by rw [e_242]; exact (gs_ne (by decide)).trans u_216
            have u_250 : G_240.1 109 = (G_77.1 109) := by rw [e_242]; exact (gs_ne (by decide)).trans u_217
            have u_251 : G_240.1 110 = (G_77.1 110) := by rw [e_242]; exact (gs_ne (by decide)).trans u_218
            have u_252 : G_240.1 117 = (G_77.1 117) := by rw [e_242]; exact (gs_ne (by decide)).trans u_219
            have u_253 : G_240.1 118 = (G_77.1 118) := by rw [e_242]; exact (gs_ne (by decide)).trans u_220
            have u_254 : G_240.1 119 = (G_77.1 119) := by rw [e_242]; exact (gs_ne (by decide)).trans u_221
            have u_255 : G_240.1 120 = (G_77.1 120) := by rw [e_242]; exact (gs_ne (by decide)).trans u_222
            have u_256 : G_240.1 122 = n_204 := by rw [e_242]; exact (gs_ne (by decide)).trans u_223
            have u_257 : G_240.1 104 = x_241 := by rw [e_242]; exact gs_eq
            have w_258 : G_240.2.1 (g.2.2 100) = fl0_77 := by rw [e_242]; exact w_225
            have w_259 : G_240.2.1 (g.2.2 140) = (G.2.1 (g.2.2 140)) := by rw [e_242]; exact w_226
            have w_260 : G_240.2.1 (g.2.2 141) = (G.2.1 (g.2.2 141)) := by rw [e_242]; exact w_227
            have w_261 : G_240.2.1 (g.2.2 111) = (G.2.1 (g.2.2 111)) := by rw [e_242]; exact w_228
            have w_262 : G_240.2.1 (g.2.2 116) = fl5_77 := by rw [e_242]; exact w_229
            have w_263 : G_240.2.1 (g.2.2 130) = fl6_77 := by rw [e_242]; exact w_230
            have w_264 : G_240.2.1 (g.2.2 123) = fl7_77 := by rw [e_242]; exact w_231
            have w_265 : G_240.2.1 (g.2.2 121) = f_203 := by rw [e_242]; exact w_232
            have u_266 : G_240.2.2 111 = some (g.2.2 111) := by rw [e_242]; exact u_233
            have u_267 : G_240.2.2 112 = some (g.2.2 112) := by rw [e_242]; exact u_234
            have hH : HT g Ty G_240 H := by rw [← ht, ← eTx_239, eG_240]; exact hB
            refine lv_aload_n hx hb dX12_day_129 rfl (lv_at hl 0 rfl) ?_
            refine lv_aload_n hx hb dX12_day_130 rfl (lv_at hl 0 rfl) ?_
            obtain ⟨_, ⟨rfl, t_269, hk_270⟩, o_c_268⟩ := hH h0 _ k_h0
            refine hg_get hx hb hG igX12 hown hK o_c_268 rfl 0 (by decide) (hG _ mw_1284) rfl dX12_day_131 ?_
            refine vp_callSi (W.runS (As := [.ref (g.2.2 100)]) (rest := [.ref h0]) ⟨hx, hb, hml, hown, hts⟩ (c_X12_thereOf l g Ty G_240 (g.2.2 100) (hk_270.1)) (cwSx 1 hts hG (gwC mw_1552) mw_88 mw_1550 mw_1551 rfl rfl rfl hd_X12_thereOf ⟨Nat.le_of_ble_eq_true rfl, Nat.le_of_ble_eq_true rfl⟩) ⟨PcH_blind, PcH_pre hK hH⟩ rfl rfl hl.1 rfl (lv_room (Nat.le_of_ble_eq_true rfl)) dX12_day_134 ⟨Nat.zero_le _, Nat.zero_le _⟩) (fun x_271 hx_271 => ?_)
            have ex_272 : x_271 = F_X12_thereOf fl0_77 := by rw [← w_258]; exact hx_271
            refine vp_callSi (W.runS (As := [.int x_271]) (rest := [.ref h0]) ⟨hx, hb, hml, hown, hts⟩ (c_J6_bitCount_x l g Ty G_240 x_271 ) (cwSx 1 hts hG (gwC mw_620) mw_99 mw_1553 mw_619 rfl rfl rfl hd_J6_bitCount_0f7a4 ⟨Nat.le_of_ble_eq_true rfl, Nat.le_of_ble_eq_true rfl⟩) ⟨PcH_blind, PcH_pre hK hH⟩ rfl rfl hl.1 rfl (lv_room (Nat.le_of_ble_eq_true rfl)) dX12_day_137 ⟨Nat.zero_le _, Nat.zero_le _⟩) (fun x_273 hx_273 => ?_)
            have rx_273 : rgI (0) (63) x_273 := hx_273.1
            refine lv_i2l hx hb dX12_day_140 rfl ?_
            refine lv_topl (fun u_274 eu_274 => ?_)
            refine va_callv (va_runV (As := [.long u_274]) (rest := []) ⟨hx, hb, hml, hown, hts⟩ (c_X12_tell l g Ty G_240 H.size h0 u_274 k_h0 (by rw [u_257]; exact rg_w rx_241 (by decide) (by decide))) (cwV 1 hts (gwV mw_1510 mw_1512 mw_48 mw_88 mw_1513) rfl rfl rfl hv_X12_tell ⟨Nat.le_of_ble_eq_true rfl, Nat.le_of_ble_eq_true rfl⟩) ⟨PcT_blind, hg_recv hK o_c_268 rfl, PcT_pre hK hH⟩ rfl rfl hl.1 rfl (lv_room (Nat.le_of_ble_eq_true rfl)) dX12_day_141 ⟨Nat.zero_le _, Nat.zero_le _⟩) hS (fun q _ h => AF.mono hS.1 h) (fun q h => AF.mono hS.1 h) (fun ux_275 t H locs ht hvm hx_275 hB hz hk hS => ?_)
            obtain ⟨eTx_275, eGx_275⟩ := hx_275
            obtain ⟨G_276, eG_276⟩ : ∃ z, z = ux_275.2 := ⟨_, rfl⟩
            rw [← eG_276] at eGx_275
            obtain ⟨x_277, ex_277⟩ : ∃ z : Int32, z = x_241 + 1 := ⟨_, rfl⟩
            have e_278 : G_276 = gset G_240 104 x_277 := by rw [ex_277, ← u_257]; exact eGx_275
            have rx_277 : rgI (2) (2) x_277 := by rw [ex_277]; exact rg_w (rg_add rx_241 rl_1 (by decide) (by decide)) (by decide) (by decide)
            have fr_279 : FR [102, 104, 105, 107, 108, 109, 110, 114, 117, 118, 119, 120, 122, 127, 128] [(g.2.2 116), (g.2.2 130), (g.2.2 100), (g.2.2 115), (g.2.2 125), (g.2.2 126), (g.2.2 129), (g.2.2 123), (g.2.2 121)] [106] G G_276 := FR.n fr_243 e_278 (by decide)
            have u_280 : G_276.1 102 = (G_77.1 102) := by rw [e_278]; exact (gs_ne (by decide)).trans u_244
            have u_281 : G_276.1 113 = (G.1 113) := by rw [e_278]; exact (gs_ne (by decide)).trans u_245
            have u_282 : G_276.1 133 = (G.1 133) := by rw [e_278]; exact (gs_ne (by decide)).trans u_246
            have u_283 : G_276.1 137 = (G.1 137) := by rw [e_278]; exact (gs_ne (by decide)).trans u_247
            have u_284 : G_276.1 107 = (G_77.1 107) := by rw [e_278]; exact (gs_ne (by decide)).trans u_248
            have u_285 : G_276.1 108 = (G_77.1 108) := by rw [e_278]; exact (gs_ne (by decide)).trans u_249
            have u_286 : G_276.1 109 = (G_77.1 109) := by rw [e_278]; exact (gs_ne (by decide)).trans u_250
            have u_287 : G_276.1 110 = (G_77.1 110) := by rw [e_278]; exact (gs_ne (by decide)).trans u_251
            have u_288 : G_276.1 117 = (G_77.1 117) := by rw [e_278]; exact (gs_ne (by decide)).trans u_252
            have u_289 : G_276.1 118 = (G_77.1 118) := by rw [e_278]; exact (gs_ne (by decide)).trans u_253
            have u_290 : G_276.1 119 = (G_77.1 119) := by rw [e_278]; exact (gs_ne (by decide)).trans u_254
            have u_291 : G_276.1 120 = (G_77.1 120) := by rw [e_278]; exact (gs_ne (by decide)).trans u_255
            have u_292 : G_276.1 122 = n_204 := by rw [e_278]; exact (gs_ne (by decide)).trans u_256
            have u_293 : G_276.1 104 = x_277 := by rw [e_278]; exact gs_eq
            have w_294 : G_276.2.1 (g.2.2 100) = fl0_77 := by rw [e_278]; exact w_258
            have w_295 : G_276.2.1 (g.2.2 140) = (G.2.1 (g.2.2 140)) := by rw [e_278]; exact w_259
            have w_296 : G_276.2.1 (g.2.2 141) = (G.2.1 (g.2.2 141)) := by rw [e_278]; exact w_260
            have w_297 : G_276.2.1 (g.2.2 111) = (G.2.1 (g.2.2 111)) := by rw [e_278]; exact w_261
            have w_298 : G_276.2.1 (g.2.2 116) = fl5_77 := by rw [e_278]; exact w_262
            have w_299 : G_276.2.1 (g.2.2 130) = fl6_77 := by rw [e_278]; exact w_263
            have w_300 : G_276.2.1 (g.2.2 123) = fl7_77 := by rw [e_278]; exact w_264
            have w_301 : G_276.2.1 (g.2.2 121) = f_203 := by rw [e_278]; exact w_265
            have u_302 : G_276.2.2 111 = some (g.2.2 111) := by rw [e_278]; exact u_266
            have u_303 : G_276.2.2 112 = some (g.2.2 112) := by rw [e_278]; exact u_267
            have hH : HT g Ty G_276 H := by rw [← ht, ← eTx_275, eG_276]; exact hB
            refine lv_iload_n hx hb dX12_day_144 rfl (lv_at hl 2 rfl) ?_
            exact W.iret hx hb hr (fun t ht hWm => ⟨⟨y2_77, (Ty, G_276), rfl, ⟨rfl, ⟨fr_279, ⟨⟨(by rw [u_280]; exact (rg_w rg102_77 (by decide) (by decide))), (by rw [u_293]; exact (rg_w rx_277 (by decide) (by decide))), (by rw [u_281]; exact (rg_w hI.a113 (by decide) (by decide))), (by rw [u_292]; exact (rg_w rm_205.1 (by decide) (by decide))), (by rw [u_282]; exact (rg_w hI.a133 (by decide) (by decide))), (by rw [u_283]; exact (rg_w hI.a137 (by decide) (by decide))), u_302, u_303, (by rw [w_294]; exact (TI.hi (TI.hi hi0_77 (show _ ≤ Bd + 2500 by have q := hi3_77; have q2 := (ry1_77).2; omega)) (by omega))), (by rw [w_301, u_292]; exact fun i hi => TI.hi (rm_205.2 i hi) (by omega)), (hI.ke2 (show Bd ≤ Bd + 3000 by omega) w_295 w_296)⟩, (by rw [u_280]; exact (rg_w rg102_77 (by decide) (by decide)))⟩⟩⟩, by show HT g Ty G_276 t.heap; rw [ht]; exact hH⟩, hS.F ht⟩) hS.2.2 dX12_day_145
          · have r_304 : rgI (1) (79) y2_77 := rg_w (rg_ltL r_172 ry1_77 (nle_lt c_235)) (by decide) (by decide)
            have r_305 : rgI (2) (80) y1_77 := rg_w (rg_ltR r_172 ry1_77 (nle_lt c_235)) (by decide) (by decide)
            refine lv_lconst (v := 1) hx hb dX12_day_121 (by decide) ?_
            refine lv_goto (tgt := 126) hx hb dX12_day_122 (by decide) ?_
            obtain ⟨_, ⟨rfl, t_307, hk_308⟩, o_c_306⟩ := hH h0 _ k_h0
            refine va_callv (va_runV (As := [.long 1]) (rest := []) ⟨hx, hb, hml, hown, hts⟩ (c_X12_tell l g Ty G_209 H.size h0 1 k_h0 (by rw [u_224]; exact rg_w rl_0 (by decide) (by decide))) (cwV 1 hts (gwV mw_1510 mw_1512 mw_48 mw_88 mw_1513) rfl rfl rfl hv_X12_tell ⟨Nat.le_of_ble_eq_true rfl, Nat.le_of_ble_eq_true rfl⟩) ⟨PcT_blind, hg_recv hK o_c_306 rfl, PcT_pre hK hH⟩ rfl rfl hl.1 rfl (lv_room (Nat.le_of_ble_eq_true rfl)) dX12_day_126 ⟨Nat.zero_le _, Nat.zero_le _⟩) hS (fun q _ h => AF.mono hS.1 h) (fun q h => AF.mono hS.1 h) (fun ux_309 t H locs ht hvm hx_309 hB hz hk hS => ?_)
            obtain ⟨eTx_309, eGx_309⟩ := hx_309
            obtain ⟨G_310, eG_310⟩ : ∃ z, z = ux_309.2 := ⟨_, rfl⟩
            rw [← eG_310] at eGx_309
            obtain ⟨x_311, ex_311⟩ : ∃ z : Int32, z = 0 + 1 := ⟨_, rfl⟩
            have e_312 : G_310 = gset G_209 104 x_311 := by rw [ex_311, ← u_224]; exact eGx_309
            have rx_311 : rgI (1) (1) x_311 := by rw [ex_311]; exact rg_w (rg_add rl_0 rl_1 (by decide) (by decide)) (by decide) (by decide)
            have fr_313 : FR [102, 104, 105, 107, 108, 109, 110, 114, 117, 118, 119, 120, 122, 127, 128] [(g.2.2 116), (g.2.2 130), (g.2.2 100), (g.2.2 115), (g.2.2 125), (g.2.2 126), (g.2.2 129), (g.2.2 123), (g.2.2 121)] [106] G G_310 := FR.n fr_210 e_312 (by decide)
            have u_314 : G_310.1 102 = (G_77.1 102) := by rw [e_312]; exact (gs_ne (by decide)).trans u_211
            have u_315 : G_310.1 113 = (G.1 113) := by rw [e_312]; exact (gs_ne (by decide)).trans u_212
            have u_316 : G_310.1 133 = (G.1 133) := by rw [e_312]; exact (gs_ne (by decide)).trans u_213
            have u_317 : G_310.1 137 = (G.1 137) := by rw [e_312]; exact (gs_ne (by decide)).trans u_214
            have u_318 : G_310.1 107 = (G_77.1 107) := by rw [e_312]; exact (gs_ne (by decide)).trans u_215
            have u_319 : G_310.1 108 = (G_77.1 108) := by rw [e_312]; exact (gs_ne (by decide)).trans u_216
            have u_320 : G_310.1 109 = (G_77.1 109) := by rw [e_312]; exact (gs_ne (by decide)).trans u_217
            have u_321 : G_310.1 110 = (G_77.1 110) := by rw [e_312]; exact (gs_ne (by decide)).trans u_218
            have u_322 : G_310.1 117 = (G_77.1 117) := by rw [e_312]; exact (gs_ne (by decide)).trans u_219
            have u_323 : G_310.1 118 = (G_77.1 118) := by rw [e_312]; exact (gs_ne (by decide)).trans u_220
            have u_324 : G_310.1 119 = (G_77.1 119) := by rw [e_312]; exact (gs_ne (by decide)).trans u_221
            have u_325 : G_310.1 120 = (G_77.1 120) := by rw [e_312]; exact (gs_ne (by decide)).trans u_222
            have u_326 : G_310.1 122 = n_204 := by rw [e_312]; exact (gs_ne (by decide)).trans u_223
            have u_327 : G_310.1 104 = x_311 := by rw [e_312]; exact gs_eq
            have w_328 : G_310.2.1 (g.2.2 100) = fl0_77 := by rw [e_312]; exact w_225
            have w_329 : G_310.2.1 (g.2.2 140) = (G.2.1 (g.2.2 140)) := by rw [e_312]; exact w_226
            have w_330 : G_310.2.1 (g.2.2 141) = (G.2.1 (g.2.2 141)) := by rw [e_312]; exact w_227
            have w_331 : G_310.2.1 (g.2.2 111) = (G.2.1 (g.2.2 111)) := by rw [e_312]; exact w_228
            have w_332 : G_310.2.1 (g.2.2 116) = fl5_77 := by rw [e_312]; exact w_229
            have w_333 : G_310.2.1 (g.2.2 130) = fl6_77 := by rw [e_312]; exact w_230
            have w_334 : G_310.2.1 (g.2.2 123) = fl7_77 := by rw [e_312]; exact w_231
            have w_335 : G_310.2.1 (g.2.2 121) = f_203 := by rw [e_312]; exact w_232
            have u_336 : G_310.2.2 111 = some (g.2.2 111) := by rw [e_312]; exact u_233
            have u_337 : G_310.2.2 112 = some (g.2.2 112) := by rw [e_312]; exact u_234
            have hH : HT g Ty G_310 H := by rw [← ht, ← eTx_309, eG_310]; exact hB
            refine lv_aload_n hx hb dX12_day_129 rfl (lv_at hl 0 rfl) ?_
            refine lv_aload_n hx hb dX12_day_130 rfl (lv_at hl 0 rfl) ?_
            obtain ⟨_, ⟨rfl, t_339, hk_340⟩, o_c_338⟩ := hH h0 _ k_h0
            refine hg_get hx hb hG igX12 hown hK o_c_338 rfl 0 (by decide) (hG _ mw_1284) rfl dX12_day_131 ?_
            refine vp_callSi (W.runS (As := [.ref (g.2.2 100)]) (rest := [.ref h0]) ⟨hx, hb, hml, hown, hts⟩ (c_X12_thereOf l g Ty G_310 (g.2.2 100) (hk_340.1)) (cwSx 1 hts hG (gwC mw_1552) mw_88 mw_1550 mw_1551 rfl rfl rfl hd_X12_thereOf ⟨Nat.le_of_ble_eq_true rfl, Nat.le_of_ble_eq_true rfl⟩) ⟨PcH_blind, PcH_pre hK hH⟩ rfl rfl hl.1 rfl (lv_room (Nat.le_of_ble_eq_true rfl)) dX12_day_134 ⟨Nat.zero_le _, Nat.zero_le _⟩) (fun x_341 hx_341 => ?_)
            have ex_342 : x_341 = F_X12_thereOf fl0_77 := by rw [← w_328]; exact hx_341
            refine vp_callSi (W.runS (As := [.int x_341]) (rest := [.ref h0]) ⟨hx, hb, hml, hown, hts⟩ (c_J6_bitCount_x l g Ty G_310 x_341 ) (cwSx 1 hts hG (gwC mw_620) mw_99 mw_1553 mw_619 rfl rfl rfl hd_J6_bitCount_0f7a4 ⟨Nat.le_of_ble_eq_true rfl, Nat.le_of_ble_eq_true rfl⟩) ⟨PcH_blind, PcH_pre hK hH⟩ rfl rfl hl.1 rfl (lv_room (Nat.le_of_ble_eq_true rfl)) dX12_day_137 ⟨Nat.zero_le _, Nat.zero_le _⟩) (fun x_343 hx_343 => ?_)
            have rx_343 : rgI (0) (63) x_343 := hx_343.1
            refine lv_i2l hx hb dX12_day_140 rfl ?_
            refine lv_topl (fun u_344 eu_344 => ?_)
            refine va_callv (va_runV (As := [.long u_344]) (rest := []) ⟨hx, hb, hml, hown, hts⟩ (c_X12_tell l g Ty G_310 H.size h0 u_344 k_h0 (by rw [u_327]; exact rg_w rx_311 (by decide) (by decide))) (cwV 1 hts (gwV mw_1510 mw_1512 mw_48 mw_88 mw_1513) rfl rfl rfl hv_X12_tell ⟨Nat.le_of_ble_eq_true rfl, Nat.le_of_ble_eq_true rfl⟩) ⟨PcT_blind, hg_recv hK o_c_338 rfl, PcT_pre hK hH⟩ rfl rfl hl.1 rfl (lv_room (Nat.le_of_ble_eq_true rfl)) dX12_day_141 ⟨Nat.zero_le _, Nat.zero_le _⟩) hS (fun q _ h => AF.mono hS.1 h) (fun q h => AF.mono hS.1 h) (fun ux_345 t H locs ht hvm hx_345 hB hz hk hS => ?_)
            obtain ⟨eTx_345, eGx_345⟩ := hx_345
            obtain ⟨G_346, eG_346⟩ : ∃ z, z = ux_345.2 := ⟨_, rfl⟩
            rw [← eG_346] at eGx_345
            obtain ⟨x_347, ex_347⟩ : ∃ z : Int32, z = x_311 + 1 := ⟨_, rfl⟩
            have e_348 : G_346 = gset G_310 104 x_347 := by rw [ex_347, ← u_327]; exact eGx_345
            have rx_347 : rgI (2) (2) x_347 := by rw [ex_347]; exact rg_w (rg_add rx_311 rl_1 (by decide) (by decide)) (by decide) (by decide)
            have fr_349 : FR [102, 104, 105, 107, 108, 109, 110, 114, 117, 118, 119, 120, 122, 127, 128] [(g.2.2 116), (g.2.2 130), (g.2.2 100), (g.2.2 115), (g.2.2 125), (g.2.2 126), (g.2.2 129), (g.2.2 123), (g.2.2 121)] [106] G G_346 := FR.n fr_313 e_348 (by decide)
            have u_350 : G_346.1 102 = (G_77.1 102) := by rw [e_348]; exact (gs_ne (by decide)).trans u_314
            have u_351 : G_346.1 113 = (G.1 113) := by rw [e_348]; exact (gs_ne (by decide)).trans u_315
            have u_352 : G_346.1 133 = (G.1 133) := by rw [e_348]; exact (gs_ne (by decide)).trans u_316
            have u_353 : G_346.1 137 = (G.1 137) := by rw [e_348]; exact (gs_ne (by decide)).trans u_317
            have u_354 : G_346.1 107 = (G_77.1 107) := by rw [e_348]; exact (gs_ne (by decide)).trans u_318
            have u_355 : G_346.1 108 = (G_77.1 108) := by rw [e_348]; exact (gs_ne (by decide)).trans u_319
            have u_356 : G_346.1 109 = (G_77.1 109) := by rw [e_348]; exact (gs_ne (by decide)).trans u_320
            have u_357 : G_346.1 110 = (G_77.1 110) := by rw [e_348]; exact (gs_ne (by decide)).trans u_321
            have u_358 : G_346.1 117 = (G_77.1 117) := by rw [e_348]; exact (gs_ne (by decide)).trans u_322
            have u_359 : G_346.1 118 = (G_77.1 118) := by rw [e_348]; exact (gs_ne (by decide)).trans u_323
            have u_360 : G_346.1 119 = (G_77.1 119) := by rw [e_348]; exact (gs_ne (by decide)).trans u_324
            have u_361 : G_346.1 120 = (G_77.1 120) := by rw [e_348]; exact (gs_ne (by decide)).trans u_325
            have u_362 : G_346.1 122 = n_204 := by rw [e_348]; exact (gs_ne (by decide)).trans u_326
            have u_363 : G_346.1 104 = x_347 := by rw [e_348]; exact gs_eq
            have w_364 : G_346.2.1 (g.2.2 100) = fl0_77 := by rw [e_348]; exact w_328
            have w_365 : G_346.2.1 (g.2.2 140) = (G.2.1 (g.2.2 140)) := by rw [e_348]; exact w_329
            have w_366 : G_346.2.1 (g.2.2 141) = (G.2.1 (g.2.2 141)) := by rw [e_348]; exact w_330
            have w_367 : G_346.2.1 (g.2.2 111) = (G.2.1 (g.2.2 111)) := by rw [e_348]; exact w_331
            have w_368 : G_346.2.1 (g.2.2 116) = fl5_77 := by rw [e_348]; exact w_332
            have w_369 : G_346.2.1 (g.2.2 130) = fl6_77 := by rw [e_348]; exact w_333
            have w_370 : G_346.2.1 (g.2.2 123) = fl7_77 := by rw [e_348]; exact w_334
            have w_371 : G_346.2.1 (g.2.2 121) = f_203 := by rw [e_348]; exact w_335
            have u_372 : G_346.2.2 111 = some (g.2.2 111) := by rw [e_348]; exact u_336
            have u_373 : G_346.2.2 112 = some (g.2.2 112) := by rw [e_348]; exact u_337
            have hH : HT g Ty G_346 H := by rw [← ht, ← eTx_345, eG_346]; exact hB
            refine lv_iload_n hx hb dX12_day_144 rfl (lv_at hl 2 rfl) ?_
            exact W.iret hx hb hr (fun t ht hWm => ⟨⟨y2_77, (Ty, G_346), rfl, ⟨rfl, ⟨fr_349, ⟨⟨(by rw [u_350]; exact (rg_w rg102_77 (by decide) (by decide))), (by rw [u_363]; exact (rg_w rx_347 (by decide) (by decide))), (by rw [u_351]; exact (rg_w hI.a113 (by decide) (by decide))), (by rw [u_362]; exact (rg_w rm_205.1 (by decide) (by decide))), (by rw [u_352]; exact (rg_w hI.a133 (by decide) (by decide))), (by rw [u_353]; exact (rg_w hI.a137 (by decide) (by decide))), u_372, u_373, (by rw [w_364]; exact (TI.hi (TI.hi hi0_77 (show _ ≤ Bd + 2500 by have q := hi3_77; have q2 := (ry1_77).2; omega)) (by omega))), (by rw [w_371, u_362]; exact fun i hi => TI.hi (rm_205.2 i hi) (by omega)), (hI.ke2 (show Bd ≤ Bd + 3000 by omega) w_365 w_366)⟩, (by rw [u_350]; exact (rg_w rg102_77 (by decide) (by decide)))⟩⟩⟩, by show HT g Ty G_346 t.heap; rw [ht]; exact hH⟩, hS.F ht⟩) hS.2.2 dX12_day_145
      · have r_374 : rgI (0) (79) y2_77 := rg_w (rg_ltL ry2_77 ry1_77 (nle_lt c_1)) (by decide) (by decide)
        have r_375 : rgI (1) (80) y1_77 := rg_w (rg_ltR ry2_77 ry1_77 (nle_lt c_1)) (by decide) (by decide)
        refine lv_aload_n hx hb dX12_day_82 rfl (lv_at hl 0 rfl) ?_
        refine lv_iconst (v := 4) hx hb dX12_day_83 (by decide) ?_
        refine lv_iload_n hx hb dX12_day_84 rfl (lv_at hl 2 rfl) ?_
        refine lv_imul hx hb dX12_day_85 ?_
        refine lv_topi (fun x_376 ex_376 => ?_)
        have rx_376 : rgI (0) (316) x_376 := by rw [ex_376]; exact rg_w (rg_mul rl_4 r_374 (by decide) (by decide) (by decide)) (by decide) (by decide)
        obtain ⟨_, ⟨rfl, t_378, hk_379⟩, o_c_377⟩ := hH h0 _ k_h0
        refine va_calli (va_runV (As := [.int x_376]) (rest := []) ⟨hx, hb, hml, hown, hts⟩ (c_X12_act l g Ty G_77 H.size h0 x_376 k_h0 (rg_w rx_376 (by decide) (by decide)) (Bd + 25 * (y2_77 : Int32).toInt) (by rw [efl0_77]; exact hi0_77) (by have q := (r_374).2; omega) ((frL_77.2.2 111 (by decide)).trans hI.r111) (by rw [(frL_77.1 113 (by decide))]; exact hI.a113) hLD (((G_77.1 117) : Int32).toInt) (by rw [efl5_77, efl6_77]; exact aok_4 hi2_77 (rg_w r_374 (by decide) (by decide)) (by have q := fz_lt.mp (nle_lt c_1); exact q) ex_376)) (cwV 1 hts (gwV mw_1688 mw_1690 mw_65 mw_88 mw_1691) rfl rfl rfl hv_X12_act ⟨Nat.le_of_ble_eq_true rfl, Nat.le_of_ble_eq_true rfl⟩) ⟨PcT_blind, hg_recv hK o_c_377 rfl, PcT_pre hK hH⟩ rfl rfl hl.1 rfl (lv_room (Nat.le_of_ble_eq_true rfl)) dX12_day_86 ⟨Nat.zero_le _, Nat.zero_le _⟩) hS (fun q _ h => AF.mono hS.1 h) (fun q h => AF.mono hS.1 h) (fun x_380 ux_380 t H locs ht hvm hx_380 hB hz hk hS => ?_)
        obtain ⟨hx_380, fx_380⟩ := hx_380
        obtain ⟨eTx_380, eGx_380⟩ := fx_380
        obtain ⟨G_381, eG_381⟩ : ∃ z, z = ux_380.2 := ⟨_, rfl⟩
        rw [← eG_381] at eGx_380
        obtain ⟨hfr_382, hex_383⟩ := eGx_380
        have fr_384 : FR [102, 104, 105, 107, 108, 109, 110, 114, 117, 118, 119, 120, 122, 127, 128] [(g.2.2 116), (g.2.2 130), (g.2.2 100), (g.2.2 115), (g.2.2 125), (g.2.2 126), (g.2.2 129), (g.2.2 123), (g.2.2 121)] [106] G G_381 := FR.tr frL_77 hfr_382 (by decide) (fun b h => ⟨h.2.2.1, h.2.2.2.1, h.2.2.2.2.1, h.2.2.2.2.2.1, h.2.2.2.2.2.2.1, trivial⟩) (by decide)
        have u_385 : G_381.1 102 = (G_77.1 102) := (hfr_382.1 102 (by decide))
        have u_386 : G_381.1 104 = (G_77.1 104) := (hfr_382.1 104 (by decide))
        have u_387 : G_381.1 122 = (G.1 122) := (hfr_382.1 122 (by decide)).trans ln_77
        have u_388 : G_381.1 113 = (G.1 113) := (hfr_382.1 113 (by decide)).trans (frL_77.1 113 (by decide))
        have u_389 : G_381.1 133 = (G.1 133) := (hfr_382.1 133 (by decide)).trans (frL_77.1 133 (by decide))
        have u_390 : G_381.1 137 = (G.1 137) := (hfr_382.1 137 (by decide)).trans (frL_77.1 137 (by decide))
        have u_391 : G_381.1 117 = (G_77.1 117) := (hfr_382.1 117 (by decide))
        have w_392 : G_381.2.1 (g.2.2 121) = (G.2.1 (g.2.2 121)) := (hfr_382.2.1 (g.2.2 121) ⟨(ne_kd hmk.2.2.2.2.2.1 hmk.1 (by decide)), (ne_kd hmk.2.2.2.2.2.1 hmk.2.2.2.1 (by decide)), (ne_kd hmk.2.2.2.2.2.1 hmk.2.2.2.2.2.2.2.2.1 (by decide)), (ne_kd hmk.2.2.2.2.2.1 hmk.2.2.2.2.2.2.2.2.2.1 (by decide)), (ne_kd hmk.2.2.2.2.2.1 hmk.2.2.2.2.2.2.2.2.2.2.1 (by decide)), trivial⟩).trans ls0_77
        have w_393 : G_381.2.1 (g.2.2 140) = (G.2.1 (g.2.2 140)) := (hfr_382.2.1 (g.2.2 140) ⟨(ne_kd hmk.2.2.2.2.2.2.2.2.2.2.2.2.2.2.2.2.2.2.1 hmk.1 (by decide)), (ne_kd hmk.2.2.2.2.2.2.2.2.2.2.2.2.2.2.2.2.2.2.1 hmk.2.2.2.1 (by decide)), (ne_kd hmk.2.2.2.2.2.2.2.2.2.2.2.2.2.2.2.2.2.2.1 hmk.2.2.2.2.2.2.2.2.1 (by decide)), (ne_kd hmk.2.2.2.2.2.2.2.2.2.2.2.2.2.2.2.2.2.2.1 hmk.2.2.2.2.2.2.2.2.2.1 (by decide)), (ne_kd hmk.2.2.2.2.2.2.2.2.2.2.2.2.2.2.2.2.2.2.1 hmk.2.2.2.2.2.2.2.2.2.2.1 (by decide)), trivial⟩).trans (frL_77.2.1 (g.2.2 140) ⟨(ne_kd hmk.2.2.2.2.2.2.2.2.2.2.2.2.2.2.2.2.2.2.1 hmk.2.2.2.2.1 (by decide)), (ne_kd hmk.2.2.2.2.2.2.2.2.2.2.2.2.2.2.2.2.2.2.1 hmk.2.2.2.2.2.2.2.2.2.2.2.1 (by decide)), (ne_kd hmk.2.2.2.2.2.2.2.2.2.2.2.2.2.2.2.2.2.2.1 hmk.1 (by decide)), (ne_kd hmk.2.2.2.2.2.2.2.2.2.2.2.2.2.2.2.2.2.2.1 hmk.2.2.2.1 (by decide)), (ne_kd hmk.2.2.2.2.2.2.2.2.2.2.2.2.2.2.2.2.2.2.1 hmk.2.2.2.2.2.2.2.2.1 (by decide)), (ne_kd hmk.2.2.2.2.2.2.2.2.2.2.2.2.2.2.2.2.2.2.1 hmk.2.2.2.2.2.2.2.2.2.1 (by decide)), (ne_kd hmk.2.2.2.2.2.2.2.2.2.2.2.2.2.2.2.2.2.2.1 hmk.2.2.2.2.2.2.2.2.2.2.1 (by decide)), (ne_kd hmk.2.2.2.2.2.2.2.2.2.2.2.2.2.2.2.2.2.2.1 hmk.2.2.2.2.2.2.1 (by decide)), (ne_kd hmk.2.2.2.2.2.2.2.2.2.2.2.2.2.2.2.2.2.2.1 hmk.2.2.2.2.2.1 (by decide)), trivial⟩)
        have w_394 : G_381.2.1 (g.2.2 141) = (G.2.1 (g.2.2 141)) := (hfr_382.2.1 (g.2.2 141) ⟨(ne_kd hmk.2.2.2.2.2.2.2.2.2.2.2.2.2.2.2.2.2.2.2.1 hmk.1 (by decide)), (ne_kd hmk.2.2.2.2.2.2.2.2.2.2.2.2.2.2.2.2.2.2.2.1 hmk.2.2.2.1 (by decide)), (ne_kd hmk.2.2.2.2.2.2.2.2.2.2.2.2.2.2.2.2.2.2.2.1 hmk.2.2.2.2.2.2.2.2.1 (by decide)), (ne_kd hmk.2.2.2.2.2.2.2.2.2.2.2.2.2.2.2.2.2.2.2.1 hmk.2.2.2.2.2.2.2.2.2.1 (by decide)), (ne_kd hmk.2.2.2.2.2.2.2.2.2.2.2.2.2.2.2.2.2.2.2.1 hmk.2.2.2.2.2.2.2.2.2.2.1 (by decide)), trivial⟩).trans (frL_77.2.1 (g.2.2 141) ⟨(ne_kd hmk.2.2.2.2.2.2.2.2.2.2.2.2.2.2.2.2.2.2.2.1 hmk.2.2.2.2.1 (by decide)), (ne_kd hmk.2.2.2.2.2.2.2.2.2.2.2.2.2.2.2.2.2.2.2.1 hmk.2.2.2.2.2.2.2.2.2.2.2.1 (by decide)), (ne_kd hmk.2.2.2.2.2.2.2.2.2.2.2.2.2.2.2.2.2.2.2.1 hmk.1 (by decide)), (ne_kd hmk.2.2.2.2.2.2.2.2.2.2.2.2.2.2.2.2.2.2.2.1 hmk.2.2.2.1 (by decide)), (ne_kd hmk.2.2.2.2.2.2.2.2.2.2.2.2.2.2.2.2.2.2.2.1 hmk.2.2.2.2.2.2.2.2.1 (by decide)), (ne_kd hmk.2.2.2.2.2.2.2.2.2.2.2.2.2.2.2.2.2.2.2.1 hmk.2.2.2.2.2.2.2.2.2.1 (by decide)), (ne_kd hmk.2.2.2.2.2.2.2.2.2.2.2.2.2.2.2.2.2.2.2.1 hmk.2.2.2.2.2.2.2.2.2.2.1 (by decide)), (ne_kd hmk.2.2.2.2.2.2.2.2.2.2.2.2.2.2.2.2.2.2.2.1 hmk.2.2.2.2.2.2.1 (by decide)), (ne_kd hmk.2.2.2.2.2.2.2.2.2.2.2.2.2.2.2.2.2.2.2.1 hmk.2.2.2.2.2.1 (by decide)), trivial⟩)
        have w_395 : G_381.2.1 (g.2.2 111) = (G.2.1 (g.2.2 111)) := (hfr_382.2.1 (g.2.2 111) ⟨(ne_kd hmk.2.2.2.2.2.2.2.2.2.2.2.2.2.2.2.2.2.2.2.2.1 hmk.1 (by decide)), (ne_kd hmk.2.2.2.2.2.2.2.2.2.2.2.2.2.2.2.2.2.2.2.2.1 hmk.2.2.2.1 (by decide)), (ne_kd hmk.2.2.2.2.2.2.2.2.2.2.2.2.2.2.2.2.2.2.2.2.1 hmk.2.2.2.2.2.2.2.2.1 (by decide)), (ne_kd hmk.2.2.2.2.2.2.2.2.2.2.2.2.2.2.2.2.2.2.2.2.1 hmk.2.2.2.2.2.2.2.2.2.1 (by decide)), (ne_kd hmk.2.2.2.2.2.2.2.2.2.2.2.2.2.2.2.2.2.2.2.2.1 hmk.2.2.2.2.2.2.2.2.2.2.1 (by decide)), trivial⟩).trans (frL_77.2.1 (g.2.2 111) ⟨(ne_kd hmk.2.2.2.2.2.2.2.2.2.2.2.2.2.2.2.2.2.2.2.2.1 hmk.2.2.2.2.1 (by decide)), (ne_kd hmk.2.2.2.2.2.2.2.2.2.2.2.2.2.2.2.2.2.2.2.2.1 hmk.2.2.2.2.2.2.2.2.2.2.2.1 (by decide)), (ne_kd hmk.2.2.2.2.2.2.2.2.2.2.2.2.2.2.2.2.2.2.2.2.1 hmk.1 (by decide)), (ne_kd hmk.2.2.2.2.2.2.2.2.2.2.2.2.2.2.2.2.2.2.2.2.1 hmk.2.2.2.1 (by decide)), (ne_kd hmk.2.2.2.2.2.2.2.2.2.2.2.2.2.2.2.2.2.2.2.2.1 hmk.2.2.2.2.2.2.2.2.1 (by decide)), (ne_kd hmk.2.2.2.2.2.2.2.2.2.2.2.2.2.2.2.2.2.2.2.2.1 hmk.2.2.2.2.2.2.2.2.2.1 (by decide)), (ne_kd hmk.2.2.2.2.2.2.2.2.2.2.2.2.2.2.2.2.2.2.2.2.1 hmk.2.2.2.2.2.2.2.2.2.2.1 (by decide)), (ne_kd hmk.2.2.2.2.2.2.2.2.2.2.2.2.2.2.2.2.2.2.2.2.1 hmk.2.2.2.2.2.2.1 (by decide)), (ne_kd hmk.2.2.2.2.2.2.2.2.2.2.2.2.2.2.2.2.2.2.2.2.1 hmk.2.2.2.2.2.1 (by decide)), trivial⟩)
        have w_396 : G_381.2.1 (g.2.2 116) = fl5_77 := (hfr_382.2.1 (g.2.2 116) ⟨(ne_kd hmk.2.2.2.2.1 hmk.1 (by decide)), (ne_kd hmk.2.2.2.2.1 hmk.2.2.2.1 (by decide)), (ne_kd hmk.2.2.2.2.1 hmk.2.2.2.2.2.2.2.2.1 (by decide)), (ne_kd hmk.2.2.2.2.1 hmk.2.2.2.2.2.2.2.2.2.1 (by decide)), (ne_kd hmk.2.2.2.2.1 hmk.2.2.2.2.2.2.2.2.2.2.1 (by decide)), trivial⟩).trans efl5_77
        have w_397 : G_381.2.1 (g.2.2 130) = fl6_77 := (hfr_382.2.1 (g.2.2 130) ⟨(ne_kd hmk.2.2.2.2.2.2.2.2.2.2.2.1 hmk.1 (by decide)), (ne_kd hmk.2.2.2.2.2.2.2.2.2.2.2.1 hmk.2.2.2.1 (by decide)), (ne_kd hmk.2.2.2.2.2.2.2.2.2.2.2.1 hmk.2.2.2.2.2.2.2.2.1 (by decide)), (ne_kd hmk.2.2.2.2.2.2.2.2.2.2.2.1 hmk.2.2.2.2.2.2.2.2.2.1 (by decide)), (ne_kd hmk.2.2.2.2.2.2.2.2.2.2.2.1 hmk.2.2.2.2.2.2.2.2.2.2.1 (by decide)), trivial⟩).trans efl6_77
        have w_398 : G_381.2.1 (g.2.2 123) = fl7_77 := (hfr_382.2.1 (g.2.2 123) ⟨(hLD 123 (by decide) 100 (by decide) (by decide)), (ne_kd hmk.2.2.2.2.2.2.1 hmk.2.2.2.1 (by decide)), (ne_kd hmk.2.2.2.2.2.2.1 hmk.2.2.2.2.2.2.2.2.1 (by decide)), (ne_kd hmk.2.2.2.2.2.2.1 hmk.2.2.2.2.2.2.2.2.2.1 (by decide)), (hLD 123 (by decide) 129 (by decide) (by decide)), trivial⟩).trans efl7_77
        have u_399 : G_381.2.2 111 = some (g.2.2 111) := (hfr_382.2.2 111 (by decide)).trans ((frL_77.2.2 111 (by decide)).trans hI.r111)
        have u_400 : G_381.2.2 112 = some (g.2.2 112) := (hfr_382.2.2 112 (by decide)).trans ((frL_77.2.2 112 (by decide)).trans hI.r112)
        obtain ⟨f_401, ef_401⟩ : ∃ z : Nat → Int32, G_381.2.1 (g.2.2 100) = z := ⟨_, rfl⟩
        have ti_402 := hex_383
        rw [ef_401] at ti_402
        have hH : HT g Ty G_381 H := by rw [← ht, ← eTx_380, eG_381]; exact hB
        have rx_380 : rgI (0) (1) x_380 := hx_380
        refine lv_if_eq (tgt := 98) hx hb dX12_day_89 (by decide) (fun c_403 => ?_) (fun c_403 => ?_)
        · have r_404 : rgI (0) (0) x_380 := rg_w (rg_eq rl_0 c_403) (by decide) (by decide)
          refine lv_iload_n hx hb dX12_day_98 rfl (lv_at hl 2 rfl) ?_
          refine lv_if_le (tgt := 110) hx hb dX12_day_99 (by decide) (fun c_405 => ?_) (fun c_405 => ?_)
          · have r_406 : rgI (0) (0) y2_77 := rg_w (rg_leL r_374 rl_0 c_405) (by decide) (by decide)
            refine lv_aload_n hx hb dX12_day_110 rfl (lv_at hl 0 rfl) ?_
            refine lv_iconst (v := 0) hx hb dX12_day_111 (by decide) ?_
            obtain ⟨_, ⟨rfl, t_408, hk_409⟩, o_c_407⟩ := hH h0 _ k_h0
            refine hg_put (ty := .int) hx hb hG igX12 tyX12 tyX12_ok nmX12 hown hK hS o_c_407 (AF.of k_h0) rfl 4 (by decide) (hG _ mw_1288) rfl (by decide +kernel) rfl rfl (Nat.le_of_ble_eq_true rfl) dX12_day_112 (fun H locs o_c_407 hz oq hS => ?_)
            obtain ⟨G_410, eG_410⟩ : ∃ z : Gh, z = gset G_381 104 0 := ⟨_, rfl⟩
            have hH : HT g Ty G_410 H := by rw [eG_410]; exact HT.putN 104 0 hH k_h0 ⟨rfl, t_408, hk_409⟩ o_c_407 oq (Or.inr (Or.inr (Or.inr (Or.inr (Or.inr ⟨by decide, t_408⟩)))))
            have fr_411 : FR [102, 104, 105, 107, 108, 109, 110, 114, 117, 118, 119, 120, 122, 127, 128] [(g.2.2 116), (g.2.2 130), (g.2.2 100), (g.2.2 115), (g.2.2 125), (g.2.2 126), (g.2.2 129), (g.2.2 123), (g.2.2 121)] [106] G G_410 := FR.n fr_384 eG_410 (by decide)
            have u_412 : G_410.1 102 = (G_77.1 102) := by rw [eG_410]; exact (gs_ne (by decide)).trans u_385
            have u_413 : G_410.1 122 = (G.1 122) := by rw [eG_410]; exact (gs_ne (by decide)).trans u_387
            have u_414 : G_410.1 113 = (G.1 113) := by rw [eG_410]; exact (gs_ne (by decide)).trans u_388
            have u_415 : G_410.1 133 = (G.1 133) := by rw [eG_410]; exact (gs_ne (by decide)).trans u_389
            have u_416 : G_410.1 137 = (G.1 137) := by rw [eG_410]; exact (gs_ne (by decide)).trans u_390
            have u_417 : G_410.1 117 = (G_77.1 117) := by rw [eG_410]; exact (gs_ne (by decide)).trans u_391
            have u_418 : G_410.1 104 = 0 := by rw [eG_410]; exact gs_eq
            have w_419 : G_410.2.1 (g.2.2 121) = (G.2.1 (g.2.2 121)) := by rw [eG_410]; exact w_392
            have w_420 : G_410.2.1 (g.2.2 140) = (G.2.1 (g.2.2 140)) := by rw [eG_410]; exact w_393
            have w_421 : G_410.2.1 (g.2.2 141) = (G.2.1 (g.2.2 141)) := by rw [eG_410]; exact w_394
            have w_422 : G_410.2.1 (g.2.2 111) = (G.2.1 (g.2.2 111)) := by rw [eG_410]; exact w_395
            have w_423 : G_410.2.1 (g.2.2 116) = fl5_77 := by rw [eG_410]; exact w_396
            have w_424 : G_410.2.1 (g.2.2 130) = fl6_77 := by rw [eG_410]; exact w_397
            have w_425 : G_410.2.1 (g.2.2 123) = fl7_77 := by rw [eG_410]; exact w_398
            have w_426 : G_410.2.1 (g.2.2 100) = f_401 := by rw [eG_410]; exact ef_401
            have u_427 : G_410.2.2 111 = some (g.2.2 111) := by rw [eG_410]; exact u_399
            have u_428 : G_410.2.2 112 = some (g.2.2 112) := by rw [eG_410]; exact u_400
            clear oq hz
            refine lv_aload_n hx hb dX12_day_115 rfl (lv_at hl 0 rfl) ?_
            refine lv_iload_n hx hb dX12_day_116 rfl (lv_at hl 2 rfl) ?_
            refine lv_iload_n hx hb dX12_day_117 rfl (lv_at hl 1 rfl) ?_
            refine lv_icmp_ge (tgt := 125) hx hb dX12_day_118 (by decide) (fun c_429 => ?_) (fun c_429 => ?_)
            · exact rg_no2 r_375 r_406 c_429 (by decide)
            · refine lv_lconst (v := 1) hx hb dX12_day_121 (by decide) ?_
              refine lv_goto (tgt := 126) hx hb dX12_day_122 (by decide) ?_
              obtain ⟨_, ⟨rfl, t_431, hk_432⟩, o_c_430⟩ := hH h0 _ k_h0
              refine va_callv (va_runV (As := [.long 1]) (rest := []) ⟨hx, hb, hml, hown, hts⟩ (c_X12_tell l g Ty G_410 H.size h0 1 k_h0 (by rw [u_418]; exact rg_w rl_0 (by decide) (by decide))) (cwV 1 hts (gwV mw_1510 mw_1512 mw_48 mw_88 mw_1513) rfl rfl rfl hv_X12_tell ⟨Nat.le_of_ble_eq_true rfl, Nat.le_of_ble_eq_true rfl⟩) ⟨PcT_blind, hg_recv hK o_c_430 rfl, PcT_pre hK hH⟩ rfl rfl hl.1 rfl (lv_room (Nat.le_of_ble_eq_true rfl)) dX12_day_126 ⟨Nat.zero_le _, Nat.zero_le _⟩) hS (fun q _ h => AF.mono hS.1 h) (fun q h => AF.mono hS.1 h) (fun ux_433 t H locs ht hvm hx_433 hB hz hk hS => ?_)
              obtain ⟨eTx_433, eGx_433⟩ := hx_433
              obtain ⟨G_434, eG_434⟩ : ∃ z, z = ux_433.2 := ⟨_, rfl⟩
              rw [← eG_434] at eGx_433
              obtain ⟨x_435, ex_435⟩ : ∃ z : Int32, z = 0 + 1 := ⟨_, rfl⟩
              have e_436 : G_434 = gset G_410 104 x_435 := by rw [ex_435, ← u_418]; exact eGx_433
              have rx_435 : rgI (1) (1) x_435 := by rw [ex_435]; exact rg_w (rg_add rl_0 rl_1 (by decide) (by decide)) (by decide) (by decide)
              have fr_437 : FR [102, 104, 105, 107, 108, 109, 110, 114, 117, 118, 119, 120, 122, 127, 128] [(g.2.2 116), (g.2.2 130), (g.2.2 100), (g.2.2 115), (g.2.2 125), (g.2.2 126), (g.2.2 129), (g.2.2 123), (g.2.2 121)] [106] G G_434 := FR.n fr_411 e_436 (by decide)
              have u_438 : G_434.1 102 = (G_77.1 102) := by rw [e_436]; exact (gs_ne (by decide)).trans u_412
              have u_439 : G_434.1 122 = (G.1 122) := by rw [e_436]; exact (gs_ne (by decide)).trans u_413
              have u_440 : G_434.1 113 = (G.1 113) := by rw [e_436]; exact (gs_ne (by decide)).trans u_414
              have u_441 : G_434.1 133 = (G.1 133) := by rw [e_436]; exact (gs_ne (by decide)).trans u_415
              have u_442 : G_434.1 137 = (G.1 137) := by rw [e_436]; exact (gs_ne (by decide)).trans u_416
              have u_443 : G_434.1 117 = (G_77.1 117) := by rw [e_436]; exact (gs_ne (by decide)).trans u_417
              have u_444 : G_434.1 104 = x_435 := by rw [e_436]; exact gs_eq
              have w_445 : G_434.2.1 (g.2.2 121) = (G.2.1 (g.2.2 121)) := by rw [e_436]; exact w_419
              have w_446 : G_434.2.1 (g.2.2 140) = (G.2.1 (g.2.2 140)) := by rw [e_436]; exact w_420
              have w_447 : G_434.2.1 (g.2.2 141) = (G.2.1 (g.2.2 141)) := by rw [e_436]; exact w_421
              have w_448 : G_434.2.1 (g.2.2 111) = (G.2.1 (g.2.2 111)) := by rw [e_436]; exact w_422
              have w_449 : G_434.2.1 (g.2.2 116) = fl5_77 := by rw [e_436]; exact w_423
              have w_450 : G_434.2.1 (g.2.2 130) = fl6_77 := by rw [e_436]; exact w_424
              have w_451 : G_434.2.1 (g.2.2 123) = fl7_77 := by rw [e_436]; exact w_425
              have w_452 : G_434.2.1 (g.2.2 100) = f_401 := by rw [e_436]; exact w_426
              have u_453 : G_434.2.2 111 = some (g.2.2 111) := by rw [e_436]; exact u_427
              have u_454 : G_434.2.2 112 = some (g.2.2 112) := by rw [e_436]; exact u_428
              have hH : HT g Ty G_434 H := by rw [← ht, ← eTx_433, eG_434]; exact hB
              refine lv_aload_n hx hb dX12_day_129 rfl (lv_at hl 0 rfl) ?_
              refine lv_aload_n hx hb dX12_day_130 rfl (lv_at hl 0 rfl) ?_
              obtain ⟨_, ⟨rfl, t_456, hk_457⟩, o_c_455⟩ := hH h0 _ k_h0
              refine hg_get hx hb hG igX12 hown hK o_c_455 rfl 0 (by decide) (hG _ mw_1284) rfl dX12_day_131 ?_
              refine vp_callSi (W.runS (As := [.ref (g.2.2 100)]) (rest := [.ref h0]) ⟨hx, hb, hml, hown, hts⟩ (c_X12_thereOf l g Ty G_434 (g.2.2 100) (hk_457.1)) (cwSx 1 hts hG (gwC mw_1552) mw_88 mw_1550 mw_1551 rfl rfl rfl hd_X12_thereOf ⟨Nat.le_of_ble_eq_true rfl, Nat.le_of_ble_eq_true rfl⟩) ⟨PcH_blind, PcH_pre hK hH⟩ rfl rfl hl.1 rfl (lv_room (Nat.le_of_ble_eq_true rfl)) dX12_day_134 ⟨Nat.zero_le _, Nat.zero_le _⟩) (fun x_458 hx_458 => ?_)
              have ex_459 : x_458 = F_X12_thereOf f_401 := by rw [← w_452]; exact hx_458
              refine vp_callSi (W.runS (As := [.int x_458]) (rest := [.ref h0]) ⟨hx, hb, hml, hown, hts⟩ (c_J6_bitCount_x l g Ty G_434 x_458 ) (cwSx 1 hts hG (gwC mw_620) mw_99 mw_1553 mw_619 rfl rfl rfl hd_J6_bitCount_0f7a4 ⟨Nat.le_of_ble_eq_true rfl, Nat.le_of_ble_eq_true rfl⟩) ⟨PcH_blind, PcH_pre hK hH⟩ rfl rfl hl.1 rfl (lv_room (Nat.le_of_ble_eq_true rfl)) dX12_day_137 ⟨Nat.zero_le _, Nat.zero_le _⟩) (fun x_460 hx_460 => ?_)
              have rx_460 : rgI (0) (63) x_460 := hx_460.1
              refine lv_i2l hx hb dX12_day_140 rfl ?_
              refine lv_topl (fun u_461 eu_461 => ?_)
              refine va_callv (va_runV (As := [.long u_461]) (rest := []) ⟨hx, hb, hml, hown, hts⟩ (c_X12_tell l g Ty G_434 H.size h0 u_461 k_h0 (by rw [u_444]; exact rg_w rx_435 (by decide) (by decide))) (cwV 1 hts (gwV mw_1510 mw_1512 mw_48 mw_88 mw_1513) rfl rfl rfl hv_X12_tell ⟨Nat.le_of_ble_eq_true rfl, Nat.le_of_ble_eq_true rfl⟩) ⟨PcT_blind, hg_recv hK o_c_455 rfl, PcT_pre hK hH⟩ rfl rfl hl.1 rfl (lv_room (Nat.le_of_ble_eq_true rfl)) dX12_day_141 ⟨Nat.zero_le _, Nat.zero_le _⟩) hS (fun q _ h => AF.mono hS.1 h) (fun q h => AF.mono hS.1 h) (fun ux_462 t H locs ht hvm hx_462 hB hz hk hS => ?_)
              obtain ⟨eTx_462, eGx_462⟩ := hx_462
              obtain ⟨G_463, eG_463⟩ : ∃ z, z = ux_462.2 := ⟨_, rfl⟩
              rw [← eG_463] at eGx_462
              obtain ⟨x_464, ex_464⟩ : ∃ z : Int32, z = x_435 + 1 := ⟨_, rfl⟩
              have e_465 : G_463 = gset G_434 104 x_464 := by rw [ex_464, ← u_444]; exact eGx_462
              have rx_464 : rgI (2) (2) x_464 := by rw [ex_464]; exact rg_w (rg_add rx_435 rl_1 (by decide) (by decide)) (by decide) (by decide)
              have fr_466 : FR [102, 104, 105, 107, 108, 109, 110, 114, 117, 118, 119, 120, 122, 127, 128] [(g.2.2 116), (g.2.2 130), (g.2.2 100), (g.2.2 115), (g.2.2 125), (g.2.2 126), (g.2.2 129), (g.2.2 123), (g.2.2 121)] [106] G G_463 := FR.n fr_437 e_465 (by decide)
              have u_467 : G_463.1 102 = (G_77.1 102) := by rw [e_465]; exact (gs_ne (by decide)).trans u_438
              have u_468 : G_463.1 122 = (G.1 122) := by rw [e_465]; exact (gs_ne (by decide)).trans u_439
              have u_469 : G_463.1 113 = (G.1 113) := by rw [e_465]; exact (gs_ne (by decide)).trans u_440
              have u_470 : G_463.1 133 = (G.1 133) := by rw [e_465]; exact (gs_ne (by decide)).trans u_441
              have u_471 : G_463.1 137 = (G.1 137) := by rw [e_465]; exact (gs_ne (by decide)).trans u_442
              have u_472 : G_463.1 117 = (G_77.1 117) := by rw [e_465]; exact (gs_ne (by decide)).trans u_443
              have u_473 : G_463.1 104 = x_464 := by rw [e_465]; exact gs_eq
              have w_474 : G_463.2.1 (g.2.2 121) = (G.2.1 (g.2.2 121)) := by rw [e_465]; exact w_445
              have w_475 : G_463.2.1 (g.2.2 140) = (G.2.1 (g.2.2 140)) := by rw [e_465]; exact w_446
              have w_476 : G_463.2.1 (g.2.2 141) = (G.2.1 (g.2.2 141)) := by rw [e_465]; exact w_447
              have w_477 : G_463.2.1 (g.2.2 111) = (G.2.1 (g.2.2 111)) := by rw [e_465]; exact w_448
              have w_478 : G_463.2.1 (g.2.2 116) = fl5_77 := by rw [e_465]; exact w_449
              have w_479 : G_463.2.1 (g.2.2 130) = fl6_77 := by rw [e_465]; exact w_450
              have w_480 : G_463.2.1 (g.2.2 123) = fl7_77 := by rw [e_465]; exact w_451
              have w_481 : G_463.2.1 (g.2.2 100) = f_401 := by rw [e_465]; exact w_452
              have u_482 : G_463.2.2 111 = some (g.2.2 111) := by rw [e_465]; exact u_453
              have u_483 : G_463.2.2 112 = some (g.2.2 112) := by rw [e_465]; exact u_454
              have hH : HT g Ty G_463 H := by rw [← ht, ← eTx_462, eG_463]; exact hB
              refine lv_iload_n hx hb dX12_day_144 rfl (lv_at hl 2 rfl) ?_
              exact W.iret hx hb hr (fun t ht hWm => ⟨⟨y2_77, (Ty, G_463), rfl, ⟨rfl, ⟨fr_466, ⟨⟨(by rw [u_467]; exact (rg_w rg102_77 (by decide) (by decide))), (by rw [u_473]; exact (rg_w rx_464 (by decide) (by decide))), (by rw [u_469]; exact (rg_w hI.a113 (by decide) (by decide))), (by rw [u_468]; exact (rg_w hI.a122 (by decide) (by decide))), (by rw [u_470]; exact (rg_w hI.a133 (by decide) (by decide))), (by rw [u_471]; exact (rg_w hI.a137 (by decide) (by decide))), u_482, u_483, (by rw [w_481]; exact (TI.hi (TI.hi ti_402 (show _ ≤ Bd + 2500 by have q := hi3_77; have q2 := (ry1_77).2; omega)) (by omega))), (hI.un2 (show Bd ≤ Bd + 3000 by omega) w_474 u_468), (hI.ke2 (show Bd ≤ Bd + 3000 by omega) w_475 w_476)⟩, (by rw [u_467]; exact (rg_w rg102_77 (by decide) (by decide)))⟩⟩⟩, by show HT g Ty G_463 t.heap; rw [ht]; exact hH⟩, hS.F ht⟩) hS.2.2 dX12_day_145
          · have r_484 : rgI (1) (79) y2_77 := rg_w (rg_ltR rl_0 r_374 (nle_lt c_405)) (by decide) (by decide)
            refine lv_aload_n hx hb dX12_day_102 rfl (lv_at hl 0 rfl) ?_
            refine lv_aload_n hx hb dX12_day_103 rfl (lv_at hl 0 rfl) ?_
            obtain ⟨_, ⟨rfl, t_486, hk_487⟩, o_c_485⟩ := hH h0 _ k_h0
            refine hg_get hx hb hG igX12 hown hK o_c_485 rfl 23 (by decide) (hG _ mw_1307) rfl dX12_day_104 ?_
            refine va_callv (va_runV (As := [.ref (g.2.2 123)]) (rest := []) ⟨hx, hb, hml, hown, hts⟩ (c_X12_remember l g Ty G_381 H.size h0 (g.2.2 123) k_h0 (hk_487.2.2.2.2.2.2.1) Bd (by rw [w_398]; exact (SR_ti hi1_77 hI.ti)) (by rw [u_387]; exact (rg_w hI.a122 (by decide) (by decide))) (by rw [u_387, w_392]; exact hI.un)) (cwV 1 hts (gwV mw_1577 mw_1579 mw_53 mw_88 mw_1580) rfl rfl rfl hv_X12_remember ⟨Nat.le_of_ble_eq_true rfl, Nat.le_of_ble_eq_true rfl⟩) ⟨PcT_blind, hg_recv hK o_c_485 rfl, PcT_pre hK hH⟩ rfl rfl hl.1 rfl (lv_room (Nat.le_of_ble_eq_true rfl)) dX12_day_107 ⟨Nat.zero_le _, Nat.zero_le _⟩) hS (fun q _ h => AF.mono hS.1 h) (fun q h => AF.mono hS.1 h) (fun ux_488 t H locs ht hvm hx_488 hB hz hk hS => ?_)
            obtain ⟨eTx_488, eGx_488⟩ := hx_488
            obtain ⟨G_489, eG_489⟩ : ∃ z, z = ux_488.2 := ⟨_, rfl⟩
            rw [← eG_489] at eGx_488
            obtain ⟨hfr_490, hex_491⟩ := eGx_488
            have fr_492 : FR [102, 104, 105, 107, 108, 109, 110, 114, 117, 118, 119, 120, 122, 127, 128] [(g.2.2 116), (g.2.2 130), (g.2.2 100), (g.2.2 115), (g.2.2 125), (g.2.2 126), (g.2.2 129), (g.2.2 123), (g.2.2 121)] [106] G G_489 := FR.tr fr_384 hfr_490 (by decide) (fun b h => ⟨h.2.2.2.2.2.2.2.2.1, trivial⟩) (by decide)
            have u_493 : G_489.1 102 = (G_77.1 102) := (hfr_490.1 102 (by decide)).trans u_385
            have u_494 : G_489.1 104 = (G_77.1 104) := (hfr_490.1 104 (by decide)).trans u_386
            have u_495 : G_489.1 113 = (G.1 113) := (hfr_490.1 113 (by decide)).trans u_388
            have u_496 : G_489.1 133 = (G.1 133) := (hfr_490.1 133 (by decide)).trans u_389
            have u_497 : G_489.1 137 = (G.1 137) := (hfr_490.1 137 (by decide)).trans u_390
            have u_498 : G_489.1 117 = (G_77.1 117) := (hfr_490.1 117 (by decide)).trans u_391
            have w_499 : G_489.2.1 (g.2.2 140) = (G.2.1 (g.2.2 140)) := (hfr_490.2.1 (g.2.2 140) ⟨(ne_kd hmk.2.2.2.2.2.2.2.2.2.2.2.2.2.2.2.2.2.2.1 hmk.2.2.2.2.2.1 (by decide)), trivial⟩).trans w_393
            have w_500 : G_489.2.1 (g.2.2 141) = (G.2.1 (g.2.2 141)) := (hfr_490.2.1 (g.2.2 141) ⟨(ne_kd hmk.2.2.2.2.2.2.2.2.2.2.2.2.2.2.2.2.2.2.2.1 hmk.2.2.2.2.2.1 (by decide)), trivial⟩).trans w_394
            have w_501 : G_489.2.1 (g.2.2 111) = (G.2.1 (g.2.2 111)) := (hfr_490.2.1 (g.2.2 111) ⟨(ne_kd hmk.2.2.2.2.2.2.2.2.2.2.2.2.2.2.2.2.2.2.2.2.1 hmk.2.2.2.2.2.1 (by decide)), trivial⟩).trans w_395
            have w_502 : G_489.2.1 (g.2.2 116) = fl5_77 := (hfr_490.2.1 (g.2.2 116) ⟨(ne_kd hmk.2.2.2.2.1 hmk.2.2.2.2.2.1 (by decide)), trivial⟩).trans w_396
            have w_503 : G_489.2.1 (g.2.2 130) = fl6_77 := (hfr_490.2.1 (g.2.2 130) ⟨(ne_kd hmk.2.2.2.2.2.2.2.2.2.2.2.1 hmk.2.2.2.2.2.1 (by decide)), trivial⟩).trans w_397
            have w_504 : G_489.2.1 (g.2.2 123) = fl7_77 := (hfr_490.2.1 (g.2.2 123) ⟨(ne_kd hmk.2.2.2.2.2.2.1 hmk.2.2.2.2.2.1 (by decide)), trivial⟩).trans w_398
            have w_505 : G_489.2.1 (g.2.2 100) = f_401 := (hfr_490.2.1 (g.2.2 100) ⟨(ne_kd hmk.1 hmk.2.2.2.2.2.1 (by decide)), trivial⟩).trans ef_401
            have u_506 : G_489.2.2 111 = some (g.2.2 111) := (hfr_490.2.2 111 (by decide)).trans u_399
            have u_507 : G_489.2.2 112 = some (g.2.2 112) := (hfr_490.2.2 112 (by decide)).trans u_400
            obtain ⟨f_508, ef_508⟩ : ∃ z : Nat → Int32, G_489.2.1 (g.2.2 121) = z := ⟨_, rfl⟩
            obtain ⟨n_509, en_509⟩ : ∃ z : Int32, G_489.1 122 = z := ⟨_, rfl⟩
            have rm_510 := hex_491
            rw [ef_508, en_509] at rm_510
            have hH : HT g Ty G_489 H := by rw [← ht, ← eTx_488, eG_489]; exact hB
            refine lv_aload_n hx hb dX12_day_110 rfl (lv_at hl 0 rfl) ?_
            refine lv_iconst (v := 0) hx hb dX12_day_111 (by decide) ?_
            obtain ⟨_, ⟨rfl, t_512, hk_513⟩, o_c_511⟩ := hH h0 _ k_h0
            refine hg_put (ty := .int) hx hb hG igX12 tyX12 tyX12_ok nmX12 hown hK hS o_c_511 (AF.of k_h0) rfl 4 (by decide) (hG _ mw_1288) rfl (by decide +kernel) rfl rfl (Nat.le_of_ble_eq_true rfl) dX12_day_112 (fun H locs o_c_511 hz oq hS => ?_)
            obtain ⟨G_514, eG_514⟩ : ∃ z : Gh, z = gset G_489 104 0 := ⟨_, rfl⟩
            have hH : HT g Ty G_514 H := by rw [eG_514]; exact HT.putN 104 0 hH k_h0 ⟨rfl, t_512, hk_513⟩ o_c_511 oq (Or.inr (Or.inr (Or.inr (Or.inr (Or.inr ⟨by decide, t_512⟩)))))
            have fr_515 : FR [102, 104, 105, 107, 108, 109, 110, 114, 117, 118, 119, 120, 122, 127, 128] [(g.2.2 116), (g.2.2 130), (g.2.2 100), (g.2.2 115), (g.2.2 125), (g.2.2 126), (g.2.2 129), (g.2.2 123), (g.2.2 121)] [106] G G_514 := FR.n fr_492 eG_514 (by decide)
            have u_516 : G_514.1 102 = (G_77.1 102) := by rw [eG_514]; exact (gs_ne (by decide)).trans u_493
            have u_517 : G_514.1 113 = (G.1 113) := by rw [eG_514]; exact (gs_ne (by decide)).trans u_495
            have u_518 : G_514.1 133 = (G.1 133) := by rw [eG_514]; exact (gs_ne (by decide)).trans u_496
            have u_519 : G_514.1 137 = (G.1 137) := by rw [eG_514]; exact (gs_ne (by decide)).trans u_497
            have u_520 : G_514.1 117 = (G_77.1 117) := by rw [eG_514]; exact (gs_ne (by decide)).trans u_498
            have u_521 : G_514.1 122 = n_509 := by rw [eG_514]; exact (gs_ne (by decide)).trans en_509
            have u_522 : G_514.1 104 = 0 := by rw [eG_514]; exact gs_eq
            have w_523 : G_514.2.1 (g.2.2 140) = (G.2.1 (g.2.2 140)) := by rw [eG_514]; exact w_499
            have w_524 : G_514.2.1 (g.2.2 141) = (G.2.1 (g.2.2 141)) := by rw [eG_514]; exact w_500
            have w_525 : G_514.2.1 (g.2.2 111) = (G.2.1 (g.2.2 111)) := by rw [eG_514]; exact w_501
            have w_526 : G_514.2.1 (g.2.2 116) = fl5_77 := by rw [eG_514]; exact w_502
            have w_527 : G_514.2.1 (g.2.2 130) = fl6_77 := by rw [eG_514]; exact w_503
            have w_528 : G_514.2.1 (g.2.2 123) = fl7_77 := by rw [eG_514]; exact w_504
            have w_529 : G_514.2.1 (g.2.2 100) = f_401 := by rw [eG_514]; exact w_505
            have w_530 : G_514.2.1 (g.2.2 121) = f_508 := by rw [eG_514]; exact ef_508
            have u_531 : G_514.2.2 111 = some (g.2.2 111) := by rw [eG_514]; exact u_506
            have u_532 : G_514.2.2 112 = some (g.2.2 112) := by rw [eG_514]; exact u_507
            clear oq hz
            refine lv_aload_n hx hb dX12_day_115 rfl (lv_at hl 0 rfl) ?_
            refine lv_iload_n hx hb dX12_day_116 rfl (lv_at hl 2 rfl) ?_
            refine lv_iload_n hx hb dX12_day_117 rfl (lv_at hl 1 rfl) ?_
            refine lv_icmp_ge (tgt := 125) hx hb dX12_day_118 (by decide) (fun c_533 => ?_) (fun c_533 => ?_)
            · have r_534 : rgI (1) (79) y1_77 := rg_w (rg_leL r_375 r_484 c_533) (by decide) (by decide)
              refine lv_lconst (v := 0) hx hb dX12_day_125 (by decide) ?_
              obtain ⟨_, ⟨rfl, t_536, hk_537⟩, o_c_535⟩ := hH h0 _ k_h0
              refine va_callv (va_runV (As := [.long 0]) (rest := []) ⟨hx, hb, hml, hown, hts⟩ (c_X12_tell l g Ty G_514 H.size h0 0 k_h0 (by rw [u_522]; exact rg_w rl_0 (by decide) (by decide))) (cwV 1 hts (gwV mw_1510 mw_1512 mw_48 mw_88 mw_1513) rfl rfl rfl hv_X12_tell ⟨Nat.le_of_ble_eq_true rfl, Nat.le_of_ble_eq_true rfl⟩) ⟨PcT_blind, hg_recv hK o_c_535 rfl, PcT_pre hK hH⟩ rfl rfl hl.1 rfl (lv_room (Nat.le_of_ble_eq_true rfl)) dX12_day_126 ⟨Nat.zero_le _, Nat.zero_le _⟩) hS (fun q _ h => AF.mono hS.1 h) (fun q h => AF.mono hS.1 h) (fun ux_538 t H locs ht hvm hx_538 hB hz hk hS => ?_)
              obtain ⟨eTx_538, eGx_538⟩ := hx_538
              obtain ⟨G_539, eG_539⟩ : ∃ z, z = ux_538.2 := ⟨_, rfl⟩
              rw [← eG_539] at eGx_538
              obtain ⟨x_540, ex_540⟩ : ∃ z : Int32, z = 0 + 1 := ⟨_, rfl⟩
              have e_541 : G_539 = gset G_514 104 x_540 := by rw [ex_540, ← u_522]; exact eGx_538
              have rx_540 : rgI (1) (1) x_540 := by rw [ex_540]; exact rg_w (rg_add rl_0 rl_1 (by decide) (by decide)) (by decide) (by decide)
              have fr_542 : FR [102, 104, 105, 107, 108, 109, 110, 114, 117, 118, 119, 120, 122, 127, 128] [(g.2.2 116), (g.2.2 130), (g.2.2 100), (g.2.2 115), (g.2.2 125), (g.2.2 126), (g.2.2 129), (g.2.2 123), (g.2.2 121)] [106] G G_539 := FR.n fr_515 e_541 (by decide)
              have u_543 : G_539.1 102 = (G_77.1 102) := by rw [e_541]; exact (gs_ne (by decide)).trans u_516
              have u_544 : G_539.1 113 = (G.1 113) := by rw [e_541]; exact (gs_ne (by decide)).trans u_517
              have u_545 : G_539.1 133 = (G.1 133) := by rw [e_541]; exact (gs_ne (by decide)).trans u_518
              have u_546 : G_539.1 137 = (G.1 137) := by rw [e_541]; exact (gs_ne (by decide)).trans u_519
              have u_547 : G_539.1 117 = (G_77.1 117) := by rw [e_541]; exact (gs_ne (by decide)).trans u_520
              have u_548 : G_539.1 122 = n_509 := by rw [e_541]; exact (gs_ne (by decide)).trans u_521
              have u_549 : G_539.1 104 = x_540 := by rw [e_541]; exact gs_eq
              have w_550 : G_539.2.1 (g.2.2 140) = (G.2.1 (g.2.2 140)) := by rw [e_541]; exact w_523
              have w_551 : G_539.2.1 (g.2.2 141) = (G.2.1 (g.2.2 141)) := by rw [e_541]; exact w_524
              have w_552 : G_539.2.1 (g.2.2 111) = (G.2.1 (g.2.2 111)) := by rw [e_541]; exact w_525
              have w_553 : G_539.2.1 (g.2.2 116) = fl5_77 := by rw [e_541]; exact w_526
              have w_554 : G_539.2.1 (g.2.2 130) = fl6_77 := by rw [e_541]; exact w_527
              have w_555 : G_539.2.1 (g.2.2 123) = fl7_77 := by rw [e_541]; exact w_528
              have w_556 : G_539.2.1 (g.2.2 100) = f_401 := by rw [e_541]; exact w_529
              have w_557 : G_539.2.1 (g.2.2 121) = f_508 := by rw [e_541]; exact w_530
              have u_558 : G_539.2.2 111 = some (g.2.2 111) := by rw [e_541]; exact u_531
              have u_559 : G_539.2.2 112 = some (g.2.2 112) := by rw [e_541]; exact u_532
              have hH : HT g Ty G_539 H := by rw [← ht, ← eTx_538, eG_539]; exact hB
              refine lv_aload_n hx hb dX12_day_129 rfl (lv_at hl 0 rfl) ?_
              refine lv_aload_n hx hb dX12_day_130 rfl (lv_at hl 0 rfl) ?_
              obtain ⟨_, ⟨rfl, t_561, hk_562⟩, o_c_560⟩ := hH h0 _ k_h0
              refine hg_get hx hb hG igX12 hown hK o_c_560 rfl 0 (by decide) (hG _ mw_1284) rfl dX12_day_131 ?_
              refine vp_callSi (W.runS (As := [.ref (g.2.2 100)]) (rest := [.ref h0]) ⟨hx, hb, hml, hown, hts⟩ (c_X12_thereOf l g Ty G_539 (g.2.2 100) (hk_562.1)) (cwSx 1 hts hG (gwC mw_1552) mw_88 mw_1550 mw_1551 rfl rfl rfl hd_X12_thereOf ⟨Nat.le_of_ble_eq_true rfl, Nat.le_of_ble_eq_true rfl⟩) ⟨PcH_blind, PcH_pre hK hH⟩ rfl rfl hl.1 rfl (lv_room (Nat.le_of_ble_eq_true rfl)) dX12_day_134 ⟨Nat.zero_le _, Nat.zero_le _⟩) (fun x_563 hx_563 => ?_)
              have ex_564 : x_563 = F_X12_thereOf f_401 := by rw [← w_556]; exact hx_563
              refine vp_callSi (W.runS (As := [.int x_563]) (rest := [.ref h0]) ⟨hx, hb, hml, hown, hts⟩ (c_J6_bitCount_x l g Ty G_539 x_563 ) (cwSx 1 hts hG (gwC mw_620) mw_99 mw_1553 mw_619 rfl rfl rfl hd_J6_bitCount_0f7a4 ⟨Nat.le_of_ble_eq_true rfl, Nat.le_of_ble_eq_true rfl⟩) ⟨PcH_blind, PcH_pre hK hH⟩ rfl rfl hl.1 rfl (lv_room (Nat.le_of_ble_eq_true rfl)) dX12_day_137 ⟨Nat.zero_le _, Nat.zero_le _⟩) (fun x_565 hx_565 => ?_)
              have rx_565 : rgI (0) (63) x_565 := hx_565.1
              refine lv_i2l hx hb dX12_day_140 rfl ?_
              refine lv_topl (fun u_566 eu_566 => ?_)
              refine va_callv (va_runV (As := [.long u_566]) (rest := []) ⟨hx, hb, hml, hown, hts⟩ (c_X12_tell l g Ty G_539 H.size h0 u_566 k_h0 (by rw [u_549]; exact rg_w rx_540 (by decide) (by decide))) (cwV 1 hts (gwV mw_1510 mw_1512 mw_48 mw_88 mw_1513) rfl rfl rfl hv_X12_tell ⟨Nat.le_of_ble_eq_true rfl, Nat.le_of_ble_eq_true rfl⟩) ⟨PcT_blind, hg_recv hK o_c_560 rfl, PcT_pre hK hH⟩ rfl rfl hl.1 rfl (lv_room (Nat.le_of_ble_eq_true rfl)) dX12_day_141 ⟨Nat.zero_le _, Nat.zero_le _⟩) hS (fun q _ h => AF.mono hS.1 h) (fun q h => AF.mono hS.1 h) (fun ux_567 t H locs ht hvm hx_567 hB hz hk hS => ?_)
              obtain ⟨eTx_567, eGx_567⟩ := hx_567
              obtain ⟨G_568, eG_568⟩ : ∃ z, z = ux_567.2 := ⟨_, rfl⟩
              rw [← eG_568] at eGx_567
              obtain ⟨x_569, ex_569⟩ : ∃ z : Int32, z = x_540 + 1 := ⟨_, rfl⟩
              have e_570 : G_568 = gset G_539 104 x_569 := by rw [ex_569, ← u_549]; exact eGx_567
              have rx_569 : rgI (2) (2) x_569 := by rw [ex_569]; exact rg_w (rg_add rx_540 rl_1 (by decide) (by decide)) (by decide) (by decide)
              have fr_571 : FR [102, 104, 105, 107, 108, 109, 110, 114, 117, 118, 119, 120, 122, 127, 128] [(g.2.2 116), (g.2.2 130), (g.2.2 100), (g.2.2 115), (g.2.2 125), (g.2.2 126), (g.2.2 129), (g.2.2 123), (g.2.2 121)] [106] G G_568 := FR.n fr_542 e_570 (by decide)
              have u_572 : G_568.1 102 = (G_77.1 102) := by rw [e_570]; exact (gs_ne (by decide)).trans u_543
              have u_573 : G_568.1 113 = (G.1 113) := by rw [e_570]; exact (gs_ne (by decide)).trans u_544
              have u_574 : G_568.1 133 = (G.1 133) := by rw [e_570]; exact (gs_ne (by decide)).trans u_545
              have u_575 : G_568.1 137 = (G.1 137) := by rw [e_570]; exact (gs_ne (by decide)).trans u_546
              have u_576 : G_568.1 117 = (G_77.1 117) := by rw [e_570]; exact (gs_ne (by decide)).trans u_547
              have u_577 : G_568.1 122 = n_509 := by rw [e_570]; exact (gs_ne (by decide)).trans u_548
              have u_578 : G_568.1 104 = x_569 := by rw [e_570]; exact gs_eq
              have w_579 : G_568.2.1 (g.2.2 140) = (G.2.1 (g.2.2 140)) := by rw [e_570]; exact w_550
              have w_580 : G_568.2.1 (g.2.2 141) = (G.2.1 (g.2.2 141)) := by rw [e_570]; exact w_551
              have w_581 : G_568.2.1 (g.2.2 111) = (G.2.1 (g.2.2 111)) := by rw [e_570]; exact w_552
              have w_582 : G_568.2.1 (g.2.2 116) = fl5_77 := by rw [e_570]; exact w_553
              have w_583 : G_568.2.1 (g.2.2 130) = fl6_77 := by rw [e_570]; exact w_554
              have w_584 : G_568.2.1 (g.2.2 123) = fl7_77 := by rw [e_570]; exact w_555
              have w_585 : G_568.2.1 (g.2.2 100) = f_401 := by rw [e_570]; exact w_556
              have w_586 : G_568.2.1 (g.2.2 121) = f_508 := by rw [e_570]; exact w_557
              have u_587 : G_568.2.2 111 = some (g.2.2 111) := by rw [e_570]; exact u_558
              have u_588 : G_568.2.2 112 = some (g.2.2 112) := by rw [e_570]; exact u_559
              have hH : HT g Ty G_568 H := by rw [← ht, ← eTx_567, eG_568]; exact hB
              refine lv_iload_n hx hb dX12_day_144 rfl (lv_at hl 2 rfl) ?_
              exact W.iret hx hb hr (fun t ht hWm => ⟨⟨y2_77, (Ty, G_568), rfl, ⟨rfl, ⟨fr_571, ⟨⟨(by rw [u_572]; exact (rg_w rg102_77 (by decide) (by decide))), (by rw [u_578]; exact (rg_w rx_569 (by decide) (by decide))), (by rw [u_573]; exact (rg_w hI.a113 (by decide) (by decide))), (by rw [u_577]; exact (rg_w rm_510.1 (by decide) (by decide))), (by rw [u_574]; exact (rg_w hI.a133 (by decide) (by decide))), (by rw [u_575]; exact (rg_w hI.a137 (by decide) (by decide))), u_587, u_588, (by rw [w_585]; exact (TI.hi (TI.hi ti_402 (show _ ≤ Bd + 2500 by have q := hi3_77; have q2 := (ry1_77).2; omega)) (by omega))), (by rw [w_586, u_577]; exact fun i hi => TI.hi (rm_510.2 i hi) (by omega)), (hI.ke2 (show Bd ≤ Bd + 3000 by omega) w_579 w_580)⟩, (by rw [u_572]; exact (rg_w rg102_77 (by decide) (by decide)))⟩⟩⟩, by show HT g Ty G_568 t.heap; rw [ht]; exact hH⟩, hS.F ht⟩) hS.2.2 dX12_day_145
            · have r_589 : rgI (2) (80) y1_77 := rg_w (rg_ltR r_484 r_375 (nle_lt c_533)) (by decide) (by decide)
              refine lv_lconst (v := 1) hx hb dX12_day_121 (by decide) ?_
              refine lv_goto (tgt := 126) hx hb dX12_day_122 (by decide) ?_
              obtain ⟨_, ⟨rfl, t_591, hk_592⟩, o_c_590⟩ := hH h0 _ k_h0
              refine va_callv (va_runV (As := [.long 1]) (rest := []) ⟨hx, hb, hml, hown, hts⟩ (c_X12_tell l g Ty G_514 H.size h0 1 k_h0 (by rw [u_522]; exact rg_w rl_0 (by decide) (by decide))) (cwV 1 hts (gwV mw_1510 mw_1512 mw_48 mw_88 mw_1513) rfl rfl rfl hv_X12_tell ⟨Nat.le_of_ble_eq_true rfl, Nat.le_of_ble_eq_true rfl⟩) ⟨PcT_blind, hg_recv hK o_c_590 rfl, PcT_pre hK hH⟩ rfl rfl hl.1 rfl (lv_room (Nat.le_of_ble_eq_true rfl)) dX12_day_126 ⟨Nat.zero_le _, Nat.zero_le _⟩) hS (fun q _ h => AF.mono hS.1 h) (fun q h => AF.mono hS.1 h) (fun ux_593 t H locs ht hvm hx_593 hB hz hk hS => ?_)
              obtain ⟨eTx_593, eGx_593⟩ := hx_593
              obtain ⟨G_594, eG_594⟩ : ∃ z, z = ux_593.2 := ⟨_, rfl⟩
              rw [← eG_594] at eGx_593
              obtain ⟨x_595, ex_595⟩ : ∃ z : Int32, z = 0 + 1 := ⟨_, rfl⟩
              have e_596 : G_594 = gset G_514 104 x_595 := by rw [ex_595, ← u_522]; exact eGx_593
              have rx_595 : rgI (1) (1) x_595 := by rw [ex_595]; exact rg_w (rg_add rl_0 rl_1 (by decide) (by decide)) (by decide) (by decide)
              have fr_597 : FR [102, 104, 105, 107, 108, 109, 110, 114, 117, 118, 119, 120, 122, 127, 128] [(g.2.2 116), (g.2.2 130), (g.2.2 100), (g.2.2 115), (g.2.2 125), (g.2.2 126), (g.2.2 129), (g.2.2 123), (g.2.2 121)] [106] G G_594 := FR.n fr_515 e_596 (by decide)
              have u_598 : G_594.1 102 = (G_77.1 102) := by rw [e_596]; exact (gs_ne (by decide)).trans u_516
              have u_599 : G_594.1 113 = (G.1 113) := by rw [e_596]; exact (gs_ne (by decide)).trans u_517
              have u_600 : G_594.1 133 = (G.1 133) := by rw [e_596]; exact (gs_ne (by decide)).trans u_518
              have u_601 : G_594.1 137 = (G.1 137) := by rw [e_596]; exact (gs_ne (by decide)).trans u_519
              have u_602 : G_594.1 117 = (G_77.1 117) := by rw [e_596]; exact (gs_ne (by decide)).trans u_520
              have u_603 : G_594.1 122 = n_509 := by rw [e_596]; exact (gs_ne (by decide)).trans u_521
              have u_604 : G_594.1 104 = x_595 := by rw [e_596]; exact gs_eq
              have w_605 : G_594.2.1 (g.2.2 140) = (G.2.1 (g.2.2 140)) := by rw [e_596]; exact w_523
              have w_606 : G_594.2.1 (g.2.2 141) = (G.2.1 (g.2.2 141)) := by rw [e_596]; exact w_524
              have w_607 : G_594.2.1 (g.2.2 111) = (G.2.1 (g.2.2 111)) := by rw [e_596]; exact w_525
              have w_608 : G_594.2.1 (g.2.2 116) = fl5_77 := by rw [e_596]; exact w_526
              have w_609 : G_594.2.1 (g.2.2 130) = fl6_77 := by rw [e_596]; exact w_527
              have w_610 : G_594.2.1 (g.2.2 123) = fl7_77 := by rw [e_596]; exact w_528
              have w_611 : G_594.2.1 (g.2.2 100) = f_401 := by rw [e_596]; exact w_529
              have w_612 : G_594.2.1 (g.2.2 121) = f_508 := by rw [e_596]; exact w_530
              have u_613 : G_594.2.2 111 = some (g.2.2 111) := by rw [e_596]; exact u_531
              have u_614 : G_594.2.2 112 = some (g.2.2 112) := by rw [e_596]; exact u_532
              have hH : HT g Ty G_594 H := by rw [← ht, ← eTx_593, eG_594]; exact hB
              refine lv_aload_n hx hb dX12_day_129 rfl (lv_at hl 0 rfl) ?_
              refine lv_aload_n hx hb dX12_day_130 rfl (lv_at hl 0 rfl) ?_
              obtain ⟨_, ⟨rfl, t_616, hk_617⟩, o_c_615⟩ := hH h0 _ k_h0
              refine hg_get hx hb hG igX12 hown hK o_c_615 rfl 0 (by decide) (hG _ mw_1284) rfl dX12_day_131 ?_
              refine vp_callSi (W.runS (As := [.ref (g.2.2 100)]) (rest := [.ref h0]) ⟨hx, hb, hml, hown, hts⟩ (c_X12_thereOf l g Ty G_594 (g.2.2 100) (hk_617.1)) (cwSx 1 hts hG (gwC mw_1552) mw_88 mw_1550 mw_1551 rfl rfl rfl hd_X12_thereOf ⟨Nat.le_of_ble_eq_true rfl, Nat.le_of_ble_eq_true rfl⟩) ⟨PcH_blind, PcH_pre hK hH⟩ rfl rfl hl.1 rfl (lv_room (Nat.le_of_ble_eq_true rfl)) dX12_day_134 ⟨Nat.zero_le _, Nat.zero_le _⟩) (fun x_618 hx_618 => ?_)
              have ex_619 : x_618 = F_X12_thereOf f_401 := by rw [← w_611]; exact hx_618
              refine vp_callSi (W.runS (As := [.int x_618]) (rest := [.ref h0]) ⟨hx, hb, hml, hown, hts⟩ (c_J6_bitCount_x l g Ty G_594 x_618 ) (cwSx 1 hts hG (gwC mw_620) mw_99 mw_1553 mw_619 rfl rfl rfl hd_J6_bitCount_0f7a4 ⟨Nat.le_of_ble_eq_true rfl, Nat.le_of_ble_eq_true rfl⟩) ⟨PcH_blind, PcH_pre hK hH⟩ rfl rfl hl.1 rfl (lv_room (Nat.le_of_ble_eq_true rfl)) dX12_day_137 ⟨Nat.zero_le _, Nat.zero_le _⟩) (fun x_620 hx_620 => ?_)
              have rx_620 : rgI (0) (63) x_620 := hx_620.1
              refine lv_i2l hx hb dX12_day_140 rfl ?_
              refine lv_topl (fun u_621 eu_621 => ?_)
              refine va_callv (va_runV (As := [.long u_621]) (rest := []) ⟨hx, hb, hml, hown, hts⟩ (c_X12_tell l g Ty G_594 H.size h0 u_621 k_h0 (by rw [u_604]; exact rg_w rx_595 (by decide) (by decide))) (cwV 1 hts (gwV mw_1510 mw_1512 mw_48 mw_88 mw_1513) rfl rfl rfl hv_X12_tell ⟨Nat.le_of_ble_eq_true rfl, Nat.le_of_ble_eq_true rfl⟩) ⟨PcT_blind, hg_recv hK o_c_615 rfl, PcT_pre hK hH⟩ rfl rfl hl.1 rfl (lv_room (Nat.le_of_ble_eq_true rfl)) dX12_day_141 ⟨Nat.zero_le _, Nat.zero_le _⟩) hS (fun q _ h => AF.mono hS.1 h) (fun q h => AF.mono hS.1 h) (fun ux_622 t H locs ht hvm hx_622 hB hz hk hS => ?_)
              obtain ⟨eTx_622, eGx_622⟩ := hx_622
              obtain ⟨G_623, eG_623⟩ : ∃ z, z = ux_622.2 := ⟨_, rfl⟩
              rw [← eG_623] at eGx_622
              obtain ⟨x_624, ex_624⟩ : ∃ z : Int32, z = x_595 + 1 := ⟨_, rfl⟩
              have e_625 : G_623 = gset G_594 104 x_624 := by rw [ex_624, ← u_604]; exact eGx_622
              have rx_624 : rgI (2) (2) x_624 := by rw [ex_624]; exact rg_w (rg_add rx_595 rl_1 (by decide) (by decide)) (by decide) (by decide)
              have fr_626 : FR [102, 104, 105, 107, 108, 109, 110, 114, 117, 118, 119, 120, 122, 127, 128] [(g.2.2 116), (g.2.2 130), (g.2.2 100), (g.2.2 115), (g.2.2 125), (g.2.2 126), (g.2.2 129), (g.2.2 123), (g.2.2 121)] [106] G G_623 := FR.n fr_597 e_625 (by decide)
              have u_627 : G_623.1 102 = (G_77.1 102) := by rw [e_625]; exact (gs_ne (by decide)).trans u_598
              have u_628 : G_623.1 113 = (G.1 113) := by rw [e_625]; exact (gs_ne (by decide)).trans u_599
              have u_629 : G_623.1 133 = (G.1 133) := by rw [e_625]; exact (gs_ne (by decide)).trans u_600
              have u_630 : G_623.1 137 = (G.1 137) := by rw [e_625]; exact (gs_ne (by decide)).trans u_601
              have u_631 : G_623.1 117 = (G_77.1 117) := by rw [e_625]; exact (gs_ne (by decide)).trans u_602
              have u_632 : G_623.1 122 = n_509 := by rw [e_625]; exact (gs_ne (by decide)).trans u_603
              have u_633 : G_623.1 104 = x_624 := by rw [e_625]; exact gs_eq
              have w_634 : G_623.2.1 (g.2.2 140) = (G.2.1 (g.2.2 140)) := by rw [e_625]; exact w_605
              have w_635 : G_623.2.1 (g.2.2 141) = (G.2.1 (g.2.2 141)) := by rw [e_625]; exact w_606
              have w_636 : G_623.2.1 (g.2.2 111) = (G.2.1 (g.2.2 111)) := by rw [e_625]; exact w_607
              have w_637 : G_623.2.1 (g.2.2 116) = fl5_77 := by rw [e_625]; exact w_608
              have w_638 : G_623.2.1 (g.2.2 130) = fl6_77 := by rw [e_625]; exact w_609
              have w_639 : G_623.2.1 (g.2.2 123) = fl7_77 := by rw [e_625]; exact w_610
              have w_640 : G_623.2.1 (g.2.2 100) = f_401 := by rw [e_625]; exact w_611
              have w_641 : G_623.2.1 (g.2.2 121) = f_508 := by rw [e_625]; exact w_612
              have u_642 : G_623.2.2 111 = some (g.2.2 111) := by rw [e_625]; exact u_613
              have u_643 : G_623.2.2 112 = some (g.2.2 112) := by rw [e_625]; exact u_614
              have hH : HT g Ty G_623 H := by rw [← ht, ← eTx_622, eG_623]; exact hB
              refine lv_iload_n hx hb dX12_day_144 rfl (lv_at hl 2 rfl) ?_
              exact W.iret hx hb hr (fun t ht hWm => ⟨⟨y2_77, (Ty, G_623), rfl, ⟨rfl, ⟨fr_626, ⟨⟨(by rw [u_627]; exact (rg_w rg102_77 (by decide) (by decide))), (by rw [u_633]; exact (rg_w rx_624 (by decide) (by decide))), (by rw [u_628]; exact (rg_w hI.a113 (by decide) (by decide))), (by rw [u_632]; exact (rg_w rm_510.1 (by decide) (by decide))), (by rw [u_629]; exact (rg_w hI.a133 (by decide) (by decide))), (by rw [u_630]; exact (rg_w hI.a137 (by decide) (by decide))), u_642, u_643, (by rw [w_640]; exact (TI.hi (TI.hi ti_402 (show _ ≤ Bd + 2500 by have q := hi3_77; have q2 := (ry1_77).2; omega)) (by omega))), (by rw [w_641, u_632]; exact fun i hi => TI.hi (rm_510.2 i hi) (by omega)), (hI.ke2 (show Bd ≤ Bd + 3000 by omega) w_634 w_635)⟩, (by rw [u_627]; exact (rg_w rg102_77 (by decide) (by decide)))⟩⟩⟩, by show HT g Ty G_623 t.heap; rw [ht]; exact hH⟩, hS.F ht⟩) hS.2.2 dX12_day_145
        · have r_644 : rgI (1) (1) x_380 := rg_w (rg_neL rx_380 rl_0 c_403) (by decide) (by decide)
          obtain ⟨x_645, ex_645⟩ : ∃ y : Int32, y = y2_77 + 1 := ⟨_, rfl⟩
          have rx_645 : rgI (1) (80) x_645 := by rw [ex_645]; exact rg_w (rg_add r_374 rl_1 (by decide) (by decide)) (by decide) (by decide)
          have qx_645 : x_645.toInt = (y2_77 : Int32).toInt + 1 := by rw [ex_645]; exact rg_addE r_374 rl_1 (by decide) (by decide)
          refine lv_iinc (v := x_645) (lv' := [(2, .int x_645), (0, .ref h0), (1, .int y1_77)]) hx hb dX12_day_92 hl (k := 2) rfl (by rw [ex_645]; rfl) (by decide) rfl (fun ls hl => ?_)
          refine lv_goto (tgt := 77) hx hb dX12_day_95 (by decide) ?_
          exact ih_77 H locs G_381 f_401 (G.2.1 (g.2.2 121)) fl5_77 fl6_77 fl7_77 y1_77 x_645 ls (by rw [u_385]; exact rg_w rg102_77 (by decide) (by decide)) (by rw [u_386]; exact rg_w rg104_77 (by decide) (by decide)) (by rw [u_387]; exact rg_w hI.a122 (by decide) (by decide)) fr_384 ef_401 w_392 w_396 w_397 w_398 w_392 u_387 (rg_w r_375 (by decide) (by decide)) (rg_w rx_645 (by decide) (by decide)) (TI.hi ti_402 (by have q := qx_645; omega)) hi1_77 (by rw [u_391]; exact hi2_77) (by have q := qx_645; have q2 := fz_lt.mp (nle_lt c_1); omega) (by have h1 := qx_645; have h2 := r_374.1; have h3 := r_374.2; have h4 := hm_77; omega) (lv_sub hl [1, 2, 0] rfl) hH hS
  have L_18 : ∀ (n : Nat) (H : Heap) (locs : List Loc) (G_18 : Gh) (fl0_18 : Nat → Int32) (fl1_18 : Nat → Int32) (fl5_18 : Nat → Int32) (fl6_18 : Nat → Int32) (fl7_18 : Nat → Int32) (y1_18 : Int32) (ls : Array Slot), rgI (0) (80) (G_18.1 107) → rgI (0) (80) (G_18.1 109) → rgI (0) (0) (G_18.1 102) → rgI (0) (32) (G_18.1 104) → rgI (0) (12) (G_18.1 122) → FR [102, 104, 105, 107, 108, 109, 110, 114, 117, 118, 119, 120, 122, 127, 128] [(g.2.2 116), (g.2.2 130), (g.2.2 100), (g.2.2 115), (g.2.2 125), (g.2.2 126), (g.2.2 129), (g.2.2 123), (g.2.2 121)] [106] G G_18 → G_18.2.1 (g.2.2 100) = fl0_18 → G_18.2.1 (g.2.2 121) = fl1_18 → G_18.2.1 (g.2.2 116) = fl5_18 → G_18.2.1 (g.2.2 130) = fl6_18 → G_18.2.1 (g.2.2 123) = fl7_18 → G_18.2.2 106 = some (g.2.2 101) → G_18.2.1 (g.2.2 100) = (G.2.1 (g.2.2 100)) → G_18.2.1 (g.2.2 121) = (G.2.1 (g.2.2 121)) → G_18.1 122 = G.1 122 → rgI (0) (80) y1_18 → DY fl5_18 fl6_18 y1_18 (G_18.1 117) (G_18.1 109) (G_18.1 110) → WR (G_18.1 110) → dyM (G_18.1 109) (G_18.1 110) < n → lv_has ls 3 [(0, .ref h0), (1, .int y1_18)] → HT g Ty G_18 H → va_S (AF Ty s.heap.size) s.heap H locs → Wm p l e (wsG yX12_day cX12_day 3 (some .int)) ({ frames := 343, cells := 0, slots := 0, locals := 8050 }) s m [.ref h0] below meth c H locs (0) (0) (QwI g Ty s.heap.size (fun r u => u.1 = Ty ∧ FR [102, 104, 105, 107, 108, 109, 110, 114, 117, 118, 119, 120, 122, 127, 128] [(g.2.2 116), (g.2.2 130), (g.2.2 100), (g.2.2 115), (g.2.2 125), (g.2.2 126), (g.2.2 129), (g.2.2 123), (g.2.2 121)] [106] G u.2 ∧ OI g (Bd + 3000) u.2 ∧ rgI 0 0 (u.2.1 102))) 0 0 (AF Ty s.heap.size) (F0 m 18 ls []) := by
    intro n
    induction n with
    | zero => intro H locs G_18 fl0_18 fl1_18 fl5_18 fl6_18 fl7_18 y1_18 ls rg107_18 rg109_18 rg102_18 rg104_18 rg122_18 frL_18 efl0_18 efl1_18 efl5_18 efl6_18 efl7_18 lr106_18 ls0_18 ls1_18 ln_18 ry1_18 hi0_18 hi1_18 hm; exact absurd hm (Nat.not_lt_zero _)
    | succ n ih_18 =>
      intro H locs G_18 fl0_18 fl1_18 fl5_18 fl6_18 fl7_18 y1_18 ls rg107_18 rg109_18 rg102_18 rg104_18 rg122_18 frL_18 efl0_18 efl1_18 efl5_18 efl6_18 efl7_18 lr106_18 ls0_18 ls1_18 ln_18 ry1_18 hi0_18 hi1_18 hm_18 hl hH hS
      refine lv_aload_n hx hb dX12_day_18 rfl (lv_at hl 0 rfl) ?_
      obtain ⟨_, ⟨rfl, t_647, hk_648⟩, o_c_646⟩ := hH h0 _ k_h0
      refine vp_callSi (W.runV (As := []) (rest := []) ⟨hx, hb, hml, hown, hts⟩ (c_X12_fine_p l g Ty G_18 h0 k_h0 (g.2.2 101) 80 (G_18.2.1 (g.2.2 101)) (G_18.2.1 (g.2.2 115)) (G_18.1 107) (G_18.1 108) (G_18.1 114) 80 (G_18.1 109) (G_18.1 110) ⟨lr106_18, hmk.2.1, rfl, (fun _ _ => rfl), rfl, rfl, rfl, rfl, rfl, (rg_w rg107_18 (by decide) (by decide)), by decide, Or.inl (show ((G_18.1 107) : Int32).toInt ≤ 80 from (rg_w (a2 := 0) (b2 := 80) rg107_18 (by decide) (by decide)).2), by decide, by decide, (rg_w rg109_18 (by decide) (by decide))⟩) (cwV 0 hts (gwV mw_1463 mw_1465 mw_39 mw_88 mw_1466) rfl rfl rfl hv_X12_fine ⟨Nat.le_of_ble_eq_true rfl, Nat.le_of_ble_eq_true rfl⟩) ⟨PcH_blind, hg_recv hK o_c_646 rfl, PcH_pre hK hH⟩ rfl rfl hl.1 rfl (lv_room (Nat.le_of_ble_eq_true rfl)) dX12_day_19 ⟨Nat.zero_le _, Nat.zero_le _⟩) (fun x_649 hx_649 => ?_)
      have rx_649 : rgI (0) (1) x_649 := hx_649.1
      refine lv_if_eq (tgt := 49) hx hb dX12_day_22 (by decide) (fun c_650 => ?_) (fun c_650 => ?_)
      · have r_651 : rgI (0) (0) x_649 := rg_w (rg_eq rl_0 c_650) (by decide) (by decide)
        refine lv_aload_n hx hb dX12_day_49 rfl (lv_at hl 0 rfl) ?_
        refine va_calli (va_runV (As := []) (rest := []) ⟨hx, hb, hml, hown, hts⟩ (c_X12_wasRight l g Ty G_18 H.size h0 k_h0 (g.2.2 101) 80 (G_18.2.1 (g.2.2 101)) (G_18.2.1 (g.2.2 115)) (G_18.1 107) (G_18.1 108) (G_18.1 114) 80 (G_18.1 109) (G_18.1 110) ⟨lr106_18, hmk.2.1, rfl, (fun _ _ => rfl), rfl, rfl, rfl, rfl, rfl, (rg_w rg107_18 (by decide) (by decide)), by decide, Or.inl (show ((G_18.1 107) : Int32).toInt ≤ 80 from (rg_w (a2 := 0) (b2 := 80) rg107_18 (by decide) (by decide)).2), by decide, by decide, (rg_w rg109_18 (by decide) (by decide))⟩) (cwV 0 hts (gwV mw_1490 mw_1492 mw_45 mw_88 mw_1493) rfl rfl rfl hv_X12_wasRight ⟨Nat.le_of_ble_eq_true rfl, Nat.le_of_ble_eq_true rfl⟩) ⟨PcT_blind, hg_recv hK o_c_646 rfl, PcT_pre hK hH⟩ rfl rfl hl.1 rfl (lv_room (Nat.le_of_ble_eq_true rfl)) dX12_day_50 ⟨Nat.zero_le _, Nat.zero_le _⟩) hS (fun q _ h => AF.mono hS.1 h) (fun q h => AF.mono hS.1 h) (fun x_652 ux_652 t H locs ht hvm hx_652 hB hz hk hS => ?_)
        obtain ⟨eTx_652, eGx_652⟩ := hx_652
        obtain ⟨G_653, eG_653⟩ : ∃ z, z = ux_652.2 := ⟨_, rfl⟩
        rw [← eG_653] at eGx_652
        have pq_654 := wsr_pr eGx_652 (rg_w rg109_18 (by decide) (by decide))
        obtain ⟨hr_655, hg_656, hm_657, hq_658⟩ := eGx_652
        have hfr_659 : FR [109, 110] [] [] G_18 G_653 := FR.ps FR.rf hg_656 (by decide) (by decide)
        have fr_660 : FR [102, 104, 105, 107, 108, 109, 110, 114, 117, 118, 119, 120, 122, 127, 128] [(g.2.2 116), (g.2.2 130), (g.2.2 100), (g.2.2 115), (g.2.2 125), (g.2.2 126), (g.2.2 129), (g.2.2 123), (g.2.2 121)] [106] G G_653 := FR.tr frL_18 hfr_659 (by decide) (fun _ _ => trivial) (by decide)
        have u_661 : G_653.1 107 = (G_18.1 107) := (hfr_659.1 107 (by decide))
        have u_662 : G_653.1 102 = (G_18.1 102) := (hfr_659.1 102 (by decide))
        have u_663 : G_653.1 104 = (G_18.1 104) := (hfr_659.1 104 (by decide))
        have u_664 : G_653.1 122 = (G.1 122) := (hfr_659.1 122 (by decide)).trans ln_18
        have u_665 : G_653.1 113 = (G.1 113) := (hfr_659.1 113 (by decide)).trans (frL_18.1 113 (by decide))
        have u_666 : G_653.1 133 = (G.1 133) := (hfr_659.1 133 (by decide)).trans (frL_18.1 133 (by decide))
        have u_667 : G_653.1 137 = (G.1 137) := (hfr_659.1 137 (by decide)).trans (frL_18.1 137 (by decide))
        have u_668 : G_653.1 108 = (G_18.1 108) := (hfr_659.1 108 (by decide))
        have u_669 : G_653.1 117 = (G_18.1 117) := (hfr_659.1 117 (by decide))
        have u_670 : G_653.1 118 = (G_18.1 118) := (hfr_659.1 118 (by decide))
        have u_671 : G_653.1 119 = (G_18.1 119) := (hfr_659.1 119 (by decide))
        have u_672 : G_653.1 120 = (G_18.1 120) := (hfr_659.1 120 (by decide))
        have w_673 : G_653.2.1 (g.2.2 100) = (G.2.1 (g.2.2 100)) := (hfr_659.2.1 (g.2.2 100) trivial).trans ls0_18
        have w_674 : G_653.2.1 (g.2.2 121) = (G.2.1 (g.2.2 121)) := (hfr_659.2.1 (g.2.2 121) trivial).trans ls1_18
        have w_675 : G_653.2.1 (g.2.2 140) = (G.2.1 (g.2.2 140)) := (hfr_659.2.1 (g.2.2 140) trivial).trans (frL_18.2.1 (g.2.2 140) ⟨(ne_kd hmk.2.2.2.2.2.2.2.2.2.2.2.2.2.2.2.2.2.2.1 hmk.2.2.2.2.1 (by decide)), (ne_kd hmk.2.2.2.2.2.2.2.2.2.2.2.2.2.2.2.2.2.2.1 hmk.2.2.2.2.2.2.2.2.2.2.2.1 (by decide)), (ne_kd hmk.2.2.2.2.2.2.2.2.2.2.2.2.2.2.2.2.2.2.1 hmk.1 (by decide)), (ne_kd hmk.2.2.2.2.2.2.2.2.2.2.2.2.2.2.2.2.2.2.1 hmk.2.2.2.1 (by decide)), (ne_kd hmk.2.2.2.2.2.2.2.2.2.2.2.2.2.2.2.2.2.2.1 hmk.2.2.2.2.2.2.2.2.1 (by decide)), (ne_kd hmk.2.2.2.2.2.2.2.2.2.2.2.2.2.2.2.2.2.2.1 hmk.2.2.2.2.2.2.2.2.2.1 (by decide)), (ne_kd hmk.2.2.2.2.2.2.2.2.2.2.2.2.2.2.2.2.2.2.1 hmk.2.2.2.2.2.2.2.2.2.2.1 (by decide)), (ne_kd hmk.2.2.2.2.2.2.2.2.2.2.2.2.2.2.2.2.2.2.1 hmk.2.2.2.2.2.2.1 (by decide)), (ne_kd hmk.2.2.2.2.2.2.2.2.2.2.2.2.2.2.2.2.2.2.1 hmk.2.2.2.2.2.1 (by decide)), trivial⟩)
        have w_676 : G_653.2.1 (g.2.2 141) = (G.2.1 (g.2.2 141)) := (hfr_659.2.1 (g.2.2 141) trivial).trans (frL_18.2.1 (g.2.2 141) ⟨(ne_kd hmk.2.2.2.2.2.2.2.2.2.2.2.2.2.2.2.2.2.2.2.1 hmk.2.2.2.2.1 (by decide)), (ne_kd hmk.2.2.2.2.2.2.2.2.2.2.2.2.2.2.2.2.2.2.2.1 hmk.2.2.2.2.2.2.2.2.2.2.2.1 (by decide)), (ne_kd hmk.2.2.2.2.2.2.2.2.2.2.2.2.2.2.2.2.2.2.2.1 hmk.1 (by decide)), (ne_kd hmk.2.2.2.2.2.2.2.2.2.2.2.2.2.2.2.2.2.2.2.1 hmk.2.2.2.1 (by decide)), (ne_kd hmk.2.2.2.2.2.2.2.2.2.2.2.2.2.2.2.2.2.2.2.1 hmk.2.2.2.2.2.2.2.2.1 (by decide)), (ne_kd hmk.2.2.2.2.2.2.2.2.2.2.2.2.2.2.2.2.2.2.2.1 hmk.2.2.2.2.2.2.2.2.2.1 (by decide)), (ne_kd hmk.2.2.2.2.2.2.2.2.2.2.2.2.2.2.2.2.2.2.2.1 hmk.2.2.2.2.2.2.2.2.2.2.1 (by decide)), (ne_kd hmk.2.2.2.2.2.2.2.2.2.2.2.2.2.2.2.2.2.2.2.1 hmk.2.2.2.2.2.2.1 (by decide)), (ne_kd hmk.2.2.2.2.2.2.2.2.2.2.2.2.2.2.2.2.2.2.2.1 hmk.2.2.2.2.2.1 (by decide)), trivial⟩)
        have w_677 : G_653.2.1 (g.2.2 111) = (G.2.1 (g.2.2 111)) := (hfr_659.2.1 (g.2.2 111) trivial).trans (frL_18.2.1 (g.2.2 111) ⟨(ne_kd hmk.2.2.2.2.2.2.2.2.2.2.2.2.2.2.2.2.2.2.2.2.1 hmk.2.2.2.2.1 (by decide)), (ne_kd hmk.2.2.2.2.2.2.2.2.2.2.2.2.2.2.2.2.2.2.2.2.1 hmk.2.2.2.2.2.2.2.2.2.2.2.1 (by decide)), (ne_kd hmk.2.2.2.2.2.2.2.2.2.2.2.2.2.2.2.2.2.2.2.2.1 hmk.1 (by decide)), (ne_kd hmk.2.2.2.2.2.2.2.2.2.2.2.2.2.2.2.2.2.2.2.2.1 hmk.2.2.2.1 (by decide)), (ne_kd hmk.2.2.2.2.2.2.2.2.2.2.2.2.2.2.2.2.2.2.2.2.1 hmk.2.2.2.2.2.2.2.2.1 (by decide)), (ne_kd hmk.2.2.2.2.2.2.2.2.2.2.2.2.2.2.2.2.2.2.2.2.1 hmk.2.2.2.2.2.2.2.2.2.1 (by decide)), (ne_kd hmk.2.2.2.2.2.2.2.2.2.2.2.2.2.2.2.2.2.2.2.2.1 hmk.2.2.2.2.2.2.2.2.2.2.1 (by decide)), (ne_kd hmk.2.2.2.2.2.2.2.2.2.2.2.2.2.2.2.2.2.2.2.2.1 hmk.2.2.2.2.2.2.1 (by decide)), (ne_kd hmk.2.2.2.2.2.2.2.2.2.2.2.2.2.2.2.2.2.2.2.2.1 hmk.2.2.2.2.2.1 (by decide)), trivial⟩)
        have w_678 : G_653.2.1 (g.2.2 116) = fl5_18 := (hfr_659.2.1 (g.2.2 116) trivial).trans efl5_18
        have w_679 : G_653.2.1 (g.2.2 130) = fl6_18 := (hfr_659.2.1 (g.2.2 130) trivial).trans efl6_18
        have w_680 : G_653.2.1 (g.2.2 123) = fl7_18 := (hfr_659.2.1 (g.2.2 123) trivial).trans efl7_18
        have u_681 : G_653.2.2 111 = some (g.2.2 111) := (hfr_659.2.2 111 (by decide)).trans ((frL_18.2.2 111 (by decide)).trans hI.r111)
        have u_682 : G_653.2.2 112 = some (g.2.2 112) := (hfr_659.2.2 112 (by decide)).trans ((frL_18.2.2 112 (by decide)).trans hI.r112)
        have u_683 : G_653.2.2 106 = some (g.2.2 101) := (hfr_659.2.2 106 (by decide)).trans lr106_18
        obtain ⟨xw_684, exw_684⟩ : ∃ z : Int32, G_653.1 110 = z := ⟨_, rfl⟩
        have e9_685 := pq_654.1
        rw [exw_684] at pq_654
        have hH : HT g Ty G_653 H := by rw [← ht, ← eTx_652, eG_653]; exact hB
        refine lv_if_ne (tgt := 63) hx hb dX12_day_53 (by decide) (fun c_686 => ?_) (fun c_686 => ?_)
        · have w_687 := (pq_654.2.2.1 c_686).1
          have dy_688 := hi0_18.2.2 w_687
          have rn_689 : rgI 0 80 y1_18 := ⟨hi0_18.1, by have q := dy_688.1; have q2 := (rg109_18).2; omega⟩
          refine lv_aload_n hx hb dX12_day_63 rfl (lv_at hl 0 rfl) ?_
          obtain ⟨_, ⟨rfl, t_691, hk_692⟩, o_c_690⟩ := hH h0 _ k_h0
          refine hg_get hx hb hG igX12 hown hK o_c_690 rfl 0 (by decide) (hG _ mw_1284) rfl dX12_day_64 ?_
          refine lv_aload_n hx hb dX12_day_67 rfl (lv_at hl 0 rfl) ?_
          refine hg_get hx hb hG igX12 hown hK o_c_690 rfl 23 (by decide) (hG _ mw_1307) rfl dX12_day_68 ?_
          refine lv_iconst (v := 0) hx hb dX12_day_71 (by decide) ?_
          refine va_callv (va_runS (As := [.ref (g.2.2 100), .ref (g.2.2 123), .int 0]) (rest := []) ⟨hx, hb, hml, hown, hts⟩ (c_X12_lay_a l g Ty G_653 H.size (g.2.2 100) (g.2.2 123) 0 (hk_692.1) (hk_692.2.2.2.2.2.2.1) (rg_w rl_0 (by decide) (by decide)) (hLD 100 (by decide) 123 (by decide) (by decide))) (cwSx 3 hts hG (gwC mw_1583) mw_88 mw_1581 mw_1582 rfl rfl rfl hd_X12_lay ⟨Nat.le_of_ble_eq_true rfl, Nat.le_of_ble_eq_true rfl⟩) ⟨PcT_blind, PcT_pre hK hH⟩ rfl rfl hl.1 rfl (lv_room (Nat.le_of_ble_eq_true rfl)) dX12_day_72 ⟨Nat.zero_le _, Nat.zero_le _⟩) hS (fun q _ h => AF.mono hS.1 h) (fun q h => AF.mono hS.1 h) (fun ux_693 t H locs ht hvm hx_693 hB hz hk hS => ?_)
          obtain ⟨eTx_693, eGx_693⟩ := hx_693
          obtain ⟨G_694, eG_694⟩ : ∃ z, z = ux_693.2 := ⟨_, rfl⟩
          rw [← eG_694] at eGx_693
          obtain ⟨hfr_695, hex_696⟩ := eGx_693
          have fr_697 : FR [102, 104, 105, 107, 108, 109, 110, 114, 117, 118, 119, 120, 122, 127, 128] [(g.2.2 116), (g.2.2 130), (g.2.2 100), (g.2.2 115), (g.2.2 125), (g.2.2 126), (g.2.2 129), (g.2.2 123), (g.2.2 121)] [106] G G_694 := FR.tr fr_660 hfr_695 (by decide) (fun b h => ⟨h.2.2.2.2.2.2.2.1, trivial⟩) (by decide)
          have u_698 : G_694.1 107 = (G_18.1 107) := (hfr_695.1 107 (by decide)).trans u_661
          have u_699 : G_694.1 102 = (G_18.1 102) := (hfr_695.1 102 (by decide)).trans u_662
          have u_700 : G_694.1 104 = (G_18.1 104) := (hfr_695.1 104 (by decide)).trans u_663
          have u_701 : G_694.1 122 = (G.1 122) := (hfr_695.1 122 (by decide)).trans u_664
          have u_702 : G_694.1 113 = (G.1 113) := (hfr_695.1 113 (by decide)).trans u_665
          have u_703 : G_694.1 133 = (G.1 133) := (hfr_695.1 133 (by decide)).trans u_666
          have u_704 : G_694.1 137 = (G.1 137) := (hfr_695.1 137 (by decide)).trans u_667
          have u_705 : G_694.1 108 = (G_18.1 108) := (hfr_695.1 108 (by decide)).trans u_668
          have u_706 : G_694.1 117 = (G_18.1 117) := (hfr_695.1 117 (by decide)).trans u_669
          have u_707 : G_694.1 118 = (G_18.1 118) := (hfr_695.1 118 (by decide)).trans u_670
          have u_708 : G_694.1 119 = (G_18.1 119) := (hfr_695.1 119 (by decide)).trans u_671
          have u_709 : G_694.1 120 = (G_18.1 120) := (hfr_695.1 120 (by decide)).trans u_672
          have u_710 : G_694.1 110 = xw_684 := (hfr_695.1 110 (by decide)).trans exw_684
          have u_711 : G_694.1 109 = (G_18.1 109) := (hfr_695.1 109 (by decide)).trans e9_685
          have w_712 : G_694.2.1 (g.2.2 100) = (G.2.1 (g.2.2 100)) := (hfr_695.2.1 (g.2.2 100) ⟨(hLD 100 (by decide) 123 (by decide) (by decide)), trivial⟩).trans w_673
          have w_713 : G_694.2.1 (g.2.2 121) = (G.2.1 (g.2.2 121)) := (hfr_695.2.1 (g.2.2 121) ⟨(ne_kd hmk.2.2.2.2.2.1 hmk.2.2.2.2.2.2.1 (by decide)), trivial⟩).trans w_674
          have w_714 : G_694.2.1 (g.2.2 140) = (G.2.1 (g.2.2 140)) := (hfr_695.2.1 (g.2.2 140) ⟨(ne_kd hmk.2.2.2.2.2.2.2.2.2.2.2.2.2.2.2.2.2.2.1 hmk.2.2.2.2.2.2.1 (by decide)), trivial⟩).trans w_675
          have w_715 : G_694.2.1 (g.2.2 141) = (G.2.1 (g.2.2 141)) := (hfr_695.2.1 (g.2.2 141) ⟨(ne_kd hmk.2.2.2.2.2.2.2.2.2.2.2.2.2.2.2.2.2.2.2.1 hmk.2.2.2.2.2.2.1 (by decide)), trivial⟩).trans w_676
          have w_716 : G_694.2.1 (g.2.2 111) = (G.2.1 (g.2.2 111)) := (hfr_695.2.1 (g.2.2 111) ⟨(ne_kd hmk.2.2.2.2.2.2.2.2.2.2.2.2.2.2.2.2.2.2.2.2.1 hmk.2.2.2.2.2.2.1 (by decide)), trivial⟩).trans w_677
          have w_717 : G_694.2.1 (g.2.2 116) = fl5_18 := (hfr_695.2.1 (g.2.2 116) ⟨(ne_kd hmk.2.2.2.2.1 hmk.2.2.2.2.2.2.1 (by decide)), trivial⟩).trans w_678
          have w_718 : G_694.2.1 (g.2.2 130) = fl6_18 := (hfr_695.2.1 (g.2.2 130) ⟨(ne_kd hmk.2.2.2.2.2.2.2.2.2.2.2.1 hmk.2.2.2.2.2.2.1 (by decide)), trivial⟩).trans w_679
          have u_719 : G_694.2.2 111 = some (g.2.2 111) := (hfr_695.2.2 111 (by decide)).trans u_681
          have u_720 : G_694.2.2 112 = some (g.2.2 112) := (hfr_695.2.2 112 (by decide)).trans u_682
          have u_721 : G_694.2.2 106 = some (g.2.2 101) := (hfr_695.2.2 106 (by decide)).trans u_683
          obtain ⟨f_722, ef_722⟩ : ∃ z : Nat → Int32, G_694.2.1 (g.2.2 123) = z := ⟨_, rfl⟩
          have ly_723 := hex_696
          rw [ef_722, w_673, w_680] at ly_723
          have hH : HT g Ty G_694 H := by rw [← ht, ← eTx_693, eG_694]; exact hB
          refine lv_iconst (v := 0) hx hb dX12_day_75 (by decide) ?_
          refine lv_istore_n (lv' := [(2, .int 0), (0, .ref h0), (1, .int y1_18)]) hx hb dX12_day_76 rfl hl (by decide) rfl (fun ls hl => ?_)
          exact L_77 _ H locs G_694 (G.2.1 (g.2.2 100)) (G.2.1 (g.2.2 121)) fl5_18 fl6_18 f_722 y1_18 0 ls (by rw [u_699]; exact rg_w rg102_18 (by decide) (by decide)) (by rw [u_700]; exact rg_w rg104_18 (by decide) (by decide)) (by rw [u_701]; exact rg_w hI.a122 (by decide) (by decide)) fr_697 w_712 w_713 w_717 w_718 ef_722 w_713 u_701 rn_689 (rg_w rl_0 (by decide) (by decide)) (hI.ti.hi (by show _ ≤ _ + 25 * (0 : Int); omega)) (LY_sr ly_723) (by rw [u_706]; exact dy_688.2.2.2) (by show (0 : Int) ≤ _; exact (rn_689).1) (Nat.lt_succ_self _) (lv_sub hl [1, 2, 0] rfl) hH hS
        · have r_724 : rgI (0) (0) x_652 := rg_w (rg_eq rl_0 c_686) (by decide) (by decide)
          refine lv_iconst (v := (-1)) hx hb dX12_day_56 (by decide) ?_
          refine lv_aload_n hx hb dX12_day_57 rfl (lv_at hl 0 rfl) ?_
          obtain ⟨_, ⟨rfl, t_726, hk_727⟩, o_c_725⟩ := hH h0 _ k_h0
          refine hg_get hx hb hG igX12 hown hK o_c_725 rfl 10 (by decide) (hG _ mw_1294) rfl dX12_day_58 ?_
          rw [exw_684]
          refine lv_isub hx hb dX12_day_61 ?_
          refine lv_topi (fun x_728 ex_728 => ?_)
          exact W.iret hx hb hr (fun t ht hWm => ⟨⟨x_728, (Ty, G_653), rfl, ⟨rfl, ⟨fr_660, ⟨⟨(by rw [u_662]; exact (rg_w rg102_18 (by decide) (by decide))), (by rw [u_663]; exact (rg_w rg104_18 (by decide) (by decide))), (by rw [u_665]; exact (rg_w hI.a113 (by decide) (by decide))), (by rw [u_664]; exact (rg_w hI.a122 (by decide) (by decide))), (by rw [u_666]; exact (rg_w hI.a133 (by decide) (by decide))), (by rw [u_667]; exact (rg_w hI.a137 (by decide) (by decide))), u_681, u_682, (by rw [w_673]; exact (hI.ti.hi (show Bd ≤ Bd + 3000 by omega))), (hI.un2 (show Bd ≤ Bd + 3000 by omega) w_674 u_664), (hI.ke2 (show Bd ≤ Bd + 3000 by omega) w_675 w_676)⟩, (by rw [u_662]; exact (rg_w rg102_18 (by decide) (by decide)))⟩⟩⟩, by show HT g Ty G_653 t.heap; rw [ht]; exact hH⟩, hS.F ht⟩) hS.2.2 dX12_day_62
      · have r_729 : rgI (1) (1) x_649 := rg_w (rg_neL rx_649 rl_0 c_650) (by decide) (by decide)
        refine lv_aload_n hx hb dX12_day_25 rfl (lv_at hl 0 rfl) ?_
        refine hg_get hx hb hG igX12 hown hK o_c_646 rfl 9 (by decide) (hG _ mw_1293) rfl dX12_day_26 ?_
        refine lv_aload_n hx hb dX12_day_29 rfl (lv_at hl 0 rfl) ?_
        refine hg_get hx hb hG igX12 hown hK o_c_646 rfl 7 (by decide) (hG _ mw_1291) rfl dX12_day_30 ?_
        refine lv_icmp_ge (tgt := 49) hx hb dX12_day_33 (by decide) (fun c_730 => ?_) (fun c_730 => ?_)
        · refine lv_aload_n hx hb dX12_day_49 rfl (lv_at hl 0 rfl) ?_
          refine va_calli (va_runV (As := []) (rest := []) ⟨hx, hb, hml, hown, hts⟩ (c_X12_wasRight l g Ty G_18 H.size h0 k_h0 (g.2.2 101) 80 (G_18.2.1 (g.2.2 101)) (G_18.2.1 (g.2.2 115)) (G_18.1 107) (G_18.1 108) (G_18.1 114) 80 (G_18.1 109) (G_18.1 110) ⟨lr106_18, hmk.2.1, rfl, (fun _ _ => rfl), rfl, rfl, rfl, rfl, rfl, (rg_w rg107_18 (by decide) (by decide)), by decide, Or.inl (show ((G_18.1 107) : Int32).toInt ≤ 80 from (rg_w (a2 := 0) (b2 := 80) rg107_18 (by decide) (by decide)).2), by decide, by decide, (rg_w rg109_18 (by decide) (by decide))⟩) (cwV 0 hts (gwV mw_1490 mw_1492 mw_45 mw_88 mw_1493) rfl rfl rfl hv_X12_wasRight ⟨Nat.le_of_ble_eq_true rfl, Nat.le_of_ble_eq_true rfl⟩) ⟨PcT_blind, hg_recv hK o_c_646 rfl, PcT_pre hK hH⟩ rfl rfl hl.1 rfl (lv_room (Nat.le_of_ble_eq_true rfl)) dX12_day_50 ⟨Nat.zero_le _, Nat.zero_le _⟩) hS (fun q _ h => AF.mono hS.1 h) (fun q h => AF.mono hS.1 h) (fun x_731 ux_731 t H locs ht hvm hx_731 hB hz hk hS => ?_)
          obtain ⟨eTx_731, eGx_731⟩ := hx_731
          obtain ⟨G_732, eG_732⟩ : ∃ z, z = ux_731.2 := ⟨_, rfl⟩
          rw [← eG_732] at eGx_731
          have pq_733 := wsr_pr eGx_731 (rg_w rg109_18 (by decide) (by decide))
          obtain ⟨hr_734, hg_735, hm_736, hq_737⟩ := eGx_731
          have hfr_738 : FR [109, 110] [] [] G_18 G_732 := FR.ps FR.rf hg_735 (by decide) (by decide)
          have fr_739 : FR [102, 104, 105, 107, 108, 109, 110, 114, 117, 118, 119, 120, 122, 127, 128] [(g.2.2 116), (g.2.2 130), (g.2.2 100), (g.2.2 115), (g.2.2 125), (g.2.2 126), (g.2.2 129), (g.2.2 123), (g.2.2 121)] [106] G G_732 := FR.tr frL_18 hfr_738 (by decide) (fun _ _ => trivial) (by decide)
          have u_740 : G_732.1 107 = (G_18.1 107) := (hfr_738.1 107 (by decide))
          have u_741 : G_732.1 102 = (G_18.1 102) := (hfr_738.1 102 (by decide))
          have u_742 : G_732.1 104 = (G_18.1 104) := (hfr_738.1 104 (by decide))
          have u_743 : G_732.1 122 = (G.1 122) := (hfr_738.1 122 (by decide)).trans ln_18
          have u_744 : G_732.1 113 = (G.1 113) := (hfr_738.1 113 (by decide)).trans (frL_18.1 113 (by decide))
          have u_745 : G_732.1 133 = (G.1 133) := (hfr_738.1 133 (by decide)).trans (frL_18.1 133 (by decide))
          have u_746 : G_732.1 137 = (G.1 137) := (hfr_738.1 137 (by decide)).trans (frL_18.1 137 (by decide))
          have u_747 : G_732.1 108 = (G_18.1 108) := (hfr_738.1 108 (by decide))
          have u_748 : G_732.1 117 = (G_18.1 117) := (hfr_738.1 117 (by decide))
          have u_749 : G_732.1 118 = (G_18.1 118) := (hfr_738.1 118 (by decide))
          have u_750 : G_732.1 119 = (G_18.1 119) := (hfr_738.1 119 (by decide))
          have u_751 : G_732.1 120 = (G_18.1 120) := (hfr_738.1 120 (by decide))
          have w_752 : G_732.2.1 (g.2.2 100) = (G.2.1 (g.2.2 100)) := (hfr_738.2.1 (g.2.2 100) trivial).trans ls0_18
          have w_753 : G_732.2.1 (g.2.2 121) = (G.2.1 (g.2.2 121)) := (hfr_738.2.1 (g.2.2 121) trivial).trans ls1_18
          have w_754 : G_732.2.1 (g.2.2 140) = (G.2.1 (g.2.2 140)) := (hfr_738.2.1 (g.2.2 140) trivial).trans (frL_18.2.1 (g.2.2 140) ⟨(ne_kd hmk.2.2.2.2.2.2.2.2.2.2.2.2.2.2.2.2.2.2.1 hmk.2.2.2.2.1 (by decide)), (ne_kd hmk.2.2.2.2.2.2.2.2.2.2.2.2.2.2.2.2.2.2.1 hmk.2.2.2.2.2.2.2.2.2.2.2.1 (by decide)), (ne_kd hmk.2.2.2.2.2.2.2.2.2.2.2.2.2.2.2.2.2.2.1 hmk.1 (by decide)), (ne_kd hmk.2.2.2.2.2.2.2.2.2.2.2.2.2.2.2.2.2.2.1 hmk.2.2.2.1 (by decide)), (ne_kd hmk.2.2.2.2.2.2.2.2.2.2.2.2.2.2.2.2.2.2.1 hmk.2.2.2.2.2.2.2.2.1 (by decide)), (ne_kd hmk.2.2.2.2.2.2.2.2.2.2.2.2.2.2.2.2.2.2.1 hmk.2.2.2.2.2.2.2.2.2.1 (by decide)), (ne_kd hmk.2.2.2.2.2.2.2.2.2.2.2.2.2.2.2.2.2.2.1 hmk.2.2.2.2.2.2.2.2.2.2.1 (by decide)), (ne_kd hmk.2.2.2.2.2.2.2.2.2.2.2.2.2.2.2.2.2.2.1 hmk.2.2.2.2.2.2.1 (by decide)), (ne_kd hmk.2.2.2.2.2.2.2.2.2.2.2.2.2.2.2.2.2.2.1 hmk.2.2.2.2.2.1 (by decide)), trivial⟩)
          have w_755 : G_732.2.1 (g.2.2 141) = (G.2.1 (g.2.2 141)) := (hfr_738.2.1 (g.2.2 141) trivial).trans (frL_18.2.1 (g.2.2 141) ⟨(ne_kd hmk.2.2.2.2.2.2.2.2.2.2.2.2.2.2.2.2.2.2.2.1 hmk.2.2.2.2.1 (by decide)), (ne_kd hmk.2.2.2.2.2.2.2.2.2.2.2.2.2.2.2.2.2.2.2.1 hmk.2.2.2.2.2.2.2.2.2.2.2.1 (by decide)), (ne_kd hmk.2.2.2.2.2.2.2.2.2.2.2.2.2.2.2.2.2.2.2.1 hmk.1 (by decide)), (ne_kd hmk.2.2.2.2.2.2.2.2.2.2.2.2.2.2.2.2.2.2.2.1 hmk.2.2.2.1 (by decide)), (ne_kd hmk.2.2.2.2.2.2.2.2.2.2.2.2.2.2.2.2.2.2.2.1 hmk.2.2.2.2.2.2.2.2.1 (by decide)), (ne_kd hmk.2.2.2.2.2.2.2.2.2.2.2.2.2.2.2.2.2.2.2.1 hmk.2.2.2.2.2.2.2.2.2.1 (by decide)), (ne_kd hmk.2.2.2.2.2.2.2.2.2.2.2.2.2.2.2.2.2.2.2.1 hmk.2.2.2.2.2.2.2.2.2.2.1 (by decide)), (ne_kd hmk.2.2.2.2.2.2.2.2.2.2.2.2.2.2.2.2.2.2.2.1 hmk.2.2.2.2.2.2.1 (by decide)), (ne_kd hmk.2.2.2.2.2.2.2.2.2.2.2.2.2.2.2.2.2.2.2.1 hmk.2.2.2.2.2.1 (by decide)), trivial⟩)
          have w_756 : G_732.2.1 (g.2.2 111) = (G.2.1 (g.2.2 111)) := (hfr_738.2.1 (g.2.2 111) trivial).trans (frL_18.2.1 (g.2.2 111) ⟨(ne_kd hmk.2.2.2.2.2.2.2.2.2.2.2.2.2.2.2.2.2.2.2.2.1 hmk.2.2.2.2.1 (by decide)), (ne_kd hmk.2.2.2.2.2.2.2.2.2.2.2.2.2.2.2.2.2.2.2.2.1 hmk.2.2.2.2.2.2.2.2.2.2.2.1 (by decide)), (ne_kd hmk.2.2.2.2.2.2.2.2.2.2.2.2.2.2.2.2.2.2.2.2.1 hmk.1 (by decide)), (ne_kd hmk.2.2.2.2.2.2.2.2.2.2.2.2.2.2.2.2.2.2.2.2.1 hmk.2.2.2.1 (by decide)), (ne_kd hmk.2.2.2.2.2.2.2.2.2.2.2.2.2.2.2.2.2.2.2.2.1 hmk.2.2.2.2.2.2.2.2.1 (by decide)), (ne_kd hmk.2.2.2.2.2.2.2.2.2.2.2.2.2.2.2.2.2.2.2.2.1 hmk.2.2.2.2.2.2.2.2.2.1 (by decide)), (ne_kd hmk.2.2.2.2.2.2.2.2.2.2.2.2.2.2.2.2.2.2.2.2.1 hmk.2.2.2.2.2.2.2.2.2.2.1 (by decide)), (ne_kd hmk.2.2.2.2.2.2.2.2.2.2.2.2.2.2.2.2.2.2.2.2.1 hmk.2.2.2.2.2.2.1 (by decide)), (ne_kd hmk.2.2.2.2.2.2.2.2.2.2.2.2.2.2.2.2.2.2.2.2.1 hmk.2.2.2.2.2.1 (by decide)), trivial⟩)
          have w_757 : G_732.2.1 (g.2.2 116) = fl5_18 := (hfr_738.2.1 (g.2.2 116) trivial).trans efl5_18
          have w_758 : G_732.2.1 (g.2.2 130) = fl6_18 := (hfr_738.2.1 (g.2.2 130) trivial).trans efl6_18
          have w_759 : G_732.2.1 (g.2.2 123) = fl7_18 := (hfr_738.2.1 (g.2.2 123) trivial).trans efl7_18
          have u_760 : G_732.2.2 111 = some (g.2.2 111) := (hfr_738.2.2 111 (by decide)).trans ((frL_18.2.2 111 (by decide)).trans hI.r111)
          have u_761 : G_732.2.2 112 = some (g.2.2 112) := (hfr_738.2.2 112 (by decide)).trans ((frL_18.2.2 112 (by decide)).trans hI.r112)
          have u_762 : G_732.2.2 106 = some (g.2.2 101) := (hfr_738.2.2 106 (by decide)).trans lr106_18
          obtain ⟨xw_763, exw_763⟩ : ∃ z : Int32, G_732.1 110 = z := ⟨_, rfl⟩
          have e9_764 := pq_733.1
          rw [exw_763] at pq_733
          have hH : HT g Ty G_732 H := by rw [← ht, ← eTx_731, eG_732]; exact hB
          refine lv_if_ne (tgt := 63) hx hb dX12_day_53 (by decide) (fun c_765 => ?_) (fun c_765 => ?_)
          · have w_766 := (pq_733.2.2.1 c_765).1
            have dy_767 := hi0_18.2.2 w_766
            have rn_768 : rgI 0 80 y1_18 := ⟨hi0_18.1, by have q := dy_767.1; have q2 := (rg109_18).2; omega⟩
            refine lv_aload_n hx hb dX12_day_63 rfl (lv_at hl 0 rfl) ?_
            obtain ⟨_, ⟨rfl, t_770, hk_771⟩, o_c_769⟩ := hH h0 _ k_h0
            refine hg_get hx hb hG igX12 hown hK o_c_769 rfl 0 (by decide) (hG _ mw_1284) rfl dX12_day_64 ?_
            refine lv_aload_n hx hb dX12_day_67 rfl (lv_at hl 0 rfl) ?_
            refine hg_get hx hb hG igX12 hown hK o_c_769 rfl 23 (by decide) (hG _ mw_1307) rfl dX12_day_68 ?_
            refine lv_iconst (v := 0) hx hb dX12_day_71 (by decide) ?_
            refine va_callv (va_runS (As := [.ref (g.2.2 100), .ref (g.2.2 123), .int 0]) (rest := []) ⟨hx, hb, hml, hown, hts⟩ (c_X12_lay_a l g Ty G_732 H.size (g.2.2 100) (g.2.2 123) 0 (hk_771.1) (hk_771.2.2.2.2.2.2.1) (rg_w rl_0 (by decide) (by decide)) (hLD 100 (by decide) 123 (by decide) (by decide))) (cwSx 3 hts hG (gwC mw_1583) mw_88 mw_1581 mw_1582 rfl rfl rfl hd_X12_lay ⟨Nat.le_of_ble_eq_true rfl, Nat.le_of_ble_eq_true rfl⟩) ⟨PcT_blind, PcT_pre hK hH⟩ rfl rfl hl.1 rfl (lv_room (Nat.le_of_ble_eq_true rfl)) dX12_day_72 ⟨Nat.zero_le _, Nat.zero_le _⟩) hS (fun q _ h => AF.mono hS.1 h) (fun q h => AF.mono hS.1 h) (fun ux_772 t H locs ht hvm hx_772 hB hz hk hS => ?_)
            obtain ⟨eTx_772, eGx_772⟩ := hx_772
            obtain ⟨G_773, eG_773⟩ : ∃ z, z = ux_772.2 := ⟨_, rfl⟩
            rw [← eG_773] at eGx_772
            obtain ⟨hfr_774, hex_775⟩ := eGx_772
            have fr_776 : FR [102, 104, 105, 107, 108, 109, 110, 114, 117, 118, 119, 120, 122, 127, 128] [(g.2.2 116), (g.2.2 130), (g.2.2 100), (g.2.2 115), (g.2.2 125), (g.2.2 126), (g.2.2 129), (g.2.2 123), (g.2.2 121)] [106] G G_773 := FR.tr fr_739 hfr_774 (by decide) (fun b h => ⟨h.2.2.2.2.2.2.2.1, trivial⟩) (by decide)
            have u_777 : G_773.1 107 = (G_18.1 107) := (hfr_774.1 107 (by decide)).trans u_740
            have u_778 : G_773.1 102 = (G_18.1 102) := (hfr_774.1 102 (by decide)).trans u_741
            have u_779 : G_773.1 104 = (G_18.1 104) := (hfr_774.1 104 (by decide)).trans u_742
            have u_780 : G_773.1 122 = (G.1 122) := (hfr_774.1 122 (by decide)).trans u_743
            have u_781 : G_773.1 113 = (G.1 113) := (hfr_774.1 113 (by decide)).trans u_744
            have u_782 : G_773.1 133 = (G.1 133) := (hfr_774.1 133 (by decide)).trans u_745
            have u_783 : G_773.1 137 = (G.1 137) := (hfr_774.1 137 (by decide)).trans u_746
            have u_784 : G_773.1 108 = (G_18.1 108) := (hfr_774.1 108 (by decide)).trans u_747
            have u_785 : G_773.1 117 = (G_18.1 117) := (hfr_774.1 117 (by decide)).trans u_748
            have u_786 : G_773.1 118 = (G_18.1 118) := (hfr_774.1 118 (by decide)).trans u_749
            have u_787 : G_773.1 119 = (G_18.1 119) := (hfr_774.1 119 (by decide)).trans u_750
            have u_788 : G_773.1 120 = (G_18.1 120) := (hfr_774.1 120 (by decide)).trans u_751
            have u_789 : G_773.1 110 = xw_763 := (hfr_774.1 110 (by decide)).trans exw_763
            have u_790 : G_773.1 109 = (G_18.1 109) := (hfr_774.1 109 (by decide)).trans e9_764
            have w_791 : G_773.2.1 (g.2.2 100) = (G.2.1 (g.2.2 100)) := (hfr_774.2.1 (g.2.2 100) ⟨(hLD 100 (by decide) 123 (by decide) (by decide)), trivial⟩).trans w_752
            have w_792 : G_773.2.1 (g.2.2 121) = (G.2.1 (g.2.2 121)) := (hfr_774.2.1 (g.2.2 121) ⟨(ne_kd hmk.2.2.2.2.2.1 hmk.2.2.2.2.2.2.1 (by decide)), trivial⟩).trans w_753
            have w_793 : G_773.2.1 (g.2.2 140) = (G.2.1 (g.2.2 140)) := (hfr_774.2.1 (g.2.2 140) ⟨(ne_kd hmk.2.2.2.2.2.2.2.2.2.2.2.2.2.2.2.2.2.2.1 hmk.2.2.2.2.2.2.1 (by decide)), trivial⟩).trans w_754
            have w_794 : G_773.2.1 (g.2.2 141) = (G.2.1 (g.2.2 141)) := (hfr_774.2.1 (g.2.2 141) ⟨(ne_kd hmk.2.2.2.2.2.2.2.2.2.2.2.2.2.2.2.2.2.2.2.1 hmk.2.2.2.2.2.2.1 (by decide)), trivial⟩).trans w_755
            have w_795 : G_773.2.1 (g.2.2 111) = (G.2.1 (g.2.2 111)) := (hfr_774.2.1 (g.2.2 111) ⟨(ne_kd hmk.2.2.2.2.2.2.2.2.2.2.2.2.2.2.2.2.2.2.2.2.1 hmk.2.2.2.2.2.2.1 (by decide)), trivial⟩).trans w_756
            have w_796 : G_773.2.1 (g.2.2 116) = fl5_18 := (hfr_774.2.1 (g.2.2 116) ⟨(ne_kd hmk.2.2.2.2.1 hmk.2.2.2.2.2.2.1 (by decide)), trivial⟩).trans w_757
            have w_797 : G_773.2.1 (g.2.2 130) = fl6_18 := (hfr_774.2.1 (g.2.2 130) ⟨(ne_kd hmk.2.2.2.2.2.2.2.2.2.2.2.1 hmk.2.2.2.2.2.2.1 (by decide)), trivial⟩).trans w_758
            have u_798 : G_773.2.2 111 = some (g.2.2 111) := (hfr_774.2.2 111 (by decide)).trans u_760
            have u_799 : G_773.2.2 112 = some (g.2.2 112) := (hfr_774.2.2 112 (by decide)).trans u_761
            have u_800 : G_773.2.2 106 = some (g.2.2 101) := (hfr_774.2.2 106 (by decide)).trans u_762
            obtain ⟨f_801, ef_801⟩ : ∃ z : Nat → Int32, G_773.2.1 (g.2.2 123) = z := ⟨_, rfl⟩
            have ly_802 := hex_775
            rw [ef_801, w_752, w_759] at ly_802
            have hH : HT g Ty G_773 H := by rw [← ht, ← eTx_772, eG_773]; exact hB
            refine lv_iconst (v := 0) hx hb dX12_day_75 (by decide) ?_
            refine lv_istore_n (lv' := [(2, .int 0), (0, .ref h0), (1, .int y1_18)]) hx hb dX12_day_76 rfl hl (by decide) rfl (fun ls hl => ?_)
            exact L_77 _ H locs G_773 (G.2.1 (g.2.2 100)) (G.2.1 (g.2.2 121)) fl5_18 fl6_18 f_801 y1_18 0 ls (by rw [u_778]; exact rg_w rg102_18 (by decide) (by decide)) (by rw [u_779]; exact rg_w rg104_18 (by decide) (by decide)) (by rw [u_780]; exact rg_w hI.a122 (by decide) (by decide)) fr_776 w_791 w_792 w_796 w_797 ef_801 w_792 u_780 rn_768 (rg_w rl_0 (by decide) (by decide)) (hI.ti.hi (by show _ ≤ _ + 25 * (0 : Int); omega)) (LY_sr ly_802) (by rw [u_785]; exact dy_767.2.2.2) (by show (0 : Int) ≤ _; exact (rn_768).1) (Nat.lt_succ_self _) (lv_sub hl [1, 2, 0] rfl) hH hS
          · have r_803 : rgI (0) (0) x_731 := rg_w (rg_eq rl_0 c_765) (by decide) (by decide)
            refine lv_iconst (v := (-1)) hx hb dX12_day_56 (by decide) ?_
            refine lv_aload_n hx hb dX12_day_57 rfl (lv_at hl 0 rfl) ?_
            obtain ⟨_, ⟨rfl, t_805, hk_806⟩, o_c_804⟩ := hH h0 _ k_h0
            refine hg_get hx hb hG igX12 hown hK o_c_804 rfl 10 (by decide) (hG _ mw_1294) rfl dX12_day_58 ?_
            rw [exw_763]
            refine lv_isub hx hb dX12_day_61 ?_
            refine lv_topi (fun x_807 ex_807 => ?_)
            exact W.iret hx hb hr (fun t ht hWm => ⟨⟨x_807, (Ty, G_732), rfl, ⟨rfl, ⟨fr_739, ⟨⟨(by rw [u_741]; exact (rg_w rg102_18 (by decide) (by decide))), (by rw [u_742]; exact (rg_w rg104_18 (by decide) (by decide))), (by rw [u_744]; exact (rg_w hI.a113 (by decide) (by decide))), (by rw [u_743]; exact (rg_w hI.a122 (by decide) (by decide))), (by rw [u_745]; exact (rg_w hI.a133 (by decide) (by decide))), (by rw [u_746]; exact (rg_w hI.a137 (by decide) (by decide))), u_760, u_761, (by rw [w_752]; exact (hI.ti.hi (show Bd ≤ Bd + 3000 by omega))), (hI.un2 (show Bd ≤ Bd + 3000 by omega) w_753 u_743), (hI.ke2 (show Bd ≤ Bd + 3000 by omega) w_754 w_755)⟩, (by rw [u_741]; exact (rg_w rg102_18 (by decide) (by decide)))⟩⟩⟩, by show HT g Ty G_732 t.heap; rw [ht]; exact hH⟩, hS.F ht⟩) hS.2.2 dX12_day_62
        · have r_808 : rgI (0) (79) (G_18.1 109) := rg_w (rg_ltL rg109_18 rg107_18 (nle_lt c_730)) (by decide) (by decide)
          have r_809 : rgI (1) (80) (G_18.1 107) := rg_w (rg_ltR rg109_18 rg107_18 (nle_lt c_730)) (by decide) (by decide)
          have rn_810 : rgI 0 79 y1_18 := dy_n hi0_18 (fin_1 hx_649.2 c_650) (nle_lt c_730) (rg_w r_809 (by decide) (by decide))
          refine lv_aload_n hx hb dX12_day_36 rfl (lv_at hl 0 rfl) ?_
          refine lv_iconst (v := 4) hx hb dX12_day_37 (by decide) ?_
          refine lv_iload_n hx hb dX12_day_38 rfl (lv_at hl 1 rfl) ?_
          refine lv_imul hx hb dX12_day_39 ?_
          refine lv_topi (fun x_811 ex_811 => ?_)
          have rx_811 : rgI (0) (316) x_811 := by rw [ex_811]; exact rg_w (rg_mul rl_4 rn_810 (by decide) (by decide) (by decide)) (by decide) (by decide)
          refine va_callv (va_runV (As := [.int x_811]) (rest := []) ⟨hx, hb, hml, hown, hts⟩ (c_X12_readAct l g Ty G_18 H.size h0 x_811 k_h0 (rg_w rx_811 (by decide) (by decide)) lr106_18 (rg_w r_809 (by decide) (by decide)) (rg_w r_808 (by decide) (by decide)) hi1_18 hLD ⟨(hi0_18.2.2 (fin_1 hx_649.2 c_650)).2.1, (hi0_18.2.2 (fin_1 hx_649.2 c_650)).2.2.1⟩ (fin_1 hx_649.2 c_650)) (cwV 1 hts (gwV mw_1684 mw_1686 mw_64 mw_88 mw_1687) rfl rfl rfl hv_X12_readAct ⟨Nat.le_of_ble_eq_true rfl, Nat.le_of_ble_eq_true rfl⟩) ⟨PcT_blind, hg_recv hK o_c_646 rfl, PcT_pre hK hH⟩ rfl rfl hl.1 rfl (lv_room (Nat.le_of_ble_eq_true rfl)) dX12_day_40 ⟨Nat.zero_le _, Nat.zero_le _⟩) hS (fun q _ h => AF.mono hS.1 h) (fun q h => AF.mono hS.1 h) (fun ux_812 t H locs ht hvm hx_812 hB hz hk hS => ?_)
          obtain ⟨eTx_812, eGx_812⟩ := hx_812
          obtain ⟨G_813, eG_813⟩ : ∃ z, z = ux_812.2 := ⟨_, rfl⟩
          rw [← eG_813] at eGx_812
          obtain ⟨hfr_814, hex_815⟩ := eGx_812
          have fr_816 : FR [102, 104, 105, 107, 108, 109, 110, 114, 117, 118, 119, 120, 122, 127, 128] [(g.2.2 116), (g.2.2 130), (g.2.2 100), (g.2.2 115), (g.2.2 125), (g.2.2 126), (g.2.2 129), (g.2.2 123), (g.2.2 121)] [106] G G_813 := FR.tr frL_18 hfr_814 (by decide) (fun b h => ⟨h.1, h.2.1, trivial⟩) (by decide)
          have u_817 : G_813.1 107 = (G_18.1 107) := (hfr_814.1 107 (by decide))
          have u_818 : G_813.1 102 = (G_18.1 102) := (hfr_814.1 102 (by decide))
          have u_819 : G_813.1 104 = (G_18.1 104) := (hfr_814.1 104 (by decide))
          have u_820 : G_813.1 122 = (G.1 122) := (hfr_814.1 122 (by decide)).trans ln_18
          have u_821 : G_813.1 113 = (G.1 113) := (hfr_814.1 113 (by decide)).trans (frL_18.1 113 (by decide))
          have u_822 : G_813.1 133 = (G.1 133) := (hfr_814.1 133 (by decide)).trans (frL_18.1 133 (by decide))
          have u_823 : G_813.1 137 = (G.1 137) := (hfr_814.1 137 (by decide)).trans (frL_18.1 137 (by decide))
          have u_824 : G_813.1 108 = (G_18.1 108) := (hfr_814.1 108 (by decide))
          have u_825 : G_813.1 118 = (G_18.1 118) := (hfr_814.1 118 (by decide))
          have u_826 : G_813.1 119 = (G_18.1 119) := (hfr_814.1 119 (by decide))
          have u_827 : G_813.1 120 = (G_18.1 120) := (hfr_814.1 120 (by decide))
          have w_828 : G_813.2.1 (g.2.2 100) = (G.2.1 (g.2.2 100)) := (hfr_814.2.1 (g.2.2 100) ⟨(ne_kd hmk.1 hmk.2.2.2.2.1 (by decide)), (ne_kd hmk.1 hmk.2.2.2.2.2.2.2.2.2.2.2.1 (by decide)), trivial⟩).trans ls0_18
          have w_829 : G_813.2.1 (g.2.2 121) = (G.2.1 (g.2.2 121)) := (hfr_814.2.1 (g.2.2 121) ⟨(ne_kd hmk.2.2.2.2.2.1 hmk.2.2.2.2.1 (by decide)), (ne_kd hmk.2.2.2.2.2.1 hmk.2.2.2.2.2.2.2.2.2.2.2.1 (by decide)), trivial⟩).trans ls1_18
          have w_830 : G_813.2.1 (g.2.2 140) = (G.2.1 (g.2.2 140)) := (hfr_814.2.1 (g.2.2 140) ⟨(ne_kd hmk.2.2.2.2.2.2.2.2.2.2.2.2.2.2.2.2.2.2.1 hmk.2.2.2.2.1 (by decide)), (ne_kd hmk.2.2.2.2.2.2.2.2.2.2.2.2.2.2.2.2.2.2.1 hmk.2.2.2.2.2.2.2.2.2.2.2.1 (by decide)), trivial⟩).trans (frL_18.2.1 (g.2.2 140) ⟨(ne_kd hmk.2.2.2.2.2.2.2.2.2.2.2.2.2.2.2.2.2.2.1 hmk.2.2.2.2.1 (by decide)), (ne_kd hmk.2.2.2.2.2.2.2.2.2.2.2.2.2.2.2.2.2.2.1 hmk.2.2.2.2.2.2.2.2.2.2.2.1 (by decide)), (ne_kd hmk.2.2.2.2.2.2.2.2.2.2.2.2.2.2.2.2.2.2.1 hmk.1 (by decide)), (ne_kd hmk.2.2.2.2.2.2.2.2.2.2.2.2.2.2.2.2.2.2.1 hmk.2.2.2.1 (by decide)), (ne_kd hmk.2.2.2.2.2.2.2.2.2.2.2.2.2.2.2.2.2.2.1 hmk.2.2.2.2.2.2.2.2.1 (by decide)), (ne_kd hmk.2.2.2.2.2.2.2.2.2.2.2.2.2.2.2.2.2.2.1 hmk.2.2.2.2.2.2.2.2.2.1 (by decide)), (ne_kd hmk.2.2.2.2.2.2.2.2.2.2.2.2.2.2.2.2.2.2.1 hmk.2.2.2.2.2.2.2.2.2.2.1 (by decide)), (ne_kd hmk.2.2.2.2.2.2.2.2.2.2.2.2.2.2.2.2.2.2.1 hmk.2.2.2.2.2.2.1 (by decide)), (ne_kd hmk.2.2.2.2.2.2.2.2.2.2.2.2.2.2.2.2.2.2.1 hmk.2.2.2.2.2.1 (by decide)), trivial⟩)
          have w_831 : G_813.2.1 (g.2.2 141) = (G.2.1 (g.2.2 141)) := (hfr_814.2.1 (g.2.2 141) ⟨(ne_kd hmk.2.2.2.2.2.2.2.2.2.2.2.2.2.2.2.2.2.2.2.1 hmk.2.2.2.2.1 (by decide)), (ne_kd hmk.2.2.2.2.2.2.2.2.2.2.2.2.2.2.2.2.2.2.2.1 hmk.2.2.2.2.2.2.2.2.2.2.2.1 (by decide)), trivial⟩).trans (frL_18.2.1 (g.2.2 141) ⟨(ne_kd hmk.2.2.2.2.2.2.2.2.2.2.2.2.2.2.2.2.2.2.2.1 hmk.2.2.2.2.1 (by decide)), (ne_kd hmk.2.2.2.2.2.2.2.2.2.2.2.2.2.2.2.2.2.2.2.1 hmk.2.2.2.2.2.2.2.2.2.2.2.1 (by decide)), (ne_kd hmk.2.2.2.2.2.2.2.2.2.2.2.2.2.2.2.2.2.2.2.1 hmk.1 (by decide)), (ne_kd hmk.2.2.2.2.2.2.2.2.2.2.2.2.2.2.2.2.2.2.2.1 hmk.2.2.2.1 (by decide)), (ne_kd hmk.2.2.2.2.2.2.2.2.2.2.2.2.2.2.2.2.2.2.2.1 hmk.2.2.2.2.2.2.2.2.1 (by decide)), (ne_kd hmk.2.2.2.2.2.2.2.2.2.2.2.2.2.2.2.2.2.2.2.1 hmk.2.2.2.2.2.2.2.2.2.1 (by decide)), (ne_kd hmk.2.2.2.2.2.2.2.2.2.2.2.2.2.2.2.2.2.2.2.1 hmk.2.2.2.2.2.2.2.2.2.2.1 (by decide)), (ne_kd hmk.2.2.2.2.2.2.2.2.2.2.2.2.2.2.2.2.2.2.2.1 hmk.2.2.2.2.2.2.1 (by decide)), (ne_kd hmk.2.2.2.2.2.2.2.2.2.2.2.2.2.2.2.2.2.2.2.1 hmk.2.2.2.2.2.1 (by decide)), trivial⟩)
          have w_832 : G_813.2.1 (g.2.2 111) = (G.2.1 (g.2.2 111)) := (hfr_814.2.1 (g.2.2 111) ⟨(ne_kd hmk.2.2.2.2.2.2.2.2.2.2.2.2.2.2.2.2.2.2.2.2.1 hmk.2.2.2.2.1 (by decide)), (ne_kd hmk.2.2.2.2.2.2.2.2.2.2.2.2.2.2.2.2.2.2.2.2.1 hmk.2.2.2.2.2.2.2.2.2.2.2.1 (by decide)), trivial⟩).trans (frL_18.2.1 (g.2.2 111) ⟨(ne_kd hmk.2.2.2.2.2.2.2.2.2.2.2.2.2.2.2.2.2.2.2.2.1 hmk.2.2.2.2.1 (by decide)), (ne_kd hmk.2.2.2.2.2.2.2.2.2.2.2.2.2.2.2.2.2.2.2.2.1 hmk.2.2.2.2.2.2.2.2.2.2.2.1 (by decide)), (ne_kd hmk.2.2.2.2.2.2.2.2.2.2.2.2.2.2.2.2.2.2.2.2.1 hmk.1 (by decide)), (ne_kd hmk.2.2.2.2.2.2.2.2.2.2.2.2.2.2.2.2.2.2.2.2.1 hmk.2.2.2.1 (by decide)), (ne_kd hmk.2.2.2.2.2.2.2.2.2.2.2.2.2.2.2.2.2.2.2.2.1 hmk.2.2.2.2.2.2.2.2.1 (by decide)), (ne_kd hmk.2.2.2.2.2.2.2.2.2.2.2.2.2.2.2.2.2.2.2.2.1 hmk.2.2.2.2.2.2.2.2.2.1 (by decide)), (ne_kd hmk.2.2.2.2.2.2.2.2.2.2.2.2.2.2.2.2.2.2.2.2.1 hmk.2.2.2.2.2.2.2.2.2.2.1 (by decide)), (ne_kd hmk.2.2.2.2.2.2.2.2.2.2.2.2.2.2.2.2.2.2.2.2.1 hmk.2.2.2.2.2.2.1 (by decide)), (ne_kd hmk.2.2.2.2.2.2.2.2.2.2.2.2.2.2.2.2.2.2.2.2.1 hmk.2.2.2.2.2.1 (by decide)), trivial⟩)
          have w_833 : G_813.2.1 (g.2.2 123) = fl7_18 := (hfr_814.2.1 (g.2.2 123) ⟨(ne_kd hmk.2.2.2.2.2.2.1 hmk.2.2.2.2.1 (by decide)), (ne_kd hmk.2.2.2.2.2.2.1 hmk.2.2.2.2.2.2.2.2.2.2.2.1 (by decide)), trivial⟩).trans efl7_18
          have u_834 : G_813.2.2 111 = some (g.2.2 111) := (hfr_814.2.2 111 (by decide)).trans ((frL_18.2.2 111 (by decide)).trans hI.r111)
          have u_835 : G_813.2.2 112 = some (g.2.2 112) := (hfr_814.2.2 112 (by decide)).trans ((frL_18.2.2 112 (by decide)).trans hI.r112)
          have u_836 : G_813.2.2 106 = some (g.2.2 101) := (hfr_814.2.2 106 (by decide)).trans lr106_18
          obtain ⟨f_837, ef_837⟩ : ∃ z : Nat → Int32, G_813.2.1 (g.2.2 116) = z := ⟨_, rfl⟩
          obtain ⟨f_838, ef_838⟩ : ∃ z : Nat → Int32, G_813.2.1 (g.2.2 130) = z := ⟨_, rfl⟩
          obtain ⟨xl_839, exl_839⟩ : ∃ z : Int32, G_813.1 117 = z := ⟨_, rfl⟩
          obtain ⟨xa_840, exa_840⟩ : ∃ z : Int32, G_813.1 109 = z := ⟨_, rfl⟩
          obtain ⟨xw_841, exw_841⟩ : ∃ z : Int32, G_813.1 110 = z := ⟨_, rfl⟩
          have ra_842 := hex_815
          rw [ef_837, ef_838, exl_839, exa_840, exw_841, efl5_18, efl6_18] at ra_842
          have hH : HT g Ty G_813 H := by rw [← ht, ← eTx_812, eG_813]; exact hB
          obtain ⟨x_844, ex_844⟩ : ∃ y : Int32, y = y1_18 + 1 := ⟨_, rfl⟩
          have rx_844 : rgI (1) (80) x_844 := by rw [ex_844]; exact rg_w (rg_add rn_810 rl_1 (by decide) (by decide)) (by decide) (by decide)
          have qx_844 : x_844.toInt = (y1_18 : Int32).toInt + 1 := by rw [ex_844]; exact rg_addE rn_810 rl_1 (by decide) (by decide)
          refine lv_iinc (v := x_844) (lv' := [(1, .int x_844), (0, .ref h0)]) hx hb dX12_day_43 hl (k := 1) rfl (by rw [ex_844]; rfl) (by decide) rfl (fun ls hl => ?_)
          refine lv_goto (tgt := 18) hx hb dX12_day_46 (by decide) ?_
          exact ih_18 H locs G_813 (G.2.1 (g.2.2 100)) (G.2.1 (g.2.2 121)) f_837 f_838 fl7_18 x_844 ls (by rw [u_817]; exact rg_w r_809 (by decide) (by decide)) (by rw [exa_840]; exact rg_w ra_842.2.2.2.2.1 (by decide) (by decide)) (by rw [u_818]; exact rg_w rg102_18 (by decide) (by decide)) (by rw [u_819]; exact rg_w rg104_18 (by decide) (by decide)) (by rw [u_820]; exact rg_w hI.a122 (by decide) (by decide)) fr_816 w_828 w_829 ef_837 ef_838 w_833 u_836 w_828 w_829 u_820 (rg_w rx_844 (by decide) (by decide)) (by rw [exl_839, exa_840, exw_841]; exact (dy_s hi0_18 (fin_1 hx_649.2 c_650) ra_842 rn_810 ex_811 qx_844)) (by rw [exw_841]; exact ra_842.2.2.2.2.2.1) (by show dyM (G_813.1 109) (G_813.1 110) < _; rw [exa_840, exw_841]; exact dy_d ra_842 (fin_1 hx_649.2 c_650) rg109_18 hm_18) (lv_sub hl [1, 0] rfl) hH hS
  refine lv_aload_n hx hb dX12_day_0 rfl (lv_at hl 0 rfl) ?_
  refine lv_iconst (v := 0) hx hb dX12_day_1 (by decide) ?_
  obtain ⟨_, ⟨rfl, t_846, hk_847⟩, o_c_845⟩ := hH h0 _ k_h0
  refine hg_put (ty := .int) hx hb hG igX12 tyX12 tyX12_ok nmX12 hown hK hS o_c_845 (AF.of k_h0) rfl 5 (by decide) (hG _ mw_1289) rfl (by decide +kernel) rfl rfl (Nat.le_of_ble_eq_true rfl) dX12_day_2 (fun H locs o_c_845 hz oq hS => ?_)
  obtain ⟨G_848, eG_848⟩ : ∃ z : Gh, z = gset G 105 0 := ⟨_, rfl⟩
  have hH : HT g Ty G_848 H := by rw [eG_848]; exact HT.putN 105 0 hH k_h0 ⟨rfl, t_846, hk_847⟩ o_c_845 oq (Or.inr (Or.inr (Or.inr (Or.inr (Or.inr ⟨by decide, t_846⟩)))))
  have fr_849 : FR [102, 104, 105, 107, 108, 109, 110, 114, 117, 118, 119, 120, 122, 127, 128] [(g.2.2 116), (g.2.2 130), (g.2.2 100), (g.2.2 115), (g.2.2 125), (g.2.2 126), (g.2.2 129), (g.2.2 123), (g.2.2 121)] [106] G G_848 := FR.n FR.rf eG_848 (by decide)
  have u_850 : G_848.1 102 = (G.1 102) := by rw [eG_848]; exact (gs_ne (by decide))
  have u_851 : G_848.1 104 = (G.1 104) := by rw [eG_848]; exact (gs_ne (by decide))
  have u_852 : G_848.1 113 = (G.1 113) := by rw [eG_848]; exact (gs_ne (by decide))
  have u_853 : G_848.1 122 = (G.1 122) := by rw [eG_848]; exact (gs_ne (by decide))
  have u_854 : G_848.1 133 = (G.1 133) := by rw [eG_848]; exact (gs_ne (by decide))
  have u_855 : G_848.1 137 = (G.1 137) := by rw [eG_848]; exact (gs_ne (by decide))
  have u_856 : G_848.1 105 = 0 := by rw [eG_848]; exact gs_eq
  have w_857 : G_848.2.1 (g.2.2 100) = (G.2.1 (g.2.2 100)) := by rw [eG_848]; exact rfl
  have w_858 : G_848.2.1 (g.2.2 121) = (G.2.1 (g.2.2 121)) := by rw [eG_848]; exact rfl
  have w_859 : G_848.2.1 (g.2.2 140) = (G.2.1 (g.2.2 140)) := by rw [eG_848]; exact rfl
  have w_860 : G_848.2.1 (g.2.2 141) = (G.2.1 (g.2.2 141)) := by rw [eG_848]; exact rfl
  have w_861 : G_848.2.1 (g.2.2 111) = (G.2.1 (g.2.2 111)) := by rw [eG_848]; exact rfl
  have w_862 : G_848.2.1 (g.2.2 116) = (G.2.1 (g.2.2 116)) := by rw [eG_848]; exact rfl
  have w_863 : G_848.2.1 (g.2.2 130) = (G.2.1 (g.2.2 130)) := by rw [eG_848]; exact rfl
  have w_864 : G_848.2.1 (g.2.2 123) = (G.2.1 (g.2.2 123)) := by rw [eG_848]; exact rfl
  have u_865 : G_848.2.2 111 = some (g.2.2 111) := by rw [eG_848]; exact hI.r111
  have u_866 : G_848.2.2 112 = some (g.2.2 112) := by rw [eG_848]; exact hI.r112
  clear oq hz
  refine lv_aload_n hx hb dX12_day_5 rfl (lv_at hl 0 rfl) ?_
  refine lv_bipush (v := 72) hx hb dX12_day_6 (by decide) ?_
  obtain ⟨_, ⟨rfl, t_868, hk_869⟩, o_c_867⟩ := hH h0 _ k_h0
  refine va_callv (va_runV (As := [.int 72]) (rest := []) ⟨hx, hb, hml, hown, hts⟩ (c_X12_beginText l g Ty G_848 H.size h0 72 k_h0 (by rw [u_850]; exact (rg_w hI.a102 (by decide) (by decide)))) (cwV 1 hts (gwV mw_1435 mw_1437 mw_32 mw_88 mw_1438) rfl rfl rfl hv_X12_beginText ⟨Nat.le_of_ble_eq_true rfl, Nat.le_of_ble_eq_true rfl⟩) ⟨PcT_blind, hg_recv hK o_c_867 rfl, PcT_pre hK hH⟩ rfl rfl hl.1 rfl (lv_room (Nat.le_of_ble_eq_true rfl)) dX12_day_8 ⟨Nat.zero_le _, Nat.zero_le _⟩) hS (fun q _ h => AF.mono hS.1 h) (fun q h => AF.mono hS.1 h) (fun ux_870 t H locs ht hvm hx_870 hB hz hk hS => ?_)
  obtain ⟨eTx_870, eGx_870⟩ := hx_870
  obtain ⟨G_871, eG_871⟩ : ∃ z, z = ux_870.2 := ⟨_, rfl⟩
  rw [← eG_871] at eGx_870
  obtain ⟨hfr_872, hex_873⟩ := eGx_870
  have fr_874 : FR [102, 104, 105, 107, 108, 109, 110, 114, 117, 118, 119, 120, 122, 127, 128] [(g.2.2 116), (g.2.2 130), (g.2.2 100), (g.2.2 115), (g.2.2 125), (g.2.2 126), (g.2.2 129), (g.2.2 123), (g.2.2 121)] [106] G G_871 := FR.tr fr_849 hfr_872 (by decide) (fun _ _ => trivial) (by decide)
  have u_875 : G_871.1 104 = (G.1 104) := (hfr_872.1 104 (by decide)).trans u_851
  have u_876 : G_871.1 113 = (G.1 113) := (hfr_872.1 113 (by decide)).trans u_852
  have u_877 : G_871.1 122 = (G.1 122) := (hfr_872.1 122 (by decide)).trans u_853
  have u_878 : G_871.1 133 = (G.1 133) := (hfr_872.1 133 (by decide)).trans u_854
  have u_879 : G_871.1 137 = (G.1 137) := (hfr_872.1 137 (by decide)).trans u_855
  have u_880 : G_871.1 105 = 0 := (hfr_872.1 105 (by decide)).trans u_856
  have w_881 : G_871.2.1 (g.2.2 100) = (G.2.1 (g.2.2 100)) := (hfr_872.2.1 (g.2.2 100) trivial).trans w_857
  have w_882 : G_871.2.1 (g.2.2 121) = (G.2.1 (g.2.2 121)) := (hfr_872.2.1 (g.2.2 121) trivial).trans w_858
  have w_883 : G_871.2.1 (g.2.2 140) = (G.2.1 (g.2.2 140)) := (hfr_872.2.1 (g.2.2 140) trivial).trans w_859
  have w_884 : G_871.2.1 (g.2.2 141) = (G.2.1 (g.2.2 141)) := (hfr_872.2.1 (g.2.2 141) trivial).trans w_860
  have w_885 : G_871.2.1 (g.2.2 111) = (G.2.1 (g.2.2 111)) := (hfr_872.2.1 (g.2.2 111) trivial).trans w_861
  have w_886 : G_871.2.1 (g.2.2 116) = (G.2.1 (g.2.2 116)) := (hfr_872.2.1 (g.2.2 116) trivial).trans w_862
  have w_887 : G_871.2.1 (g.2.2 130) = (G.2.1 (g.2.2 130)) := (hfr_872.2.1 (g.2.2 130) trivial).trans w_863
  have w_888 : G_871.2.1 (g.2.2 123) = (G.2.1 (g.2.2 123)) := (hfr_872.2.1 (g.2.2 123) trivial).trans w_864
  have u_889 : G_871.2.2 111 = some (g.2.2 111) := (hfr_872.2.2 111 (by decide)).trans u_865
  have u_890 : G_871.2.2 112 = some (g.2.2 112) := (hfr_872.2.2 112 (by decide)).trans u_866
  have u_891 : G_871.2.2 106 = some (g.2.2 101) := hex_873.1
  have u_892 : G_871.1 107 = (G.1 102) := hex_873.2.1.trans u_850
  have u_893 : G_871.1 108 = 72 := hex_873.2.2.1
  have u_894 : G_871.1 109 = 0 := hex_873.2.2.2.1
  have u_895 : G_871.1 110 = (-1) := hex_873.2.2.2.2.1
  have u_896 : G_871.1 102 = 0 := hex_873.2.2.2.2.2
  have hH : HT g Ty G_871 H := by rw [← ht, ← eTx_870, eG_871]; exact hB
  refine lv_aload_n hx hb dX12_day_11 rfl (lv_at hl 0 rfl) ?_
  refine lv_iconst (v := 0) hx hb dX12_day_12 (by decide) ?_
  obtain ⟨_, ⟨rfl, t_898, hk_899⟩, o_c_897⟩ := hH h0 _ k_h0
  refine hg_put (ty := .int) hx hb hG igX12 tyX12 tyX12_ok nmX12 hown hK hS o_c_897 (AF.of k_h0) rfl 17 (by decide) (hG _ mw_1301) rfl (by decide +kernel) rfl rfl (Nat.le_of_ble_eq_true rfl) dX12_day_13 (fun H locs o_c_897 hz oq hS => ?_)
  obtain ⟨G_900, eG_900⟩ : ∃ z : Gh, z = gset G_871 117 0 := ⟨_, rfl⟩
  have hH : HT g Ty G_900 H := by rw [eG_900]; exact HT.putN 117 0 hH k_h0 ⟨rfl, t_898, hk_899⟩ o_c_897 oq (Or.inr (Or.inr (Or.inr (Or.inr (Or.inr ⟨by decide, t_898⟩)))))
  have fr_901 : FR [102, 104, 105, 107, 108, 109, 110, 114, 117, 118, 119, 120, 122, 127, 128] [(g.2.2 116), (g.2.2 130), (g.2.2 100), (g.2.2 115), (g.2.2 125), (g.2.2 126), (g.2.2 129), (g.2.2 123), (g.2.2 121)] [106] G G_900 := FR.n fr_874 eG_900 (by decide)
  have u_902 : G_900.1 104 = (G.1 104) := by rw [eG_900]; exact (gs_ne (by decide)).trans u_875
  have u_903 : G_900.1 113 = (G.1 113) := by rw [eG_900]; exact (gs_ne (by decide)).trans u_876
  have u_904 : G_900.1 122 = (G.1 122) := by rw [eG_900]; exact (gs_ne (by decide)).trans u_877
  have u_905 : G_900.1 133 = (G.1 133) := by rw [eG_900]; exact (gs_ne (by decide)).trans u_878
  have u_906 : G_900.1 137 = (G.1 137) := by rw [eG_900]; exact (gs_ne (by decide)).trans u_879
  have u_907 : G_900.1 105 = 0 := by rw [eG_900]; exact (gs_ne (by decide)).trans u_880
  have u_908 : G_900.1 107 = (G.1 102) := by rw [eG_900]; exact (gs_ne (by decide)).trans u_892
  have u_909 : G_900.1 108 = 72 := by rw [eG_900]; exact (gs_ne (by decide)).trans u_893
  have u_910 : G_900.1 109 = 0 := by rw [eG_900]; exact (gs_ne (by decide)).trans u_894
  have u_911 : G_900.1 110 = (-1) := by rw [eG_900]; exact (gs_ne (by decide)).trans u_895
  have u_912 : G_900.1 102 = 0 := by rw [eG_900]; exact (gs_ne (by decide)).trans u_896
  have u_913 : G_900.1 117 = 0 := by rw [eG_900]; exact gs_eq
  have w_914 : G_900.2.1 (g.2.2 100) = (G.2.1 (g.2.2 100)) := by rw [eG_900]; exact w_881
  have w_915 : G_900.2.1 (g.2.2 121) = (G.2.1 (g.2.2 121)) := by rw [eG_900]; exact w_882
  have w_916 : G_900.2.1 (g.2.2 140) = (G.2.1 (g.2.2 140)) := by rw [eG_900]; exact w_883
  have w_917 : G_900.2.1 (g.2.2 141) = (G.2.1 (g.2.2 141)) := by rw [eG_900]; exact w_884
  have w_918 : G_900.2.1 (g.2.2 111) = (G.2.1 (g.2.2 111)) := by rw [eG_900]; exact w_885
  have w_919 : G_900.2.1 (g.2.2 116) = (G.2.1 (g.2.2 116)) := by rw [eG_900]; exact w_886
  have w_920 : G_900.2.1 (g.2.2 130) = (G.2.1 (g.2.2 130)) := by rw [eG_900]; exact w_887
  have w_921 : G_900.2.1 (g.2.2 123) = (G.2.1 (g.2.2 123)) := by rw [eG_900]; exact w_888
  have u_922 : G_900.2.2 111 = some (g.2.2 111) := by rw [eG_900]; exact u_889
  have u_923 : G_900.2.2 112 = some (g.2.2 112) := by rw [eG_900]; exact u_890
  have u_924 : G_900.2.2 106 = some (g.2.2 101) := by rw [eG_900]; exact u_891
  clear oq hz
  refine lv_iconst (v := 0) hx hb dX12_day_16 (by decide) ?_
  refine lv_istore_n (lv' := [(1, .int 0), (0, .ref h0)]) hx hb dX12_day_17 rfl hl (by decide) rfl (fun ls hl => ?_)
  exact L_18 _ H locs G_900 (G.2.1 (g.2.2 100)) (G.2.1 (g.2.2 121)) (G.2.1 (g.2.2 116)) (G.2.1 (g.2.2 130)) (G.2.1 (g.2.2 123)) 0 ls (by rw [u_908]; exact rg_w hI.a102 (by decide) (by decide)) (by rw [u_910]; exact rg_w rl_0 (by decide) (by decide)) (by rw [u_912]; exact rg_w rl_0 (by decide) (by decide)) (by rw [u_902]; exact rg_w hI.a104 (by decide) (by decide)) (by rw [u_904]; exact rg_w hI.a122 (by decide) (by decide)) fr_901 w_914 w_915 w_919 w_920 w_921 u_924 w_914 w_915 u_904 (rg_w rl_0 (by decide) (by decide)) (by rw [u_913, u_910, u_911]; exact (DY_0 rfl (by decide))) (by rw [u_911]; exact (Or.inl rfl)) (Nat.lt_succ_self _) (lv_sub hl [1, 0] rfl) hH hS
