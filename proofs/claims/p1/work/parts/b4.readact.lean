theorem lm_r2 {l a : Int32} (h : 0 ≤ l.toInt ∧ l.toInt ≤ a.toInt) (ha : rgI 0 80 a) : rgI 0 80 l := ⟨h.1, by have := h.2; have := ha.2; omega⟩

set_option maxHeartbeats 4000000 in
set_option maxRecDepth 100000 in
theorem c_X12_readAct (l : Launch) (g : Gx) (Ty : TyM) (G : Gh) (sz : Nat) (h0 : Nat) (a0 : Int32) (k_h0 : Ty h0 = some (22, 0)) (pr0 : rgI (0) (316) a0) (r6 : G.2.2 106 = some (g.2.2 101)) (r7 : rgI 0 80 (G.1 107)) (r9 : rgI 0 80 (G.1 109)) (w0 : WR (G.1 110)) (hLD : LD g) (hlm : 0 ≤ (G.1 117).toInt ∧ (G.1 117).toInt ≤ (G.1 109).toInt) (hw : G.1 110 = -1) : Met l yX12_readAct (wsG yX12_readAct cX12_readAct 3 none) ({ frames := 4, cells := 0, slots := 0, locals := 85 }) (PcT g Ty G sz [.ref h0, .int a0]) (QwV g Ty sz (fun u => u.1 = Ty ∧ FR [109, 110, 117] [(g.2.2 116), (g.2.2 130)] [] G u.2 ∧ RAO (G.2.1 (g.2.2 116)) (u.2.2.1 (g.2.2 116)) (G.2.1 (g.2.2 130)) (u.2.2.1 (g.2.2 130)) (G.1 117) (u.2.1 117) (G.1 109) (u.2.1 109) (u.2.1 110) a0.toNatClampNeg)) 0 0 (AF Ty sz) := by
  refine Met.ofW (cc := cX12_readAct) (maxL := 3) (ret := none) (by decide) rfl ?_
  intro p e s m args below meth c s₁ B hml hv
  obtain ⟨rfl, hsz, hK, hH⟩ := hv
  subst hsz
  have hx := B.exec
  have hb := B.bytes
  have hr := B.returns
  have hts := atoms_spec (ws := (wsG yX12_readAct cX12_readAct 3 none)) B.pre
  have hG : ∀ w ∈ GW, w.before ([.ref h0, .int a0] : List Value).toArray s = true := fun w h => hts w (List.mem_cons_of_mem _ h)
  have hown : s.vm.findClass RX12 = some m.cls := findClass_of_methodNamed B.named
  have hlocks := B.notSynchronized
  have hl := lv_entry [.ref h0, .int a0] (n := 3) (Nat.le_of_ble_eq_true rfl)
  rw [lg_entry_eq]
  generalize (lg_sl [.ref h0, .int a0] ++ List.replicate (3 - (lg_sl [.ref h0, .int a0]).length) Slot.unset).toArray = ls at hl ⊢
  have hl : lv_has ls 3 [(0, .ref h0), (1, .int a0)] := hl
  have hmk : mdK g Ty := mdk_of hH k_h0
  have hS : va_S (AF Ty s.heap.size) s.heap s.heap [] := va_S.rf
  refine lv_aload_n hx hb dX12_readAct_0 rfl (lv_at hl 0 rfl) ?_
  obtain ⟨_, ⟨rfl, t_2, hk_3⟩, o_c_1⟩ := hH h0 _ k_h0
  refine vp_callSi (W.runV (As := []) (rest := []) ⟨hx, hb, hml, hown, hts⟩ (c_X12_here l g Ty G h0 k_h0 (g.2.2 101) 80 (G.2.1 (g.2.2 101)) (G.2.1 (g.2.2 115)) (G.1 107) (G.1 108) (G.1 114) 80 (G.1 109) (G.1 110) ⟨r6, hmk.2.1, rfl, (fun _ _ => rfl), rfl, rfl, rfl, rfl, rfl, (rg_w r7 (by decide) (by decide)), by decide, Or.inl (show ((G.1 107) : Int32).toInt ≤ 80 from (rg_w (a2 := 0) (b2 := 80) r7 (by decide) (by decide)).2), by decide, by decide, (rg_w r9 (by decide) (by decide))⟩) (cwV 0 hts (gwV mw_1467 mw_1469 mw_40 mw_88 mw_1470) rfl rfl rfl hv_X12_here ⟨Nat.le_of_ble_eq_true rfl, Nat.le_of_ble_eq_true rfl⟩) ⟨PcH_blind, hg_recv hK o_c_1 rfl, PcH_pre hK hH⟩ rfl rfl hl.1 rfl (lv_room (Nat.le_of_ble_eq_true rfl)) dX12_readAct_1 ⟨Nat.zero_le _, Nat.zero_le _⟩) (fun x_4 hx_4 => ?_)
  have rx_4 : rgI (-1) (255) x_4 := hx_4.1
  refine lv_istore_n (lv' := [(2, .int x_4), (0, .ref h0), (1, .int a0)]) hx hb dX12_readAct_4 rfl hl (by decide) rfl (fun ls hl => ?_)
  refine lv_iload_n hx hb dX12_readAct_5 rfl (lv_at hl 0 rfl) ?_
  refine lv_bipush (v := 109) hx hb dX12_readAct_6 (by decide) ?_
  refine lv_icmp_eq (tgt := 50) hx hb dX12_readAct_8 (by decide) (fun c_5 => ?_) (fun c_5 => ?_)
  · have r_6 : rgI (109) (109) x_4 := rg_w (rg_eq rl_109 c_5) (by decide) (by decide)
    refine lv_aload_n hx hb dX12_readAct_50 rfl (lv_at hl 1 rfl) ?_
    refine lv_dup hx hb dX12_readAct_51 rfl ?_
    refine hg_get hx hb hG igX12 hown hK o_c_1 rfl 9 (by decide) (hG _ mw_1293) rfl dX12_readAct_52 ?_
    refine lv_iconst (v := 1) hx hb dX12_readAct_55 (by decide) ?_
    refine lv_iadd hx hb dX12_readAct_56 ?_
    refine lv_topi (fun x_7 ex_7 => ?_)
    have rx_7 : rgI (1) (81) x_7 := by rw [ex_7]; exact rg_w (rg_add r9 rl_1 (by decide) (by decide)) (by decide) (by decide)
    have qx_7 : x_7.toInt = ((G.1 109) : Int32).toInt + 1 := by rw [ex_7]; exact rg_addE r9 rl_1 (by decide) (by decide)
    have r9_8 : rgI 1 80 x_7 := at_up (h := 0) (here_lt (nh_eq hx_4.2 c_5 (by decide))) r7 r9 qx_7
    refine hg_put (ty := .int) hx hb hG igX12 tyX12 tyX12_ok nmX12 hown hK hS o_c_1 (AF.of k_h0) rfl 9 (by decide) (hG _ mw_1293) rfl (by decide +kernel) rfl rfl (Nat.le_of_ble_eq_true rfl) dX12_readAct_57 (fun H locs o_c_1 hz oq hS => ?_)
    obtain ⟨G_9, eG_9⟩ : ∃ z : Gh, z = gset G 109 x_7 := ⟨_, rfl⟩
    have hH : HT g Ty G_9 H := by rw [eG_9]; exact HT.putN 109 x_7 hH k_h0 ⟨rfl, t_2, hk_3⟩ o_c_1 oq (Or.inr (Or.inr (Or.inr (Or.inr (Or.inr ⟨by decide, t_2⟩)))))
    have fr_10 : FR [109, 110, 117] [(g.2.2 116), (g.2.2 130)] [] G G_9 := FR.n FR.rf eG_9 (by decide)
    have u_11 : G_9.1 107 = (G.1 107) := by rw [eG_9]; exact (gs_ne (by decide))
    have u_12 : G_9.1 108 = (G.1 108) := by rw [eG_9]; exact (gs_ne (by decide))
    have u_13 : G_9.1 110 = (G.1 110) := by rw [eG_9]; exact (gs_ne (by decide))
    have u_14 : G_9.1 117 = (G.1 117) := by rw [eG_9]; exact (gs_ne (by decide))
    have u_15 : G_9.1 109 = x_7 := by rw [eG_9]; exact gs_eq
    have w_16 : G_9.2.1 (g.2.2 116) = (G.2.1 (g.2.2 116)) := by rw [eG_9]; exact rfl
    have w_17 : G_9.2.1 (g.2.2 130) = (G.2.1 (g.2.2 130)) := by rw [eG_9]; exact rfl
    have u_18 : G_9.2.2 106 = some (g.2.2 101) := by rw [eG_9]; exact r6
    clear oq hz
    refine lv_aload_n hx hb dX12_readAct_60 rfl (lv_at hl 1 rfl) ?_
    obtain ⟨_, ⟨rfl, t_20, hk_21⟩, o_c_19⟩ := hH h0 _ k_h0
    refine hg_get hx hb hG igX12 hown hK o_c_19 rfl 30 (by decide) (hG _ mw_1314) rfl dX12_readAct_61 ?_
    refine lv_iload_n hx hb dX12_readAct_64 rfl (lv_at hl 2 rfl) ?_
    refine lv_iload_n hx hb dX12_readAct_65 rfl (lv_at hl 0 rfl) ?_
    obtain ⟨_, rfl, o_c_22⟩ := hH (g.2.2 130) _ hk_21.2.2.2.2.2.2.2.2.2.2.2.1
    have o_c_22 : va_at g.1 vwCl ((g.2.2 130), .inl (g.2.1 1, 320, .inl (G_9.2.1 (g.2.2 130)))) H := o_c_22
    refine hg_iast hx hb hK hS o_c_22 (AF.of hk_21.2.2.2.2.2.2.2.2.2.2.2.1) (rg_in (n := 320) pr0 (by decide) (by decide)) dX12_readAct_66 (fun H locs o_c_22 hz oq hS => ?_)
    obtain ⟨G_23, eG_23⟩ : ∃ z : Gh, z = aset G_9 (g.2.2 130) (upd (G_9.2.1 (g.2.2 130)) (a0 : Int32).toNatClampNeg x_4) := ⟨_, rfl⟩
    have hH : HT g Ty G_23 H := by rw [eG_23]; exact HT.putA (upd (G_9.2.1 (g.2.2 130)) (a0 : Int32).toNatClampNeg x_4) hH hk_21.2.2.2.2.2.2.2.2.2.2.2.1 cf30 o_c_22 oq
    obtain ⟨f_24, ef_24⟩ : ∃ z : Nat → Int32, z = (upd (G.2.1 (g.2.2 130)) (a0 : Int32).toNatClampNeg x_4) := ⟨_, rfl⟩
    have eaf_24 : G_23 = aset G_9 (g.2.2 130) f_24 := by rw [eG_23, ef_24, w_17]
    have fr_25 : FR [109, 110, 117] [(g.2.2 116), (g.2.2 130)] [] G G_23 := FR.a fr_10 eaf_24 (fun b h => h.2.1)
    have u_26 : G_23.1 107 = (G.1 107) := by rw [eaf_24]; exact u_11
    have u_27 : G_23.1 108 = (G.1 108) := by rw [eaf_24]; exact u_12
    have u_28 : G_23.1 110 = (G.1 110) := by rw [eaf_24]; exact u_13
    have u_29 : G_23.1 117 = (G.1 117) := by rw [eaf_24]; exact u_14
    have u_30 : G_23.1 109 = x_7 := by rw [eaf_24]; exact u_15
    have w_31 : G_23.2.1 (g.2.2 116) = (G.2.1 (g.2.2 116)) := by rw [eaf_24]; exact (aset_ne (ne_kd hmk.2.2.2.2.1 hmk.2.2.2.2.2.2.2.2.2.2.2.1 (by decide))).trans w_16
    have w_32 : G_23.2.1 (g.2.2 130) = f_24 := by rw [eaf_24]; exact aset_eq
    have u_33 : G_23.2.2 106 = some (g.2.2 101) := by rw [eaf_24]; exact u_18
    clear oq hz
    have ac_34 := ac_s (fun _ _ => rfl) ef_24 (show a0.toNatClampNeg = a0.toNatClampNeg + 0 from rfl) (by decide)
    have av_35 : f_24 (a0.toNatClampNeg + 0) = x_4 := ac_v ef_24 (show a0.toNatClampNeg = a0.toNatClampNeg + 0 from rfl)
    refine lv_iload_n hx hb dX12_readAct_67 rfl (lv_at hl 0 rfl) ?_
    refine lv_bipush (v := 107) hx hb dX12_readAct_68 (by decide) ?_
    refine lv_icmp_ne (tgt := 88) hx hb dX12_readAct_70 (by decide) (fun c_36 => ?_) (fun c_36 => ?_)
    · refine lv_aload_n hx hb dX12_readAct_88 rfl (lv_at hl 1 rfl) ?_
      obtain ⟨_, ⟨rfl, t_38, hk_39⟩, o_c_37⟩ := hH h0 _ k_h0
      refine vp_callSi (W.runV (As := []) (rest := []) ⟨hx, hb, hml, hown, hts⟩ (c_X12_fine_p l g Ty G_23 h0 k_h0 (g.2.2 101) 80 (G_23.2.1 (g.2.2 101)) (G_23.2.1 (g.2.2 115)) (G.1 107) (G.1 108) (G_23.1 114) 80 x_7 (G.1 110) ⟨u_33, hmk.2.1, rfl, (fun _ _ => rfl), u_26, u_27, rfl, u_30, u_28, (rg_w r7 (by decide) (by decide)), by decide, Or.inl (show ((G.1 107) : Int32).toInt ≤ 80 from (rg_w (a2 := 0) (b2 := 80) r7 (by decide) (by decide)).2), by decide, by decide, (rg_w r9_8 (by decide) (by decide))⟩) (cwV 0 hts (gwV mw_1463 mw_1465 mw_39 mw_88 mw_1466) rfl rfl rfl hv_X12_fine ⟨Nat.le_of_ble_eq_true rfl, Nat.le_of_ble_eq_true rfl⟩) ⟨PcH_blind, hg_recv hK o_c_37 rfl, PcH_pre hK hH⟩ rfl rfl hl.1 rfl (lv_room (Nat.le_of_ble_eq_true rfl)) dX12_readAct_89 ⟨Nat.zero_le _, Nat.zero_le _⟩) (fun x_40 hx_40 => ?_)
      have rx_40 : rgI (0) (1) x_40 := hx_40.1
      refine lv_if_ne (tgt := 96) hx hb dX12_readAct_92 (by decide) (fun c_41 => ?_) (fun c_41 => ?_)
      · have r_42 : rgI (1) (1) x_40 := rg_w (rg_neL rx_40 rl_0 c_41) (by decide) (by decide)
        refine lv_aload_n hx hb dX12_readAct_96 rfl (lv_at hl 1 rfl) ?_
        refine hg_get hx hb hG igX12 hown hK o_c_37 rfl 30 (by decide) (hG _ mw_1314) rfl dX12_readAct_97 ?_
        refine lv_iload_n hx hb dX12_readAct_100 rfl (lv_at hl 2 rfl) ?_
        refine lv_iconst (v := 1) hx hb dX12_readAct_101 (by decide) ?_
        refine lv_iadd hx hb dX12_readAct_102 ?_
        refine lv_topi (fun x_43 ex_43 => ?_)
        have rx_43 : rgI (1) (317) x_43 := by rw [ex_43]; exact rg_w (rg_add pr0 rl_1 (by decide) (by decide)) (by decide) (by decide)
        have qx_43 : x_43.toInt = (a0 : Int32).toInt + 1 := by rw [ex_43]; exact rg_addE pr0 rl_1 (by decide) (by decide)
        refine lv_aload_n hx hb dX12_readAct_103 rfl (lv_at hl 1 rfl) ?_
        have hlm_44 : 0 ≤ ((G.1 117) : Int32).toInt ∧ ((G.1 117) : Int32).toInt ≤ (x_7 : Int32).toInt + 1 := ⟨by have z0 := hlm.1; have z1 := hlm.2; have z2 := qx_7; omega, by have z0 := hlm.1; have z1 := hlm.2; have z2 := qx_7; omega⟩
        refine va_calli (va_runV (As := []) (rest := [.int x_43, .ref (g.2.2 130)]) ⟨hx, hb, hml, hown, hts⟩ (c_X12_readPath l g Ty G_23 H.size h0 k_h0 u_33 (by rw [u_26]; exact (rg_w r7 (by decide) (by decide))) (by rw [u_30]; exact (rg_w r9_8 (by decide) (by decide))) (by rw [u_28]; exact w0) hLD (by rw [u_29, u_30]; exact hlm_44)) (cwV 0 hts (gwV mw_1498 mw_1500 mw_46 mw_88 mw_1501) rfl rfl rfl hv_X12_readPath ⟨Nat.le_of_ble_eq_true rfl, Nat.le_of_ble_eq_true rfl⟩) ⟨PcT_blind, hg_recv hK o_c_37 rfl, PcT_pre hK hH⟩ rfl rfl hl.1 rfl (lv_room (Nat.le_of_ble_eq_true rfl)) dX12_readAct_104 ⟨Nat.zero_le _, Nat.zero_le _⟩) hS (fun q _ h => AF.mono hS.1 h) (fun q h => AF.mono hS.1 h) (fun x_45 ux_45 t H locs ht hvm hx_45 hB hz hk hS => ?_)
        obtain ⟨eTx_45, eGx_45⟩ := hx_45
        obtain ⟨G_46, eG_46⟩ : ∃ z, z = ux_45.2 := ⟨_, rfl⟩
        rw [← eG_46] at eGx_45
        obtain ⟨hfr_47, hex_48⟩ := eGx_45
        have fr_49 : FR [109, 110, 117] [(g.2.2 116), (g.2.2 130)] [] G G_46 := FR.tr fr_25 hfr_47 (by decide) (fun b h => ⟨h.1, trivial⟩) (by decide)
        have u_50 : G_46.1 107 = (G.1 107) := (hfr_47.1 107 (by decide)).trans u_26
        have u_51 : G_46.1 108 = (G.1 108) := (hfr_47.1 108 (by decide)).trans u_27
        have w_52 : G_46.2.1 (g.2.2 130) = f_24 := (hfr_47.2.1 (g.2.2 130) ⟨(ne_kd hmk.2.2.2.2.2.2.2.2.2.2.2.1 hmk.2.2.2.2.1 (by decide)), trivial⟩).trans w_32
        have u_53 : G_46.2.2 106 = some (g.2.2 101) := (hfr_47.2.2 106 (by decide)).trans u_33
        obtain ⟨f_54, ef_54⟩ : ∃ z : Nat → Int32, G_46.2.1 (g.2.2 116) = z := ⟨_, rfl⟩
        obtain ⟨xl_55, exl_55⟩ : ∃ z : Int32, G_46.1 117 = z := ⟨_, rfl⟩
        obtain ⟨xa_56, exa_56⟩ : ∃ z : Int32, G_46.1 109 = z := ⟨_, rfl⟩
        obtain ⟨xw_57, exw_57⟩ : ∃ z : Int32, G_46.1 110 = z := ⟨_, rfl⟩
        have rp_58 := hex_48
        rw [ef_54, exl_55, exa_56, exw_57, w_31, u_29, u_30] at rp_58
        have hH : HT g Ty G_46 H := by rw [← ht, ← eTx_45, eG_46]; exact hB
        have t_59 := rp_58.1.2.2.1
        have t_60 := rp_58.1.2.2.2.1
        have t_61 := rp_58.2.2.2.1
        obtain ⟨_, rfl, o_c_62⟩ := hH (g.2.2 130) _ hk_39.2.2.2.2.2.2.2.2.2.2.2.1
        have o_c_62 : va_at g.1 vwCl ((g.2.2 130), .inl (g.2.1 1, 320, .inl (G_46.2.1 (g.2.2 130)))) H := o_c_62
        refine hg_iast hx hb hK hS o_c_62 (AF.of hk_39.2.2.2.2.2.2.2.2.2.2.2.1) (rg_in (n := 320) rx_43 (by decide) (by decide)) dX12_readAct_107 (fun H locs o_c_62 hz oq hS => ?_)
        obtain ⟨G_63, eG_63⟩ : ∃ z : Gh, z = aset G_46 (g.2.2 130) (upd (G_46.2.1 (g.2.2 130)) (x_43 : Int32).toNatClampNeg x_45) := ⟨_, rfl⟩
        have hH : HT g Ty G_63 H := by rw [eG_63]; exact HT.putA (upd (G_46.2.1 (g.2.2 130)) (x_43 : Int32).toNatClampNeg x_45) hH hk_39.2.2.2.2.2.2.2.2.2.2.2.1 cf30 o_c_62 oq
        obtain ⟨f_64, ef_64⟩ : ∃ z : Nat → Int32, z = (upd f_24 (x_43 : Int32).toNatClampNeg x_45) := ⟨_, rfl⟩
        have eaf_64 : G_63 = aset G_46 (g.2.2 130) f_64 := by rw [eG_63, ef_64, w_52]
        have fr_65 : FR [109, 110, 117] [(g.2.2 116), (g.2.2 130)] [] G G_63 := FR.a fr_49 eaf_64 (fun b h => h.2.1)
        have u_66 : G_63.1 107 = (G.1 107) := by rw [eaf_64]; exact u_50
        have u_67 : G_63.1 108 = (G.1 108) := by rw [eaf_64]; exact u_51
        have u_68 : G_63.1 109 = xa_56 := by rw [eaf_64]; exact exa_56
        have u_69 : G_63.1 110 = xw_57 := by rw [eaf_64]; exact exw_57
        have u_70 : G_63.1 117 = xl_55 := by rw [eaf_64]; exact exl_55
        have w_71 : G_63.2.1 (g.2.2 130) = f_64 := by rw [eaf_64]; exact aset_eq
        have w_72 : G_63.2.1 (g.2.2 116) = f_54 := by rw [eaf_64]; exact (aset_ne (ne_kd hmk.2.2.2.2.1 hmk.2.2.2.2.2.2.2.2.2.2.2.1 (by decide))).trans ef_54
        have u_73 : G_63.2.2 106 = some (g.2.2 101) := by rw [eaf_64]; exact u_53
        clear oq hz
        have ac_74 := ac_s ac_34 ef_64 (ai_d ex_43 pr0 rfl (by decide)) (by decide)
        have av_75 : f_64 (a0.toNatClampNeg + 0) = x_4 := ac_k av_35 ef_64 (ai_d ex_43 pr0 rfl (by decide)) (by decide)
        have av_76 : f_64 (a0.toNatClampNeg + 1) = x_45 := ac_v ef_64 (ai_d ex_43 pr0 rfl (by decide))
        refine lv_aload_n hx hb dX12_readAct_108 rfl (lv_at hl 1 rfl) ?_
        obtain ⟨_, ⟨rfl, t_78, hk_79⟩, o_c_77⟩ := hH h0 _ k_h0
        refine vp_callSi (W.runV (As := []) (rest := []) ⟨hx, hb, hml, hown, hts⟩ (c_X12_fine_p l g Ty G_63 h0 k_h0 (g.2.2 101) 80 (G_63.2.1 (g.2.2 101)) (G_63.2.1 (g.2.2 115)) (G.1 107) (G.1 108) (G_63.1 114) 80 xa_56 xw_57 ⟨u_73, hmk.2.1, rfl, (fun _ _ => rfl), u_66, u_67, rfl, u_68, u_69, (rg_w r7 (by decide) (by decide)), by decide, Or.inl (show ((G.1 107) : Int32).toInt ≤ 80 from (rg_w (a2 := 0) (b2 := 80) r7 (by decide) (by decide)).2), by decide, by decide, (rg_w rp_58.2.2.1 (by decide) (by decide))⟩) (cwV 0 hts (gwV mw_1463 mw_1465 mw_39 mw_88 mw_1466) rfl rfl rfl hv_X12_fine ⟨Nat.le_of_ble_eq_true rfl, Nat.le_of_ble_eq_true rfl⟩) ⟨PcH_blind, hg_recv hK o_c_77 rfl, PcH_pre hK hH⟩ rfl rfl hl.1 rfl (lv_room (Nat.le_of_ble_eq_true rfl)) dX12_readAct_109 ⟨Nat.zero_le _, Nat.zero_le _⟩) (fun x_80 hx_80 => ?_)
        have rx_80 : rgI (0) (1) x_80 := hx_80.1
        refine lv_if_eq (tgt := 170) hx hb dX12_readAct_112 (by decide) (fun c_81 => ?_) (fun c_81 => ?_)
        · have r_82 : rgI (0) (0) x_80 := rg_w (rg_eq rl_0 c_81) (by decide) (by decide)
          refine lv_aload_n hx hb dX12_readAct_170 rfl (lv_at hl 1 rfl) ?_
          refine vp_callSi (W.runV (As := []) (rest := []) ⟨hx, hb, hml, hown, hts⟩ (c_X12_fine_p l g Ty G_63 h0 k_h0 (g.2.2 101) 80 (G_63.2.1 (g.2.2 101)) (G_63.2.1 (g.2.2 115)) (G.1 107) (G.1 108) (G_63.1 114) 80 xa_56 xw_57 ⟨u_73, hmk.2.1, rfl, (fun _ _ => rfl), u_66, u_67, rfl, u_68, u_69, (rg_w r7 (by decide) (by decide)), by decide, Or.inl (show ((G.1 107) : Int32).toInt ≤ 80 from (rg_w (a2 := 0) (b2 := 80) r7 (by decide) (by decide)).2), by decide, by decide, (rg_w rp_58.2.2.1 (by decide) (by decide))⟩) (cwV 0 hts (gwV mw_1463 mw_1465 mw_39 mw_88 mw_1466) rfl rfl rfl hv_X12_fine ⟨Nat.le_of_ble_eq_true rfl, Nat.le_of_ble_eq_true rfl⟩) ⟨PcH_blind, hg_recv hK o_c_77 rfl, PcH_pre hK hH⟩ rfl rfl hl.1 rfl (lv_room (Nat.le_of_ble_eq_true rfl)) dX12_readAct_171 ⟨Nat.zero_le _, Nat.zero_le _⟩) (fun x_83 hx_83 => ?_)
          have rx_83 : rgI (0) (1) x_83 := hx_83.1
          refine lv_if_eq (tgt := 194) hx hb dX12_readAct_174 (by decide) (fun c_84 => ?_) (fun c_84 => ?_)
          · have r_85 : rgI (0) (0) x_83 := rg_w (rg_eq rl_0 c_84) (by decide) (by decide)
            exact W.vret hx hb hr (fun t ht hWm => ⟨⟨(Ty, G_63), rfl, ⟨rfl, ⟨fr_65, (by rw [w_72, w_71, u_70, u_68, u_69]; exact ⟨by have z0 := hlm.1; have z1 := hlm.2; have z2 := qx_7; have z3 := t_59; have z4 := t_60; have z5 := t_61; omega, rp_58.1.1, ac_74, by have z0 := hlm.1; have z1 := hlm.2; have z2 := qx_7; have z3 := t_59; have z4 := t_60; have z5 := t_61; omega, (rg_w rp_58.2.2.1 (by decide) (by decide)), rp_58.2.1, by have z0 := hlm.1; have z1 := hlm.2; have z2 := qx_7; have z3 := t_59; have z4 := t_60; have z5 := t_61; omega, (fun q => absurd q (fin_0 hx_83.2 c_84))⟩)⟩⟩, by show HT g Ty G_63 t.heap; rw [ht]; exact hH⟩, hS.F ht⟩) hS.2.2 dX12_readAct_194
          · have r_86 : rgI (1) (1) x_83 := rg_w (rg_neL rx_83 rl_0 c_84) (by decide) (by decide)
            exact absurd (fin_1 hx_83.2 c_84) (fin_0 hx_80.2 c_81)
        · have r_87 : rgI (1) (1) x_80 := rg_w (rg_neL rx_80 rl_0 c_81) (by decide) (by decide)
          have t_88 := rp_58.1.2.2.2.2 (fin_1 hx_80.2 c_81)
          refine lv_iload_n hx hb dX12_readAct_115 rfl (lv_at hl 0 rfl) ?_
          refine lv_bipush (v := 98) hx hb dX12_readAct_116 (by decide) ?_
          refine lv_icmp_eq (tgt := 133) hx hb dX12_readAct_118 (by decide) (fun c_89 => ?_) (fun c_89 => ?_)
          · exact rg_noE r_6 rl_98 c_89 (by decide)
          · refine lv_iload_n hx hb dX12_readAct_121 rfl (lv_at hl 0 rfl) ?_
            refine lv_bipush (v := 114) hx hb dX12_readAct_122 (by decide) ?_
            refine lv_icmp_eq (tgt := 133) hx hb dX12_readAct_124 (by decide) (fun c_90 => ?_) (fun c_90 => ?_)
            · exact rg_noE r_6 rl_114 c_90 (by decide)
            · refine lv_iload_n hx hb dX12_readAct_127 rfl (lv_at hl 0 rfl) ?_
              refine lv_bipush (v := 118) hx hb dX12_readAct_128 (by decide) ?_
              refine lv_icmp_ne (tgt := 170) hx hb dX12_readAct_130 (by decide) (fun c_91 => ?_) (fun c_91 => ?_)
              · refine lv_aload_n hx hb dX12_readAct_170 rfl (lv_at hl 1 rfl) ?_
                refine vp_callSi (W.runV (As := []) (rest := []) ⟨hx, hb, hml, hown, hts⟩ (c_X12_fine_p l g Ty G_63 h0 k_h0 (g.2.2 101) 80 (G_63.2.1 (g.2.2 101)) (G_63.2.1 (g.2.2 115)) (G.1 107) (G.1 108) (G_63.1 114) 80 xa_56 xw_57 ⟨u_73, hmk.2.1, rfl, (fun _ _ => rfl), u_66, u_67, rfl, u_68, u_69, (rg_w r7 (by decide) (by decide)), by decide, Or.inl (show ((G.1 107) : Int32).toInt ≤ 80 from (rg_w (a2 := 0) (b2 := 80) r7 (by decide) (by decide)).2), by decide, by decide, (rg_w rp_58.2.2.1 (by decide) (by decide))⟩) (cwV 0 hts (gwV mw_1463 mw_1465 mw_39 mw_88 mw_1466) rfl rfl rfl hv_X12_fine ⟨Nat.le_of_ble_eq_true rfl, Nat.le_of_ble_eq_true rfl⟩) ⟨PcH_blind, hg_recv hK o_c_77 rfl, PcH_pre hK hH⟩ rfl rfl hl.1 rfl (lv_room (Nat.le_of_ble_eq_true rfl)) dX12_readAct_171 ⟨Nat.zero_le _, Nat.zero_le _⟩) (fun x_92 hx_92 => ?_)
                have rx_92 : rgI (0) (1) x_92 := hx_92.1
                refine lv_if_eq (tgt := 194) hx hb dX12_readAct_174 (by decide) (fun c_93 => ?_) (fun c_93 => ?_)
                · have r_94 : rgI (0) (0) x_92 := rg_w (rg_eq rl_0 c_93) (by decide) (by decide)
                  exact W.vret hx hb hr (fun t ht hWm => ⟨⟨(Ty, G_63), rfl, ⟨rfl, ⟨fr_65, (by rw [w_72, w_71, u_70, u_68, u_69]; exact ⟨by have z0 := hlm.1; have z1 := hlm.2; have z2 := qx_7; have z3 := t_59; have z4 := t_60; have z5 := t_61; have z6 := t_88; omega, rp_58.1.1, ac_74, by have z0 := hlm.1; have z1 := hlm.2; have z2 := qx_7; have z3 := t_59; have z4 := t_60; have z5 := t_61; have z6 := t_88; omega, (rg_w rp_58.2.2.1 (by decide) (by decide)), rp_58.2.1, by have z0 := hlm.1; have z1 := hlm.2; have z2 := qx_7; have z3 := t_59; have z4 := t_60; have z5 := t_61; have z6 := t_88; omega, (fun q => absurd q (fin_0 hx_92.2 c_93))⟩)⟩⟩, by show HT g Ty G_63 t.heap; rw [ht]; exact hH⟩, hS.F ht⟩) hS.2.2 dX12_readAct_194
                · have r_95 : rgI (1) (1) x_92 := rg_w (rg_neL rx_92 rl_0 c_93) (by decide) (by decide)
                  have t_96 := rp_58.1.2.2.2.2 (fin_1 hx_92.2 c_93)
                  refine lv_aload_n hx hb dX12_readAct_177 rfl (lv_at hl 1 rfl) ?_
                  refine lv_bipush (v := 46) hx hb dX12_readAct_178 (by decide) ?_
                  refine va_calli (va_runV (As := [.int 46]) (rest := []) ⟨hx, hb, hml, hown, hts⟩ (c_X12_passes l g Ty G_63 H.size h0 46 k_h0 (rg_w rl_46 (by decide) (by decide)) (g.2.2 101) 80 (G_63.2.1 (g.2.2 101)) (G_63.2.1 (g.2.2 115)) (G.1 107) (G.1 108) (G_63.1 114) 80 xa_56 xw_57 ⟨u_73, hmk.2.1, rfl, (fun _ _ => rfl), u_66, u_67, rfl, u_68, u_69, (rg_w r7 (by decide) (by decide)), by decide, Or.inl (show ((G.1 107) : Int32).toInt ≤ 80 from (rg_w (a2 := 0) (b2 := 80) r7 (by decide) (by decide)).2), by decide, by decide, (rg_w rp_58.2.2.1 (by decide) (by decide))⟩) (cwV 1 hts (gwV mw_1459 mw_1461 mw_38 mw_88 mw_1462) rfl rfl rfl hv_X12_passes ⟨Nat.le_of_ble_eq_true rfl, Nat.le_of_ble_eq_true rfl⟩) ⟨PcT_blind, hg_recv hK o_c_77 rfl, PcT_pre hK hH⟩ rfl rfl hl.1 rfl (lv_room (Nat.le_of_ble_eq_true rfl)) dX12_readAct_180 ⟨Nat.zero_le _, Nat.zero_le _⟩) hS (fun q _ h => AF.mono hS.1 h) (fun q h => AF.mono hS.1 h) (fun x_97 ux_97 t H locs ht hvm hx_97 hB hz hk hS => ?_)
                  obtain ⟨hx_97, fx_97⟩ := hx_97
                  obtain ⟨eTx_97, eGx_97⟩ := fx_97
                  obtain ⟨G_98, eG_98⟩ : ∃ z, z = ux_97.2 := ⟨_, rfl⟩
                  rw [← eG_98] at eGx_97
                  have pq_99 := pas_pr eGx_97 (rg_w rp_58.2.2.1 (by decide) (by decide))
                  obtain ⟨hr_100, hg_101, hm_102, hq_103⟩ := eGx_97
                  have hfr_104 : FR [109, 110] [] [] G_63 G_98 := FR.ps FR.rf hg_101 (by decide) (by decide)
                  have fr_105 : FR [109, 110, 117] [(g.2.2 116), (g.2.2 130)] [] G G_98 := FR.tr fr_65 hfr_104 (by decide) (fun _ _ => trivial) (by decide)
                  have u_106 : G_98.1 107 = (G.1 107) := (hfr_104.1 107 (by decide)).trans u_66
                  have u_107 : G_98.1 108 = (G.1 108) := (hfr_104.1 108 (by decide)).trans u_67
                  have u_108 : G_98.1 117 = xl_55 := (hfr_104.1 117 (by decide)).trans u_70
                  have w_109 : G_98.2.1 (g.2.2 130) = f_64 := (hfr_104.2.1 (g.2.2 130) trivial).trans w_71
                  have w_110 : G_98.2.1 (g.2.2 116) = f_54 := (hfr_104.2.1 (g.2.2 116) trivial).trans w_72
                  have u_111 : G_98.2.2 106 = some (g.2.2 101) := (hfr_104.2.2 106 (by decide)).trans u_73
                  obtain ⟨xw_112, exw_112⟩ : ∃ z : Int32, G_98.1 110 = z := ⟨_, rfl⟩
                  obtain ⟨xa_113, exa_113⟩ : ∃ z : Int32, G_98.1 109 = z := ⟨_, rfl⟩
                  have r9_114 : rgI 0 80 xa_113 := by rw [← exa_113, pst109 hg_101]; exact hq_103
                  rw [exa_113, exw_112] at pq_99
                  have hH : HT g Ty G_98 H := by rw [← ht, ← eTx_97, eG_98]; exact hB
                  have rx_97 : rgI (0) (1) x_97 := hx_97.1
                  refine lv_if_ne (tgt := 194) hx hb dX12_readAct_183 (by decide) (fun c_115 => ?_) (fun c_115 => ?_)
                  · have r_116 : rgI (1) (1) x_97 := rg_w (rg_neL rx_97 rl_0 c_115) (by decide) (by decide)
                    have t_117 := (pq_99.2.resolve_left (fun z => c_115 z.1)).2.1
                    exact W.vret hx hb hr (fun t ht hWm => ⟨⟨(Ty, G_98), rfl, ⟨rfl, ⟨fr_105, (by rw [w_110, w_109, u_108, exa_113, exw_112]; exact ⟨by have z0 := hlm.1; have z1 := hlm.2; have z2 := qx_7; have z3 := t_59; have z4 := t_60; have z5 := t_61; have z6 := t_88; have z7 := t_96; have z8 := t_117; omega, rp_58.1.1, ac_74, by have z0 := hlm.1; have z1 := hlm.2; have z2 := qx_7; have z3 := t_59; have z4 := t_60; have z5 := t_61; have z6 := t_88; have z7 := t_96; have z8 := t_117; omega, (rg_w r9_114 (by decide) (by decide)), (by rw [pq_99.1]; exact rp_58.2.1), by have z0 := hlm.1; have z1 := hlm.2; have z2 := qx_7; have z3 := t_59; have z4 := t_60; have z5 := t_61; have z6 := t_88; have z7 := t_96; have z8 := t_117; omega, (fun q => ⟨by have z0 := hlm.1; have z1 := hlm.2; have z2 := qx_7; have z3 := t_59; have z4 := t_60; have z5 := t_61; have z6 := t_88; have z7 := t_96; have z8 := t_117; omega, by have z0 := hlm.1; have z1 := hlm.2; have z2 := qx_7; have z3 := t_59; have z4 := t_60; have z5 := t_61; have z6 := t_88; have z7 := t_96; have z8 := t_117; omega, ⟨(ps_eq rp_58.1.2.1 (av_76.trans rp_58.2.2.2.2)), Or.inl (av_75.trans c_5)⟩⟩)⟩)⟩⟩, by show HT g Ty G_98 t.heap; rw [ht]; exact hH⟩, hS.F ht⟩) hS.2.2 dX12_readAct_194
                  · have r_118 : rgI (0) (0) x_97 := rg_w (rg_eq rl_0 c_115) (by decide) (by decide)
                    have t_119 : xa_113 = xa_56 := (pq_99.2.resolve_right (fun z => z.1 c_115)).2
                    have t_120 : (xa_113 : Int32).toInt = (xa_56 : Int32).toInt := by rw [t_119]
                    refine lv_aload_n hx hb dX12_readAct_186 rfl (lv_at hl 1 rfl) ?_
                    refine lv_aload_n hx hb dX12_readAct_187 rfl (lv_at hl 1 rfl) ?_
                    obtain ⟨_, ⟨rfl, t_122, hk_123⟩, o_c_121⟩ := hH h0 _ k_h0
                    refine hg_get hx hb hG igX12 hown hK o_c_121 rfl 9 (by decide) (hG _ mw_1293) rfl dX12_readAct_188 ?_
                    rw [exa_113]
                    refine va_callv (va_runV (As := [.int xa_113]) (rest := []) ⟨hx, hb, hml, hown, hts⟩ (c_X12_fault_p l g Ty G_98 H.size h0 xa_113 k_h0 (g.2.2 101) 80 (G_98.2.1 (g.2.2 101)) (G_98.2.1 (g.2.2 115)) (G.1 107) (G.1 108) (G_98.1 114) 80 xa_113 xw_112 ⟨u_111, hmk.2.1, rfl, (fun _ _ => rfl), u_106, u_107, rfl, exa_113, exw_112, (rg_w r7 (by decide) (by decide)), by decide, Or.inl (show ((G.1 107) : Int32).toInt ≤ 80 from (rg_w (a2 := 0) (b2 := 80) r7 (by decide) (by decide)).2), by decide, by decide, (rg_w r9_114 (by decide) (by decide))⟩) (cwV 1 hts (gwV mw_1475 mw_1477 mw_42 mw_88 mw_1478) rfl rfl rfl hv_X12_fault ⟨Nat.le_of_ble_eq_true rfl, Nat.le_of_ble_eq_true rfl⟩) ⟨PcT_blind, hg_recv hK o_c_121 rfl, PcT_pre hK hH⟩ rfl rfl hl.1 rfl (lv_room (Nat.le_of_ble_eq_true rfl)) dX12_readAct_191 ⟨Nat.zero_le _, Nat.zero_le _⟩) hS (fun q _ h => AF.mono hS.1 h) (fun q h => AF.mono hS.1 h) (fun ux_124 t H locs ht hvm hx_124 hB hz hk hS => ?_)
                    obtain ⟨eTx_124, eGx_124⟩ := hx_124
                    obtain ⟨G_125, eG_125⟩ : ∃ z, z = ux_124.2 := ⟨_, rfl⟩
                    rw [← eG_125] at eGx_124
                    have pq_126 := flt_pr eGx_124 (rg_w r9_114 (by decide) (by decide))
                    obtain ⟨hg_128, hm_129, hq_130⟩ := eGx_124
                    have hfr_131 : FR [109, 110] [] [] G_98 G_125 := FR.ps FR.rf hg_128 (by decide) (by decide)
                    have fr_132 : FR [109, 110, 117] [(g.2.2 116), (g.2.2 130)] [] G G_125 := FR.tr fr_105 hfr_131 (by decide) (fun _ _ => trivial) (by decide)
                    have u_133 : G_125.1 107 = (G.1 107) := (hfr_131.1 107 (by decide)).trans u_106
                    have u_134 : G_125.1 108 = (G.1 108) := (hfr_131.1 108 (by decide)).trans u_107
                    have u_135 : G_125.1 117 = xl_55 := (hfr_131.1 117 (by decide)).trans u_108
                    have w_136 : G_125.2.1 (g.2.2 130) = f_64 := (hfr_131.2.1 (g.2.2 130) trivial).trans w_109
                    have w_137 : G_125.2.1 (g.2.2 116) = f_54 := (hfr_131.2.1 (g.2.2 116) trivial).trans w_110
                    have u_138 : G_125.2.2 106 = some (g.2.2 101) := (hfr_131.2.2 106 (by decide)).trans u_111
                    obtain ⟨xw_139, exw_139⟩ : ∃ z : Int32, G_125.1 110 = z := ⟨_, rfl⟩
                    have e9_140 := pq_126.1
                    rw [exw_139] at pq_126
                    have hH : HT g Ty G_125 H := by rw [← ht, ← eTx_124, eG_125]; exact hB
                    exact W.vret hx hb hr (fun t ht hWm => ⟨⟨(Ty, G_125), rfl, ⟨rfl, ⟨fr_132, (by rw [w_137, w_136, u_135, e9_140, exw_139]; exact ⟨by have z0 := hlm.1; have z1 := hlm.2; have z2 := qx_7; have z3 := t_59; have z4 := t_60; have z5 := t_61; have z6 := t_88; have z7 := t_96; have z8 := t_120; omega, rp_58.1.1, ac_74, by have z0 := hlm.1; have z1 := hlm.2; have z2 := qx_7; have z3 := t_59; have z4 := t_60; have z5 := t_61; have z6 := t_88; have z7 := t_96; have z8 := t_120; omega, (rg_w r9_114 (by decide) (by decide)), (pq_126.2.2 (by rw [pq_99.1]; exact rp_58.2.1)), by have z0 := hlm.1; have z1 := hlm.2; have z2 := qx_7; have z3 := t_59; have z4 := t_60; have z5 := t_61; have z6 := t_88; have z7 := t_96; have z8 := t_120; omega, (fun q => absurd q pq_126.2.1)⟩)⟩⟩, by show HT g Ty G_125 t.heap; rw [ht]; exact hH⟩, hS.F ht⟩) hS.2.2 dX12_readAct_194
              · exact rg_noE r_6 rl_118 c_91 (by decide)
      · have r_141 : rgI (0) (0) x_40 := rg_w (rg_eq rl_0 c_41) (by decide) (by decide)
        exact W.vret hx hb hr (fun t ht hWm => ⟨⟨(Ty, G_23), rfl, ⟨rfl, ⟨fr_25, (by rw [w_31, w_32, u_29, u_30, u_28]; exact ⟨by have z0 := hlm.1; have z1 := hlm.2; have z2 := qx_7; omega, (fun _ _ => rfl), ac_34, by have z0 := hlm.1; have z1 := hlm.2; have z2 := qx_7; omega, (rg_w r9_8 (by decide) (by decide)), w0, by have z0 := hlm.1; have z1 := hlm.2; have z2 := qx_7; omega, (fun q => absurd q (fin_0 hx_40.2 c_41))⟩)⟩⟩, by show HT g Ty G_23 t.heap; rw [ht]; exact hH⟩, hS.F ht⟩) hS.2.2 dX12_readAct_95
    · exact rg_noE r_6 rl_107 c_36 (by decide)
  · refine lv_iload_n hx hb dX12_readAct_11 rfl (lv_at hl 0 rfl) ?_
    refine lv_bipush (v := 98) hx hb dX12_readAct_12 (by decide) ?_
    refine lv_icmp_eq (tgt := 50) hx hb dX12_readAct_14 (by decide) (fun c_142 => ?_) (fun c_142 => ?_)
    · have r_143 : rgI (98) (98) x_4 := rg_w (rg_eq rl_98 c_142) (by decide) (by decide)
      refine lv_aload_n hx hb dX12_readAct_50 rfl (lv_at hl 1 rfl) ?_
      refine lv_dup hx hb dX12_readAct_51 rfl ?_
      refine hg_get hx hb hG igX12 hown hK o_c_1 rfl 9 (by decide) (hG _ mw_1293) rfl dX12_readAct_52 ?_
      refine lv_iconst (v := 1) hx hb dX12_readAct_55 (by decide) ?_
      refine lv_iadd hx hb dX12_readAct_56 ?_
      refine lv_topi (fun x_144 ex_144 => ?_)
      have rx_144 : rgI (1) (81) x_144 := by rw [ex_144]; exact rg_w (rg_add r9 rl_1 (by decide) (by decide)) (by decide) (by decide)
      have qx_144 : x_144.toInt = ((G.1 109) : Int32).toInt + 1 := by rw [ex_144]; exact rg_addE r9 rl_1 (by decide) (by decide)
      have r9_145 : rgI 1 80 x_144 := at_up (h := 0) (here_lt (nh_eq hx_4.2 c_142 (by decide))) r7 r9 qx_144
      refine hg_put (ty := .int) hx hb hG igX12 tyX12 tyX12_ok nmX12 hown hK hS o_c_1 (AF.of k_h0) rfl 9 (by decide) (hG _ mw_1293) rfl (by decide +kernel) rfl rfl (Nat.le_of_ble_eq_true rfl) dX12_readAct_57 (fun H locs o_c_1 hz oq hS => ?_)
      obtain ⟨G_146, eG_146⟩ : ∃ z : Gh, z = gset G 109 x_144 := ⟨_, rfl⟩
      have hH : HT g Ty G_146 H := by rw [eG_146]; exact HT.putN 109 x_144 hH k_h0 ⟨rfl, t_2, hk_3⟩ o_c_1 oq (Or.inr (Or.inr (Or.inr (Or.inr (Or.inr ⟨by decide, t_2⟩)))))
      have fr_147 : FR [109, 110, 117] [(g.2.2 116), (g.2.2 130)] [] G G_146 := FR.n FR.rf eG_146 (by decide)
      have u_148 : G_146.1 107 = (G.1 107) := by rw [eG_146]; exact (gs_ne (by decide))
      have u_149 : G_146.1 108 = (G.1 108) := by rw [eG_146]; exact (gs_ne (by decide))
      have u_150 : G_146.1 110 = (G.1 110) := by rw [eG_146]; exact (gs_ne (by decide))
      have u_151 : G_146.1 117 = (G.1 117) := by rw [eG_146]; exact (gs_ne (by decide))
      have u_152 : G_146.1 109 = x_144 := by rw [eG_146]; exact gs_eq
      have w_153 : G_146.2.1 (g.2.2 116) = (G.2.1 (g.2.2 116)) := by rw [eG_146]; exact rfl
      have w_154 : G_146.2.1 (g.2.2 130) = (G.2.1 (g.2.2 130)) := by rw [eG_146]; exact rfl
      have u_155 : G_146.2.2 106 = some (g.2.2 101) := by rw [eG_146]; exact r6
      clear oq hz
      refine lv_aload_n hx hb dX12_readAct_60 rfl (lv_at hl 1 rfl) ?_
      obtain ⟨_, ⟨rfl, t_157, hk_158⟩, o_c_156⟩ := hH h0 _ k_h0
      refine hg_get hx hb hG igX12 hown hK o_c_156 rfl 30 (by decide) (hG _ mw_1314) rfl dX12_readAct_61 ?_
      refine lv_iload_n hx hb dX12_readAct_64 rfl (lv_at hl 2 rfl) ?_
      refine lv_iload_n hx hb dX12_readAct_65 rfl (lv_at hl 0 rfl) ?_
      obtain ⟨_, rfl, o_c_159⟩ := hH (g.2.2 130) _ hk_158.2.2.2.2.2.2.2.2.2.2.2.1
      have o_c_159 : va_at g.1 vwCl ((g.2.2 130), .inl (g.2.1 1, 320, .inl (G_146.2.1 (g.2.2 130)))) H := o_c_159
      refine hg_iast hx hb hK hS o_c_159 (AF.of hk_158.2.2.2.2.2.2.2.2.2.2.2.1) (rg_in (n := 320) pr0 (by decide) (by decide)) dX12_readAct_66 (fun H locs o_c_159 hz oq hS => ?_)
      obtain ⟨G_160, eG_160⟩ : ∃ z : Gh, z = aset G_146 (g.2.2 130) (upd (G_146.2.1 (g.2.2 130)) (a0 : Int32).toNatClampNeg x_4) := ⟨_, rfl⟩
      have hH : HT g Ty G_160 H := by rw [eG_160]; exact HT.putA (upd (G_146.2.1 (g.2.2 130)) (a0 : Int32).toNatClampNeg x_4) hH hk_158.2.2.2.2.2.2.2.2.2.2.2.1 cf30 o_c_159 oq
      obtain ⟨f_161, ef_161⟩ : ∃ z : Nat → Int32, z = (upd (G.2.1 (g.2.2 130)) (a0 : Int32).toNatClampNeg x_4) := ⟨_, rfl⟩
      have eaf_161 : G_160 = aset G_146 (g.2.2 130) f_161 := by rw [eG_160, ef_161, w_154]
      have fr_162 : FR [109, 110, 117] [(g.2.2 116), (g.2.2 130)] [] G G_160 := FR.a fr_147 eaf_161 (fun b h => h.2.1)
      have u_163 : G_160.1 107 = (G.1 107) := by rw [eaf_161]; exact u_148
      have u_164 : G_160.1 108 = (G.1 108) := by rw [eaf_161]; exact u_149
      have u_165 : G_160.1 110 = (G.1 110) := by rw [eaf_161]; exact u_150
      have u_166 : G_160.1 117 = (G.1 117) := by rw [eaf_161]; exact u_151
      have u_167 : G_160.1 109 = x_144 := by rw [eaf_161]; exact u_152
      have w_168 : G_160.2.1 (g.2.2 116) = (G.2.1 (g.2.2 116)) := by rw [eaf_161]; exact (aset_ne (ne_kd hmk.2.2.2.2.1 hmk.2.2.2.2.2.2.2.2.2.2.2.1 (by decide))).trans w_153
      have w_169 : G_160.2.1 (g.2.2 130) = f_161 := by rw [eaf_161]; exact aset_eq
      have u_170 : G_160.2.2 106 = some (g.2.2 101) := by rw [eaf_161]; exact u_155
      clear oq hz
      have ac_171 := ac_s (fun _ _ => rfl) ef_161 (show a0.toNatClampNeg = a0.toNatClampNeg + 0 from rfl) (by decide)
      have av_172 : f_161 (a0.toNatClampNeg + 0) = x_4 := ac_v ef_161 (show a0.toNatClampNeg = a0.toNatClampNeg + 0 from rfl)
      refine lv_iload_n hx hb dX12_readAct_67 rfl (lv_at hl 0 rfl) ?_
      refine lv_bipush (v := 107) hx hb dX12_readAct_68 (by decide) ?_
      refine lv_icmp_ne (tgt := 88) hx hb dX12_readAct_70 (by decide) (fun c_173 => ?_) (fun c_173 => ?_)
      · refine lv_aload_n hx hb dX12_readAct_88 rfl (lv_at hl 1 rfl) ?_
        obtain ⟨_, ⟨rfl, t_175, hk_176⟩, o_c_174⟩ := hH h0 _ k_h0
        refine vp_callSi (W.runV (As := []) (rest := []) ⟨hx, hb, hml, hown, hts⟩ (c_X12_fine_p l g Ty G_160 h0 k_h0 (g.2.2 101) 80 (G_160.2.1 (g.2.2 101)) (G_160.2.1 (g.2.2 115)) (G.1 107) (G.1 108) (G_160.1 114) 80 x_144 (G.1 110) ⟨u_170, hmk.2.1, rfl, (fun _ _ => rfl), u_163, u_164, rfl, u_167, u_165, (rg_w r7 (by decide) (by decide)), by decide, Or.inl (show ((G.1 107) : Int32).toInt ≤ 80 from (rg_w (a2 := 0) (b2 := 80) r7 (by decide) (by decide)).2), by decide, by decide, (rg_w r9_145 (by decide) (by decide))⟩) (cwV 0 hts (gwV mw_1463 mw_1465 mw_39 mw_88 mw_1466) rfl rfl rfl hv_X12_fine ⟨Nat.le_of_ble_eq_true rfl, Nat.le_of_ble_eq_true rfl⟩) ⟨PcH_blind, hg_recv hK o_c_174 rfl, PcH_pre hK hH⟩ rfl rfl hl.1 rfl (lv_room (Nat.le_of_ble_eq_true rfl)) dX12_readAct_89 ⟨Nat.zero_le _, Nat.zero_le _⟩) (fun x_177 hx_177 => ?_)
        have rx_177 : rgI (0) (1) x_177 := hx_177.1
        refine lv_if_ne (tgt := 96) hx hb dX12_readAct_92 (by decide) (fun c_178 => ?_) (fun c_178 => ?_)
        · have r_179 : rgI (1) (1) x_177 := rg_w (rg_neL rx_177 rl_0 c_178) (by decide) (by decide)
          refine lv_aload_n hx hb dX12_readAct_96 rfl (lv_at hl 1 rfl) ?_
          refine hg_get hx hb hG igX12 hown hK o_c_174 rfl 30 (by decide) (hG _ mw_1314) rfl dX12_readAct_97 ?_
          refine lv_iload_n hx hb dX12_readAct_100 rfl (lv_at hl 2 rfl) ?_
          refine lv_iconst (v := 1) hx hb dX12_readAct_101 (by decide) ?_
          refine lv_iadd hx hb dX12_readAct_102 ?_
          refine lv_topi (fun x_180 ex_180 => ?_)
          have rx_180 : rgI (1) (317) x_180 := by rw [ex_180]; exact rg_w (rg_add pr0 rl_1 (by decide) (by decide)) (by decide) (by decide)
          have qx_180 : x_180.toInt = (a0 : Int32).toInt + 1 := by rw [ex_180]; exact rg_addE pr0 rl_1 (by decide) (by decide)
          refine lv_aload_n hx hb dX12_readAct_103 rfl (lv_at hl 1 rfl) ?_
          have hlm_181 : 0 ≤ ((G.1 117) : Int32).toInt ∧ ((G.1 117) : Int32).toInt ≤ (x_144 : Int32).toInt + 1 := ⟨by have z0 := hlm.1; have z1 := hlm.2; have z2 := qx_144; omega, by have z0 := hlm.1; have z1 := hlm.2; have z2 := qx_144; omega⟩
          refine va_calli (va_runV (As := []) (rest := [.int x_180, .ref (g.2.2 130)]) ⟨hx, hb, hml, hown, hts⟩ (c_X12_readPath l g Ty G_160 H.size h0 k_h0 u_170 (by rw [u_163]; exact (rg_w r7 (by decide) (by decide))) (by rw [u_167]; exact (rg_w r9_145 (by decide) (by decide))) (by rw [u_165]; exact w0) hLD (by rw [u_166, u_167]; exact hlm_181)) (cwV 0 hts (gwV mw_1498 mw_1500 mw_46 mw_88 mw_1501) rfl rfl rfl hv_X12_readPath ⟨Nat.le_of_ble_eq_true rfl, Nat.le_of_ble_eq_true rfl⟩) ⟨PcT_blind, hg_recv hK o_c_174 rfl, PcT_pre hK hH⟩ rfl rfl hl.1 rfl (lv_room (Nat.le_of_ble_eq_true rfl)) dX12_readAct_104 ⟨Nat.zero_le _, Nat.zero_le _⟩) hS (fun q _ h => AF.mono hS.1 h) (fun q h => AF.mono hS.1 h) (fun x_182 ux_182 t H locs ht hvm hx_182 hB hz hk hS => ?_)
          obtain ⟨eTx_182, eGx_182⟩ := hx_182
          obtain ⟨G_183, eG_183⟩ : ∃ z, z = ux_182.2 := ⟨_, rfl⟩
          rw [← eG_183] at eGx_182
          obtain ⟨hfr_184, hex_185⟩ := eGx_182
          have fr_186 : FR [109, 110, 117] [(g.2.2 116), (g.2.2 130)] [] G G_183 := FR.tr fr_162 hfr_184 (by decide) (fun b h => ⟨h.1, trivial⟩) (by decide)
          have u_187 : G_183.1 107 = (G.1 107) := (hfr_184.1 107 (by decide)).trans u_163
          have u_188 : G_183.1 108 = (G.1 108) := (hfr_184.1 108 (by decide)).trans u_164
          have w_189 : G_183.2.1 (g.2.2 130) = f_161 := (hfr_184.2.1 (g.2.2 130) ⟨(ne_kd hmk.2.2.2.2.2.2.2.2.2.2.2.1 hmk.2.2.2.2.1 (by decide)), trivial⟩).trans w_169
          have u_190 : G_183.2.2 106 = some (g.2.2 101) := (hfr_184.2.2 106 (by decide)).trans u_170
          obtain ⟨f_191, ef_191⟩ : ∃ z : Nat → Int32, G_183.2.1 (g.2.2 116) = z := ⟨_, rfl⟩
          obtain ⟨xl_192, exl_192⟩ : ∃ z : Int32, G_183.1 117 = z := ⟨_, rfl⟩
          obtain ⟨xa_193, exa_193⟩ : ∃ z : Int32, G_183.1 109 = z := ⟨_, rfl⟩
          obtain ⟨xw_194, exw_194⟩ : ∃ z : Int32, G_183.1 110 = z := ⟨_, rfl⟩
          have rp_195 := hex_185
          rw [ef_191, exl_192, exa_193, exw_194, w_168, u_166, u_167] at rp_195
          have hH : HT g Ty G_183 H := by rw [← ht, ← eTx_182, eG_183]; exact hB
          have t_196 := rp_195.1.2.2.1
          have t_197 := rp_195.1.2.2.2.1
          have t_198 := rp_195.2.2.2.1
          obtain ⟨_, rfl, o_c_199⟩ := hH (g.2.2 130) _ hk_176.2.2.2.2.2.2.2.2.2.2.2.1
          have o_c_199 : va_at g.1 vwCl ((g.2.2 130), .inl (g.2.1 1, 320, .inl (G_183.2.1 (g.2.2 130)))) H := o_c_199
          refine hg_iast hx hb hK hS o_c_199 (AF.of hk_176.2.2.2.2.2.2.2.2.2.2.2.1) (rg_in (n := 320) rx_180 (by decide) (by decide)) dX12_readAct_107 (fun H locs o_c_199 hz oq hS => ?_)
          obtain ⟨G_200, eG_200⟩ : ∃ z : Gh, z = aset G_183 (g.2.2 130) (upd (G_183.2.1 (g.2.2 130)) (x_180 : Int32).toNatClampNeg x_182) := ⟨_, rfl⟩
          have hH : HT g Ty G_200 H := by rw [eG_200]; exact HT.putA (upd (G_183.2.1 (g.2.2 130)) (x_180 : Int32).toNatClampNeg x_182) hH hk_176.2.2.2.2.2.2.2.2.2.2.2.1 cf30 o_c_199 oq
          obtain ⟨f_201, ef_201⟩ : ∃ z : Nat → Int32, z = (upd f_161 (x_180 : Int32).toNatClampNeg x_182) := ⟨_, rfl⟩
          have eaf_201 : G_200 = aset G_183 (g.2.2 130) f_201 := by rw [eG_200, ef_201, w_189]
          have fr_202 : FR [109, 110, 117] [(g.2.2 116), (g.2.2 130)] [] G G_200 := FR.a fr_186 eaf_201 (fun b h => h.2.1)
          have u_203 : G_200.1 107 = (G.1 107) := by rw [eaf_201]; exact u_187
          have u_204 : G_200.1 108 = (G.1 108) := by rw [eaf_201]; exact u_188
          have u_205 : G_200.1 109 = xa_193 := by rw [eaf_201]; exact exa_193
          have u_206 : G_200.1 110 = xw_194 := by rw [eaf_201]; exact exw_194
          have u_207 : G_200.1 117 = xl_192 := by rw [eaf_201]; exact exl_192
          have w_208 : G_200.2.1 (g.2.2 130) = f_201 := by rw [eaf_201]; exact aset_eq
          have w_209 : G_200.2.1 (g.2.2 116) = f_191 := by rw [eaf_201]; exact (aset_ne (ne_kd hmk.2.2.2.2.1 hmk.2.2.2.2.2.2.2.2.2.2.2.1 (by decide))).trans ef_191
          have u_210 : G_200.2.2 106 = some (g.2.2 101) := by rw [eaf_201]; exact u_190
          clear oq hz
          have ac_211 := ac_s ac_171 ef_201 (ai_d ex_180 pr0 rfl (by decide)) (by decide)
          have av_212 : f_201 (a0.toNatClampNeg + 0) = x_4 := ac_k av_172 ef_201 (ai_d ex_180 pr0 rfl (by decide)) (by decide)
          have av_213 : f_201 (a0.toNatClampNeg + 1) = x_182 := ac_v ef_201 (ai_d ex_180 pr0 rfl (by decide))
          refine lv_aload_n hx hb dX12_readAct_108 rfl (lv_at hl 1 rfl) ?_
          obtain ⟨_, ⟨rfl, t_215, hk_216⟩, o_c_214⟩ := hH h0 _ k_h0
          refine vp_callSi (W.runV (As := []) (rest := []) ⟨hx, hb, hml, hown, hts⟩ (c_X12_fine_p l g Ty G_200 h0 k_h0 (g.2.2 101) 80 (G_200.2.1 (g.2.2 101)) (G_200.2.1 (g.2.2 115)) (G.1 107) (G.1 108) (G_200.1 114) 80 xa_193 xw_194 ⟨u_210, hmk.2.1, rfl, (fun _ _ => rfl), u_203, u_204, rfl, u_205, u_206, (rg_w r7 (by decide) (by decide)), by decide, Or.inl (show ((G.1 107) : Int32).toInt ≤ 80 from (rg_w (a2 := 0) (b2 := 80) r7 (by decide) (by decide)).2), by decide, by decide, (rg_w rp_195.2.2.1 (by decide) (by decide))⟩) (cwV 0 hts (gwV mw_1463 mw_1465 mw_39 mw_88 mw_1466) rfl rfl rfl hv_X12_fine ⟨Nat.le_of_ble_eq_true rfl, Nat.le_of_ble_eq_true rfl⟩) ⟨PcH_blind, hg_recv hK o_c_214 rfl, PcH_pre hK hH⟩ rfl rfl hl.1 rfl (lv_room (Nat.le_of_ble_eq_true rfl)) dX12_readAct_109 ⟨Nat.zero_le _, Nat.zero_le _⟩) (fun x_217 hx_217 => ?_)
          have rx_217 : rgI (0) (1) x_217 := hx_217.1
          refine lv_if_eq (tgt := 170) hx hb dX12_readAct_112 (by decide) (fun c_218 => ?_) (fun c_218 => ?_)
          · have r_219 : rgI (0) (0) x_217 := rg_w (rg_eq rl_0 c_218) (by decide) (by decide)
            refine lv_aload_n hx hb dX12_readAct_170 rfl (lv_at hl 1 rfl) ?_
            refine vp_callSi (W.runV (As := []) (rest := []) ⟨hx, hb, hml, hown, hts⟩ (c_X12_fine_p l g Ty G_200 h0 k_h0 (g.2.2 101) 80 (G_200.2.1 (g.2.2 101)) (G_200.2.1 (g.2.2 115)) (G.1 107) (G.1 108) (G_200.1 114) 80 xa_193 xw_194 ⟨u_210, hmk.2.1, rfl, (fun _ _ => rfl), u_203, u_204, rfl, u_205, u_206, (rg_w r7 (by decide) (by decide)), by decide, Or.inl (show ((G.1 107) : Int32).toInt ≤ 80 from (rg_w (a2 := 0) (b2 := 80) r7 (by decide) (by decide)).2), by decide, by decide, (rg_w rp_195.2.2.1 (by decide) (by decide))⟩) (cwV 0 hts (gwV mw_1463 mw_1465 mw_39 mw_88 mw_1466) rfl rfl rfl hv_X12_fine ⟨Nat.le_of_ble_eq_true rfl, Nat.le_of_ble_eq_true rfl⟩) ⟨PcH_blind, hg_recv hK o_c_214 rfl, PcH_pre hK hH⟩ rfl rfl hl.1 rfl (lv_room (Nat.le_of_ble_eq_true rfl)) dX12_readAct_171 ⟨Nat.zero_le _, Nat.zero_le _⟩) (fun x_220 hx_220 => ?_)
            have rx_220 : rgI (0) (1) x_220 := hx_220.1
            refine lv_if_eq (tgt := 194) hx hb dX12_readAct_174 (by decide) (fun c_221 => ?_) (fun c_221 => ?_)
            · have r_222 : rgI (0) (0) x_220 := rg_w (rg_eq rl_0 c_221) (by decide) (by decide)
              exact W.vret hx hb hr (fun t ht hWm => ⟨⟨(Ty, G_200), rfl, ⟨rfl, ⟨fr_202, (by rw [w_209, w_208, u_207, u_205, u_206]; exact ⟨by have z0 := hlm.1; have z1 := hlm.2; have z2 := qx_144; have z3 := t_196; have z4 := t_197; have z5 := t_198; omega, rp_195.1.1, ac_211, by have z0 := hlm.1; have z1 := hlm.2; have z2 := qx_144; have z3 := t_196; have z4 := t_197; have z5 := t_198; omega, (rg_w rp_195.2.2.1 (by decide) (by decide)), rp_195.2.1, by have z0 := hlm.1; have z1 := hlm.2; have z2 := qx_144; have z3 := t_196; have z4 := t_197; have z5 := t_198; omega, (fun q => absurd q (fin_0 hx_220.2 c_221))⟩)⟩⟩, by show HT g Ty G_200 t.heap; rw [ht]; exact hH⟩, hS.F ht⟩) hS.2.2 dX12_readAct_194
            · have r_223 : rgI (1) (1) x_220 := rg_w (rg_neL rx_220 rl_0 c_221) (by decide) (by decide)
              exact absurd (fin_1 hx_220.2 c_221) (fin_0 hx_217.2 c_218)
          · have r_224 : rgI (1) (1) x_217 := rg_w (rg_neL rx_217 rl_0 c_218) (by decide) (by decide)
            have t_225 := rp_195.1.2.2.2.2 (fin_1 hx_217.2 c_218)
            refine lv_iload_n hx hb dX12_readAct_115 rfl (lv_at hl 0 rfl) ?_
            refine lv_bipush (v := 98) hx hb dX12_readAct_116 (by decide) ?_
            refine lv_icmp_eq (tgt := 133) hx hb dX12_readAct_118 (by decide) (fun c_226 => ?_) (fun c_226 => ?_)
            · refine lv_aload_n hx hb dX12_readAct_133 rfl (lv_at hl 1 rfl) ?_
              refine lv_bipush (v := 58) hx hb dX12_readAct_134 (by decide) ?_
              refine va_calli (va_runV (As := [.int 58]) (rest := []) ⟨hx, hb, hml, hown, hts⟩ (c_X12_passes l g Ty G_200 H.size h0 58 k_h0 (rg_w rl_58 (by decide) (by decide)) (g.2.2 101) 80 (G_200.2.1 (g.2.2 101)) (G_200.2.1 (g.2.2 115)) (G.1 107) (G.1 108) (G_200.1 114) 80 xa_193 xw_194 ⟨u_210, hmk.2.1, rfl, (fun _ _ => rfl), u_203, u_204, rfl, u_205, u_206, (rg_w r7 (by decide) (by decide)), by decide, Or.inl (show ((G.1 107) : Int32).toInt ≤ 80 from (rg_w (a2 := 0) (b2 := 80) r7 (by decide) (by decide)).2), by decide, by decide, (rg_w rp_195.2.2.1 (by decide) (by decide))⟩) (cwV 1 hts (gwV mw_1459 mw_1461 mw_38 mw_88 mw_1462) rfl rfl rfl hv_X12_passes ⟨Nat.le_of_ble_eq_true rfl, Nat.le_of_ble_eq_true rfl⟩) ⟨PcT_blind, hg_recv hK o_c_214 rfl, PcT_pre hK hH⟩ rfl rfl hl.1 rfl (lv_room (Nat.le_of_ble_eq_true rfl)) dX12_readAct_136 ⟨Nat.zero_le _, Nat.zero_le _⟩) hS (fun q _ h => AF.mono hS.1 h) (fun q h => AF.mono hS.1 h) (fun x_227 ux_227 t H locs ht hvm hx_227 hB hz hk hS => ?_)
              obtain ⟨hx_227, fx_227⟩ := hx_227
              obtain ⟨eTx_227, eGx_227⟩ := fx_227
              obtain ⟨G_228, eG_228⟩ : ∃ z, z = ux_227.2 := ⟨_, rfl⟩
              rw [← eG_228] at eGx_227
              have pq_229 := pas_pr eGx_227 (rg_w rp_195.2.2.1 (by decide) (by decide))
              obtain ⟨hr_230, hg_231, hm_232, hq_233⟩ := eGx_227
              have hfr_234 : FR [109, 110] [] [] G_200 G_228 := FR.ps FR.rf hg_231 (by decide) (by decide)
              have fr_235 : FR [109, 110, 117] [(g.2.2 116), (g.2.2 130)] [] G G_228 := FR.tr fr_202 hfr_234 (by decide) (fun _ _ => trivial) (by decide)
              have u_236 : G_228.1 107 = (G.1 107) := (hfr_234.1 107 (by decide)).trans u_203
              have u_237 : G_228.1 108 = (G.1 108) := (hfr_234.1 108 (by decide)).trans u_204
              have u_238 : G_228.1 117 = xl_192 := (hfr_234.1 117 (by decide)).trans u_207
              have w_239 : G_228.2.1 (g.2.2 130) = f_201 := (hfr_234.2.1 (g.2.2 130) trivial).trans w_208
              have w_240 : G_228.2.1 (g.2.2 116) = f_191 := (hfr_234.2.1 (g.2.2 116) trivial).trans w_209
              have u_241 : G_228.2.2 106 = some (g.2.2 101) := (hfr_234.2.2 106 (by decide)).trans u_210
              obtain ⟨xw_242, exw_242⟩ : ∃ z : Int32, G_228.1 110 = z := ⟨_, rfl⟩
              obtain ⟨xa_243, exa_243⟩ : ∃ z : Int32, G_228.1 109 = z := ⟨_, rfl⟩
              have r9_244 : rgI 0 80 xa_243 := by rw [← exa_243, pst109 hg_231]; exact hq_233
              rw [exa_243, exw_242] at pq_229
              have hH : HT g Ty G_228 H := by rw [← ht, ← eTx_227, eG_228]; exact hB
              have rx_227 : rgI (0) (1) x_227 := hx_227.1
              refine lv_if_ne (tgt := 150) hx hb dX12_readAct_139 (by decide) (fun c_245 => ?_) (fun c_245 => ?_)
              · have r_246 : rgI (1) (1) x_227 := rg_w (rg_neL rx_227 rl_0 c_245) (by decide) (by decide)
                have t_247 := (pq_229.2.resolve_left (fun z => c_245 z.1)).2.1
                refine lv_aload_n hx hb dX12_readAct_150 rfl (lv_at hl 1 rfl) ?_
                obtain ⟨_, ⟨rfl, t_249, hk_250⟩, o_c_248⟩ := hH h0 _ k_h0
                refine vp_callSi (W.runV (As := []) (rest := []) ⟨hx, hb, hml, hown, hts⟩ (c_X12_fine_p l g Ty G_228 h0 k_h0 (g.2.2 101) 80 (G_228.2.1 (g.2.2 101)) (G_228.2.1 (g.2.2 115)) (G.1 107) (G.1 108) (G_228.1 114) 80 xa_243 xw_242 ⟨u_241, hmk.2.1, rfl, (fun _ _ => rfl), u_236, u_237, rfl, exa_243, exw_242, (rg_w r7 (by decide) (by decide)), by decide, Or.inl (show ((G.1 107) : Int32).toInt ≤ 80 from (rg_w (a2 := 0) (b2 := 80) r7 (by decide) (by decide)).2), by decide, by decide, (rg_w r9_244 (by decide) (by decide))⟩) (cwV 0 hts (gwV mw_1463 mw_1465 mw_39 mw_88 mw_1466) rfl rfl rfl hv_X12_fine ⟨Nat.le_of_ble_eq_true rfl, Nat.le_of_ble_eq_true rfl⟩) ⟨PcH_blind, hg_recv hK o_c_248 rfl, PcH_pre hK hH⟩ rfl rfl hl.1 rfl (lv_room (Nat.le_of_ble_eq_true rfl)) dX12_readAct_151 ⟨Nat.zero_le _, Nat.zero_le _⟩) (fun x_251 hx_251 => ?_)
                have rx_251 : rgI (0) (1) x_251 := hx_251.1
                refine lv_if_ne (tgt := 158) hx hb dX12_readAct_154 (by decide) (fun c_252 => ?_) (fun c_252 => ?_)
                · have r_253 : rgI (1) (1) x_251 := rg_w (rg_neL rx_251 rl_0 c_252) (by decide) (by decide)
                  refine lv_aload_n hx hb dX12_readAct_158 rfl (lv_at hl 1 rfl) ?_
                  refine hg_get hx hb hG igX12 hown hK o_c_248 rfl 30 (by decide) (hG _ mw_1314) rfl dX12_readAct_159 ?_
                  refine lv_iload_n hx hb dX12_readAct_162 rfl (lv_at hl 2 rfl) ?_
                  refine lv_iconst (v := 2) hx hb dX12_readAct_163 (by decide) ?_
                  refine lv_iadd hx hb dX12_readAct_164 ?_
                  refine lv_topi (fun x_254 ex_254 => ?_)
                  have rx_254 : rgI (2) (318) x_254 := by rw [ex_254]; exact rg_w (rg_add pr0 rl_2 (by decide) (by decide)) (by decide) (by decide)
                  have qx_254 : x_254.toInt = (a0 : Int32).toInt + 2 := by rw [ex_254]; exact rg_addE pr0 rl_2 (by decide) (by decide)
                  refine lv_aload_n hx hb dX12_readAct_165 rfl (lv_at hl 1 rfl) ?_
                  have hlm_255 : 0 ≤ (xl_192 : Int32).toInt ∧ (xl_192 : Int32).toInt ≤ (xa_243 : Int32).toInt + 1 := ⟨by have z0 := hlm.1; have z1 := hlm.2; have z2 := qx_144; have z3 := t_196; have z4 := t_197; have z5 := t_198; have z6 := t_225; have z7 := t_247; omega, by have z0 := hlm.1; have z1 := hlm.2; have z2 := qx_144; have z3 := t_196; have z4 := t_197; have z5 := t_198; have z6 := t_225; have z7 := t_247; omega⟩
                  refine va_calli (va_runV (As := []) (rest := [.int x_254, .ref (g.2.2 130)]) ⟨hx, hb, hml, hown, hts⟩ (c_X12_readPath l g Ty G_228 H.size h0 k_h0 u_241 (by rw [u_236]; exact (rg_w r7 (by decide) (by decide))) (by rw [exa_243]; exact (rg_w r9_244 (by decide) (by decide))) (by rw [exw_242]; exact (by rw [pq_229.1]; exact rp_195.2.1)) hLD (by rw [u_238, exa_243]; exact hlm_255)) (cwV 0 hts (gwV mw_1498 mw_1500 mw_46 mw_88 mw_1501) rfl rfl rfl hv_X12_readPath ⟨Nat.le_of_ble_eq_true rfl, Nat.le_of_ble_eq_true rfl⟩) ⟨PcT_blind, hg_recv hK o_c_248 rfl, PcT_pre hK hH⟩ rfl rfl hl.1 rfl (lv_room (Nat.le_of_ble_eq_true rfl)) dX12_readAct_166 ⟨Nat.zero_le _, Nat.zero_le _⟩) hS (fun q _ h => AF.mono hS.1 h) (fun q h => AF.mono hS.1 h) (fun x_256 ux_256 t H locs ht hvm hx_256 hB hz hk hS => ?_)
                  obtain ⟨eTx_256, eGx_256⟩ := hx_256
                  obtain ⟨G_257, eG_257⟩ : ∃ z, z = ux_256.2 := ⟨_, rfl⟩
                  rw [← eG_257] at eGx_256
                  obtain ⟨hfr_258, hex_259⟩ := eGx_256
                  have fr_260 : FR [109, 110, 117] [(g.2.2 116), (g.2.2 130)] [] G G_257 := FR.tr fr_235 hfr_258 (by decide) (fun b h => ⟨h.1, trivial⟩) (by decide)
                  have u_261 : G_257.1 107 = (G.1 107) := (hfr_258.1 107 (by decide)).trans u_236
                  have u_262 : G_257.1 108 = (G.1 108) := (hfr_258.1 108 (by decide)).trans u_237
                  have w_263 : G_257.2.1 (g.2.2 130) = f_201 := (hfr_258.2.1 (g.2.2 130) ⟨(ne_kd hmk.2.2.2.2.2.2.2.2.2.2.2.1 hmk.2.2.2.2.1 (by decide)), trivial⟩).trans w_239
                  have u_264 : G_257.2.2 106 = some (g.2.2 101) := (hfr_258.2.2 106 (by decide)).trans u_241
                  obtain ⟨f_265, ef_265⟩ : ∃ z : Nat → Int32, G_257.2.1 (g.2.2 116) = z := ⟨_, rfl⟩
                  obtain ⟨xl_266, exl_266⟩ : ∃ z : Int32, G_257.1 117 = z := ⟨_, rfl⟩
                  obtain ⟨xa_267, exa_267⟩ : ∃ z : Int32, G_257.1 109 = z := ⟨_, rfl⟩
                  obtain ⟨xw_268, exw_268⟩ : ∃ z : Int32, G_257.1 110 = z := ⟨_, rfl⟩
                  have rp_269 := hex_259
                  rw [ef_265, exl_266, exa_267, exw_268, w_240, u_238, exa_243] at rp_269
                  have hH : HT g Ty G_257 H := by rw [← ht, ← eTx_256, eG_257]; exact hB
                  have t_270 := rp_269.1.2.2.1
                  have t_271 := rp_269.1.2.2.2.1
                  have t_272 := rp_269.2.2.2.1
                  obtain ⟨_, rfl, o_c_273⟩ := hH (g.2.2 130) _ hk_250.2.2.2.2.2.2.2.2.2.2.2.1
                  have o_c_273 : va_at g.1 vwCl ((g.2.2 130), .inl (g.2.1 1, 320, .inl (G_257.2.1 (g.2.2 130)))) H := o_c_273
                  refine hg_iast hx hb hK hS o_c_273 (AF.of hk_250.2.2.2.2.2.2.2.2.2.2.2.1) (rg_in (n := 320) rx_254 (by decide) (by decide)) dX12_readAct_169 (fun H locs o_c_273 hz oq hS => ?_)
                  obtain ⟨G_274, eG_274⟩ : ∃ z : Gh, z = aset G_257 (g.2.2 130) (upd (G_257.2.1 (g.2.2 130)) (x_254 : Int32).toNatClampNeg x_256) := ⟨_, rfl⟩
                  have hH : HT g Ty G_274 H := by rw [eG_274]; exact HT.putA (upd (G_257.2.1 (g.2.2 130)) (x_254 : Int32).toNatClampNeg x_256) hH hk_250.2.2.2.2.2.2.2.2.2.2.2.1 cf30 o_c_273 oq
                  obtain ⟨f_275, ef_275⟩ : ∃ z : Nat → Int32, z = (upd f_201 (x_254 : Int32).toNatClampNeg x_256) := ⟨_, rfl⟩
                  have eaf_275 : G_274 = aset G_257 (g.2.2 130) f_275 := by rw [eG_274, ef_275, w_263]
                  have fr_276 : FR [109, 110, 117] [(g.2.2 116), (g.2.2 130)] [] G G_274 := FR.a fr_260 eaf_275 (fun b h => h.2.1)
                  have u_277 : G_274.1 107 = (G.1 107) := by rw [eaf_275]; exact u_261
                  have u_278 : G_274.1 108 = (G.1 108) := by rw [eaf_275]; exact u_262
                  have u_279 : G_274.1 109 = xa_267 := by rw [eaf_275]; exact exa_267
                  have u_280 : G_274.1 110 = xw_268 := by rw [eaf_275]; exact exw_268
                  have u_281 : G_274.1 117 = xl_266 := by rw [eaf_275]; exact exl_266
                  have w_282 : G_274.2.1 (g.2.2 130) = f_275 := by rw [eaf_275]; exact aset_eq
                  have w_283 : G_274.2.1 (g.2.2 116) = f_265 := by rw [eaf_275]; exact (aset_ne (ne_kd hmk.2.2.2.2.1 hmk.2.2.2.2.2.2.2.2.2.2.2.1 (by decide))).trans ef_265
                  have u_284 : G_274.2.2 106 = some (g.2.2 101) := by rw [eaf_275]; exact u_264
                  clear oq hz
                  have ac_285 := ac_s ac_211 ef_275 (ai_d ex_254 pr0 rfl (by decide)) (by decide)
                  have av_286 : f_275 (a0.toNatClampNeg + 0) = x_4 := ac_k av_212 ef_275 (ai_d ex_254 pr0 rfl (by decide)) (by decide)
                  have av_287 : f_275 (a0.toNatClampNeg + 1) = x_182 := ac_k av_213 ef_275 (ai_d ex_254 pr0 rfl (by decide)) (by decide)
                  have av_288 : f_275 (a0.toNatClampNeg + 2) = x_256 := ac_v ef_275 (ai_d ex_254 pr0 rfl (by decide))
                  refine lv_aload_n hx hb dX12_readAct_170 rfl (lv_at hl 1 rfl) ?_
                  obtain ⟨_, ⟨rfl, t_290, hk_291⟩, o_c_289⟩ := hH h0 _ k_h0
                  refine vp_callSi (W.runV (As := []) (rest := []) ⟨hx, hb, hml, hown, hts⟩ (c_X12_fine_p l g Ty G_274 h0 k_h0 (g.2.2 101) 80 (G_274.2.1 (g.2.2 101)) (G_274.2.1 (g.2.2 115)) (G.1 107) (G.1 108) (G_274.1 114) 80 xa_267 xw_268 ⟨u_284, hmk.2.1, rfl, (fun _ _ => rfl), u_277, u_278, rfl, u_279, u_280, (rg_w r7 (by decide) (by decide)), by decide, Or.inl (show ((G.1 107) : Int32).toInt ≤ 80 from (rg_w (a2 := 0) (b2 := 80) r7 (by decide) (by decide)).2), by decide, by decide, (rg_w rp_269.2.2.1 (by decide) (by decide))⟩) (cwV 0 hts (gwV mw_1463 mw_1465 mw_39 mw_88 mw_1466) rfl rfl rfl hv_X12_fine ⟨Nat.le_of_ble_eq_true rfl, Nat.le_of_ble_eq_true rfl⟩) ⟨PcH_blind, hg_recv hK o_c_289 rfl, PcH_pre hK hH⟩ rfl rfl hl.1 rfl (lv_room (Nat.le_of_ble_eq_true rfl)) dX12_readAct_171 ⟨Nat.zero_le _, Nat.zero_le _⟩) (fun x_292 hx_292 => ?_)
                  have rx_292 : rgI (0) (1) x_292 := hx_292.1
                  refine lv_if_eq (tgt := 194) hx hb dX12_readAct_174 (by decide) (fun c_293 => ?_) (fun c_293 => ?_)
                  · have r_294 : rgI (0) (0) x_292 := rg_w (rg_eq rl_0 c_293) (by decide) (by decide)
                    exact W.vret hx hb hr (fun t ht hWm => ⟨⟨(Ty, G_274), rfl, ⟨rfl, ⟨fr_276, (by rw [w_283, w_282, u_281, u_279, u_280]; exact ⟨by have z0 := hlm.1; have z1 := hlm.2; have z2 := qx_144; have z3 := t_196; have z4 := t_197; have z5 := t_198; have z6 := t_225; have z7 := t_247; have z8 := t_270; have z9 := t_271; have z10 := t_272; omega, (fun j hj => (rp_269.1.1 j (by have z0 := hlm.1; have z1 := hlm.2; have z2 := qx_144; have z3 := t_196; have z4 := t_197; have z5 := t_198; have z6 := t_225; have z7 := t_247; have z8 := t_270; have z9 := t_271; have z10 := t_272; have z11 := hj; omega)).trans (rp_195.1.1 j hj)), ac_285, by have z0 := hlm.1; have z1 := hlm.2; have z2 := qx_144; have z3 := t_196; have z4 := t_197; have z5 := t_198; have z6 := t_225; have z7 := t_247; have z8 := t_270; have z9 := t_271; have z10 := t_272; omega, (rg_w rp_269.2.2.1 (by decide) (by decide)), rp_269.2.1, by have z0 := hlm.1; have z1 := hlm.2; have z2 := qx_144; have z3 := t_196; have z4 := t_197; have z5 := t_198; have z6 := t_225; have z7 := t_247; have z8 := t_270; have z9 := t_271; have z10 := t_272; omega, (fun q => absurd q (fin_0 hx_292.2 c_293))⟩)⟩⟩, by show HT g Ty G_274 t.heap; rw [ht]; exact hH⟩, hS.F ht⟩) hS.2.2 dX12_readAct_194
                  · have r_295 : rgI (1) (1) x_292 := rg_w (rg_neL rx_292 rl_0 c_293) (by decide) (by decide)
                    have t_296 := rp_269.1.2.2.2.2 (fin_1 hx_292.2 c_293)
                    refine lv_aload_n hx hb dX12_readAct_177 rfl (lv_at hl 1 rfl) ?_
                    refine lv_bipush (v := 46) hx hb dX12_readAct_178 (by decide) ?_
                    refine va_calli (va_runV (As := [.int 46]) (rest := []) ⟨hx, hb, hml, hown, hts⟩ (c_X12_passes l g Ty G_274 H.size h0 46 k_h0 (rg_w rl_46 (by decide) (by decide)) (g.2.2 101) 80 (G_274.2.1 (g.2.2 101)) (G_274.2.1 (g.2.2 115)) (G.1 107) (G.1 108) (G_274.1 114) 80 xa_267 xw_268 ⟨u_284, hmk.2.1, rfl, (fun _ _ => rfl), u_277, u_278, rfl, u_279, u_280, (rg_w r7 (by decide) (by decide)), by decide, Or.inl (show ((G.1 107) : Int32).toInt ≤ 80 from (rg_w (a2 := 0) (b2 := 80) r7 (by decide) (by decide)).2), by decide, by decide, (rg_w rp_269.2.2.1 (by decide) (by decide))⟩) (cwV 1 hts (gwV mw_1459 mw_1461 mw_38 mw_88 mw_1462) rfl rfl rfl hv_X12_passes ⟨Nat.le_of_ble_eq_true rfl, Nat.le_of_ble_eq_true rfl⟩) ⟨PcT_blind, hg_recv hK o_c_289 rfl, PcT_pre hK hH⟩ rfl rfl hl.1 rfl (lv_room (Nat.le_of_ble_eq_true rfl)) dX12_readAct_180 ⟨Nat.zero_le _, Nat.zero_le _⟩) hS (fun q _ h => AF.mono hS.1 h) (fun q h => AF.mono hS.1 h) (fun x_297 ux_297 t H locs ht hvm hx_297 hB hz hk hS => ?_)
                    obtain ⟨hx_297, fx_297⟩ := hx_297
                    obtain ⟨eTx_297, eGx_297⟩ := fx_297
                    obtain ⟨G_298, eG_298⟩ : ∃ z, z = ux_297.2 := ⟨_, rfl⟩
                    rw [← eG_298] at eGx_297
                    have pq_299 := pas_pr eGx_297 (rg_w rp_269.2.2.1 (by decide) (by decide))
                    obtain ⟨hr_300, hg_301, hm_302, hq_303⟩ := eGx_297
                    have hfr_304 : FR [109, 110] [] [] G_274 G_298 := FR.ps FR.rf hg_301 (by decide) (by decide)
                    have fr_305 : FR [109, 110, 117] [(g.2.2 116), (g.2.2 130)] [] G G_298 := FR.tr fr_276 hfr_304 (by decide) (fun _ _ => trivial) (by decide)
                    have u_306 : G_298.1 107 = (G.1 107) := (hfr_304.1 107 (by decide)).trans u_277
                    have u_307 : G_298.1 108 = (G.1 108) := (hfr_304.1 108 (by decide)).trans u_278
                    have u_308 : G_298.1 117 = xl_266 := (hfr_304.1 117 (by decide)).trans u_281
                    have w_309 : G_298.2.1 (g.2.2 130) = f_275 := (hfr_304.2.1 (g.2.2 130) trivial).trans w_282
                    have w_310 : G_298.2.1 (g.2.2 116) = f_265 := (hfr_304.2.1 (g.2.2 116) trivial).trans w_283
                    have u_311 : G_298.2.2 106 = some (g.2.2 101) := (hfr_304.2.2 106 (by decide)).trans u_284
                    obtain ⟨xw_312, exw_312⟩ : ∃ z : Int32, G_298.1 110 = z := ⟨_, rfl⟩
                    obtain ⟨xa_313, exa_313⟩ : ∃ z : Int32, G_298.1 109 = z := ⟨_, rfl⟩
                    have r9_314 : rgI 0 80 xa_313 := by rw [← exa_313, pst109 hg_301]; exact hq_303
                    rw [exa_313, exw_312] at pq_299
                    have hH : HT g Ty G_298 H := by rw [← ht, ← eTx_297, eG_298]; exact hB
                    have rx_297 : rgI (0) (1) x_297 := hx_297.1
                    refine lv_if_ne (tgt := 194) hx hb dX12_readAct_183 (by decide) (fun c_315 => ?_) (fun c_315 => ?_)
                    · have r_316 : rgI (1) (1) x_297 := rg_w (rg_neL rx_297 rl_0 c_315) (by decide) (by decide)
                      have t_317 := (pq_299.2.resolve_left (fun z => c_315 z.1)).2.1
                      exact W.vret hx hb hr (fun t ht hWm => ⟨⟨(Ty, G_298), rfl, ⟨rfl, ⟨fr_305, (by rw [w_310, w_309, u_308, exa_313, exw_312]; exact ⟨by have z0 := hlm.1; have z1 := hlm.2; have z2 := qx_144; have z3 := t_196; have z4 := t_197; have z5 := t_198; have z6 := t_225; have z7 := t_247; have z8 := t_270; have z9 := t_271; have z10 := t_272; have z11 := t_296; have z12 := t_317; omega, (fun j hj => (rp_269.1.1 j (by have z0 := hlm.1; have z1 := hlm.2; have z2 := qx_144; have z3 := t_196; have z4 := t_197; have z5 := t_198; have z6 := t_225; have z7 := t_247; have z8 := t_270; have z9 := t_271; have z10 := t_272; have z11 := t_296; have z12 := t_317; have z13 := hj; omega)).trans (rp_195.1.1 j hj)), ac_285, by have z0 := hlm.1; have z1 := hlm.2; have z2 := qx_144; have z3 := t_196; have z4 := t_197; have z5 := t_198; have z6 := t_225; have z7 := t_247; have z8 := t_270; have z9 := t_271; have z10 := t_272; have z11 := t_296; have z12 := t_317; omega, (rg_w r9_314 (by decide) (by decide)), (by rw [pq_299.1]; exact rp_269.2.1), by have z0 := hlm.1; have z1 := hlm.2; have z2 := qx_144; have z3 := t_196; have z4 := t_197; have z5 := t_198; have z6 := t_225; have z7 := t_247; have z8 := t_270; have z9 := t_271; have z10 := t_272; have z11 := t_296; have z12 := t_317; omega, (fun q => ⟨by have z0 := hlm.1; have z1 := hlm.2; have z2 := qx_144; have z3 := t_196; have z4 := t_197; have z5 := t_198; have z6 := t_225; have z7 := t_247; have z8 := t_270; have z9 := t_271; have z10 := t_272; have z11 := t_296; have z12 := t_317; omega, by have z0 := hlm.1; have z1 := hlm.2; have z2 := qx_144; have z3 := t_196; have z4 := t_197; have z5 := t_198; have z6 := t_225; have z7 := t_247; have z8 := t_270; have z9 := t_271; have z10 := t_272; have z11 := t_296; have z12 := t_317; omega, ⟨(PSt.up (ps_eq rp_195.1.2.1 (av_287.trans rp_195.2.2.2.2)) (by have z0 := hlm.1; have z1 := hlm.2; have z2 := qx_144; have z3 := t_196; have z4 := t_197; have z5 := t_198; have z6 := t_225; have z7 := t_247; have z8 := t_270; have z9 := t_271; have z10 := t_272; have z11 := t_296; have z12 := t_317; omega) rp_269.1.1), Or.inr (Or.inr (Or.inr (ps_eq rp_269.1.2.1 (av_288.trans rp_269.2.2.2.2))))⟩⟩)⟩)⟩⟩, by show HT g Ty G_298 t.heap; rw [ht]; exact hH⟩, hS.F ht⟩) hS.2.2 dX12_readAct_194
                    · have r_318 : rgI (0) (0) x_297 := rg_w (rg_eq rl_0 c_315) (by decide) (by decide)
                      have t_319 : xa_313 = xa_267 := (pq_299.2.resolve_right (fun z => z.1 c_315)).2
                      have t_320 : (xa_313 : Int32).toInt = (xa_267 : Int32).toInt := by rw [t_319]
                      refine lv_aload_n hx hb dX12_readAct_186 rfl (lv_at hl 1 rfl) ?_
                      refine lv_aload_n hx hb dX12_readAct_187 rfl (lv_at hl 1 rfl) ?_
                      obtain ⟨_, ⟨rfl, t_322, hk_323⟩, o_c_321⟩ := hH h0 _ k_h0
                      refine hg_get hx hb hG igX12 hown hK o_c_321 rfl 9 (by decide) (hG _ mw_1293) rfl dX12_readAct_188 ?_
                      rw [exa_313]
                      refine va_callv (va_runV (As := [.int xa_313]) (rest := []) ⟨hx, hb, hml, hown, hts⟩ (c_X12_fault_p l g Ty G_298 H.size h0 xa_313 k_h0 (g.2.2 101) 80 (G_298.2.1 (g.2.2 101)) (G_298.2.1 (g.2.2 115)) (G.1 107) (G.1 108) (G_298.1 114) 80 xa_313 xw_312 ⟨u_311, hmk.2.1, rfl, (fun _ _ => rfl), u_306, u_307, rfl, exa_313, exw_312, (rg_w r7 (by decide) (by decide)), by decide, Or.inl (show ((G.1 107) : Int32).toInt ≤ 80 from (rg_w (a2 := 0) (b2 := 80) r7 (by decide) (by decide)).2), by decide, by decide, (rg_w r9_314 (by decide) (by decide))⟩) (cwV 1 hts (gwV mw_1475 mw_1477 mw_42 mw_88 mw_1478) rfl rfl rfl hv_X12_fault ⟨Nat.le_of_ble_eq_true rfl, Nat.le_of_ble_eq_true rfl⟩) ⟨PcT_blind, hg_recv hK o_c_321 rfl, PcT_pre hK hH⟩ rfl rfl hl.1 rfl (lv_room (Nat.le_of_ble_eq_true rfl)) dX12_readAct_191 ⟨Nat.zero_le _, Nat.zero_le _⟩) hS (fun q _ h => AF.mono hS.1 h) (fun q h => AF.mono hS.1 h) (fun ux_324 t H locs ht hvm hx_324 hB hz hk hS => ?_)
                      obtain ⟨eTx_324, eGx_324⟩ := hx_324
                      obtain ⟨G_325, eG_325⟩ : ∃ z, z = ux_324.2 := ⟨_, rfl⟩
                      rw [← eG_325] at eGx_324
                      have pq_326 := flt_pr eGx_324 (rg_w r9_314 (by decide) (by decide))
                      obtain ⟨hg_328, hm_329, hq_330⟩ := eGx_324
                      have hfr_331 : FR [109, 110] [] [] G_298 G_325 := FR.ps FR.rf hg_328 (by decide) (by decide)
                      have fr_332 : FR [109, 110, 117] [(g.2.2 116), (g.2.2 130)] [] G G_325 := FR.tr fr_305 hfr_331 (by decide) (fun _ _ => trivial) (by decide)
                      have u_333 : G_325.1 107 = (G.1 107) := (hfr_331.1 107 (by decide)).trans u_306
                      have u_334 : G_325.1 108 = (G.1 108) := (hfr_331.1 108 (by decide)).trans u_307
                      have u_335 : G_325.1 117 = xl_266 := (hfr_331.1 117 (by decide)).trans u_308
                      have w_336 : G_325.2.1 (g.2.2 130) = f_275 := (hfr_331.2.1 (g.2.2 130) trivial).trans w_309
                      have w_337 : G_325.2.1 (g.2.2 116) = f_265 := (hfr_331.2.1 (g.2.2 116) trivial).trans w_310
                      have u_338 : G_325.2.2 106 = some (g.2.2 101) := (hfr_331.2.2 106 (by decide)).trans u_311
                      obtain ⟨xw_339, exw_339⟩ : ∃ z : Int32, G_325.1 110 = z := ⟨_, rfl⟩
                      have e9_340 := pq_326.1
                      rw [exw_339] at pq_326
                      have hH : HT g Ty G_325 H := by rw [← ht, ← eTx_324, eG_325]; exact hB
                      exact W.vret hx hb hr (fun t ht hWm => ⟨⟨(Ty, G_325), rfl, ⟨rfl, ⟨fr_332, (by rw [w_337, w_336, u_335, e9_340, exw_339]; exact ⟨by have z0 := hlm.1; have z1 := hlm.2; have z2 := qx_144; have z3 := t_196; have z4 := t_197; have z5 := t_198; have z6 := t_225; have z7 := t_247; have z8 := t_270; have z9 := t_271; have z10 := t_272; have z11 := t_296; have z12 := t_320; omega, (fun j hj => (rp_269.1.1 j (by have z0 := hlm.1; have z1 := hlm.2; have z2 := qx_144; have z3 := t_196; have z4 := t_197; have z5 := t_198; have z6 := t_225; have z7 := t_247; have z8 := t_270; have z9 := t_271; have z10 := t_272; have z11 := t_296; have z12 := t_320; have z13 := hj; omega)).trans (rp_195.1.1 j hj)), ac_285, by have z0 := hlm.1; have z1 := hlm.2; have z2 := qx_144; have z3 := t_196; have z4 := t_197; have z5 := t_198; have z6 := t_225; have z7 := t_247; have z8 := t_270; have z9 := t_271; have z10 := t_272; have z11 := t_296; have z12 := t_320; omega, (rg_w r9_314 (by decide) (by decide)), (pq_326.2.2 (by rw [pq_299.1]; exact rp_269.2.1)), by have z0 := hlm.1; have z1 := hlm.2; have z2 := qx_144; have z3 := t_196; have z4 := t_197; have z5 := t_198; have z6 := t_225; have z7 := t_247; have z8 := t_270; have z9 := t_271; have z10 := t_272; have z11 := t_296; have z12 := t_320; omega, (fun q => absurd q pq_326.2.1)⟩)⟩⟩, by show HT g Ty G_325 t.heap; rw [ht]; exact hH⟩, hS.F ht⟩) hS.2.2 dX12_readAct_194
                · have r_341 : rgI (0) (0) x_251 := rg_w (rg_eq rl_0 c_252) (by decide) (by decide)
                  exact W.vret hx hb hr (fun t ht hWm => ⟨⟨(Ty, G_228), rfl, ⟨rfl, ⟨fr_235, (by rw [w_240, w_239, u_238, exa_243, exw_242]; exact ⟨by have z0 := hlm.1; have z1 := hlm.2; have z2 := qx_144; have z3 := t_196; have z4 := t_197; have z5 := t_198; have z6 := t_225; have z7 := t_247; omega, rp_195.1.1, ac_211, by have z0 := hlm.1; have z1 := hlm.2; have z2 := qx_144; have z3 := t_196; have z4 := t_197; have z5 := t_198; have z6 := t_225; have z7 := t_247; omega, (rg_w r9_244 (by decide) (by decide)), (by rw [pq_229.1]; exact rp_195.2.1), by have z0 := hlm.1; have z1 := hlm.2; have z2 := qx_144; have z3 := t_196; have z4 := t_197; have z5 := t_198; have z6 := t_225; have z7 := t_247; omega, (fun q => absurd q (fin_0 hx_251.2 c_252))⟩)⟩⟩, by show HT g Ty G_228 t.heap; rw [ht]; exact hH⟩, hS.F ht⟩) hS.2.2 dX12_readAct_157
              · have r_342 : rgI (0) (0) x_227 := rg_w (rg_eq rl_0 c_245) (by decide) (by decide)
                have t_343 : xa_243 = xa_193 := (pq_229.2.resolve_right (fun z => z.1 c_245)).2
                have t_344 : (xa_243 : Int32).toInt = (xa_193 : Int32).toInt := by rw [t_343]
                refine lv_aload_n hx hb dX12_readAct_142 rfl (lv_at hl 1 rfl) ?_
                refine lv_aload_n hx hb dX12_readAct_143 rfl (lv_at hl 1 rfl) ?_
                obtain ⟨_, ⟨rfl, t_346, hk_347⟩, o_c_345⟩ := hH h0 _ k_h0
                refine hg_get hx hb hG igX12 hown hK o_c_345 rfl 9 (by decide) (hG _ mw_1293) rfl dX12_readAct_144 ?_
                rw [exa_243]
                refine va_callv (va_runV (As := [.int xa_243]) (rest := []) ⟨hx, hb, hml, hown, hts⟩ (c_X12_fault_p l g Ty G_228 H.size h0 xa_243 k_h0 (g.2.2 101) 80 (G_228.2.1 (g.2.2 101)) (G_228.2.1 (g.2.2 115)) (G.1 107) (G.1 108) (G_228.1 114) 80 xa_243 xw_242 ⟨u_241, hmk.2.1, rfl, (fun _ _ => rfl), u_236, u_237, rfl, exa_243, exw_242, (rg_w r7 (by decide) (by decide)), by decide, Or.inl (show ((G.1 107) : Int32).toInt ≤ 80 from (rg_w (a2 := 0) (b2 := 80) r7 (by decide) (by decide)).2), by decide, by decide, (rg_w r9_244 (by decide) (by decide))⟩) (cwV 1 hts (gwV mw_1475 mw_1477 mw_42 mw_88 mw_1478) rfl rfl rfl hv_X12_fault ⟨Nat.le_of_ble_eq_true rfl, Nat.le_of_ble_eq_true rfl⟩) ⟨PcT_blind, hg_recv hK o_c_345 rfl, PcT_pre hK hH⟩ rfl rfl hl.1 rfl (lv_room (Nat.le_of_ble_eq_true rfl)) dX12_readAct_147 ⟨Nat.zero_le _, Nat.zero_le _⟩) hS (fun q _ h => AF.mono hS.1 h) (fun q h => AF.mono hS.1 h) (fun ux_348 t H locs ht hvm hx_348 hB hz hk hS => ?_)
                obtain ⟨eTx_348, eGx_348⟩ := hx_348
                obtain ⟨G_349, eG_349⟩ : ∃ z, z = ux_348.2 := ⟨_, rfl⟩
                rw [← eG_349] at eGx_348
                have pq_350 := flt_pr eGx_348 (rg_w r9_244 (by decide) (by decide))
                obtain ⟨hg_352, hm_353, hq_354⟩ := eGx_348
                have hfr_355 : FR [109, 110] [] [] G_228 G_349 := FR.ps FR.rf hg_352 (by decide) (by decide)
                have fr_356 : FR [109, 110, 117] [(g.2.2 116), (g.2.2 130)] [] G G_349 := FR.tr fr_235 hfr_355 (by decide) (fun _ _ => trivial) (by decide)
                have u_357 : G_349.1 107 = (G.1 107) := (hfr_355.1 107 (by decide)).trans u_236
                have u_358 : G_349.1 108 = (G.1 108) := (hfr_355.1 108 (by decide)).trans u_237
                have u_359 : G_349.1 117 = xl_192 := (hfr_355.1 117 (by decide)).trans u_238
                have w_360 : G_349.2.1 (g.2.2 130) = f_201 := (hfr_355.2.1 (g.2.2 130) trivial).trans w_239
                have w_361 : G_349.2.1 (g.2.2 116) = f_191 := (hfr_355.2.1 (g.2.2 116) trivial).trans w_240
                have u_362 : G_349.2.2 106 = some (g.2.2 101) := (hfr_355.2.2 106 (by decide)).trans u_241
                obtain ⟨xw_363, exw_363⟩ : ∃ z : Int32, G_349.1 110 = z := ⟨_, rfl⟩
                have e9_364 := pq_350.1
                rw [exw_363] at pq_350
                have hH : HT g Ty G_349 H := by rw [← ht, ← eTx_348, eG_349]; exact hB
                refine lv_aload_n hx hb dX12_readAct_150 rfl (lv_at hl 1 rfl) ?_
                obtain ⟨_, ⟨rfl, t_366, hk_367⟩, o_c_365⟩ := hH h0 _ k_h0
                refine vp_callSi (W.runV (As := []) (rest := []) ⟨hx, hb, hml, hown, hts⟩ (c_X12_fine_p l g Ty G_349 h0 k_h0 (g.2.2 101) 80 (G_349.2.1 (g.2.2 101)) (G_349.2.1 (g.2.2 115)) (G.1 107) (G.1 108) (G_349.1 114) 80 xa_243 xw_363 ⟨u_362, hmk.2.1, rfl, (fun _ _ => rfl), u_357, u_358, rfl, e9_364, exw_363, (rg_w r7 (by decide) (by decide)), by decide, Or.inl (show ((G.1 107) : Int32).toInt ≤ 80 from (rg_w (a2 := 0) (b2 := 80) r7 (by decide) (by decide)).2), by decide, by decide, (rg_w r9_244 (by decide) (by decide))⟩) (cwV 0 hts (gwV mw_1463 mw_1465 mw_39 mw_88 mw_1466) rfl rfl rfl hv_X12_fine ⟨Nat.le_of_ble_eq_true rfl, Nat.le_of_ble_eq_true rfl⟩) ⟨PcH_blind, hg_recv hK o_c_365 rfl, PcH_pre hK hH⟩ rfl rfl hl.1 rfl (lv_room (Nat.le_of_ble_eq_true rfl)) dX12_readAct_151 ⟨Nat.zero_le _, Nat.zero_le _⟩) (fun x_368 hx_368 => ?_)
                have rx_368 : rgI (0) (1) x_368 := hx_368.1
                refine lv_if_ne (tgt := 158) hx hb dX12_readAct_154 (by decide) (fun c_369 => ?_) (fun c_369 => ?_)
                · have r_370 : rgI (1) (1) x_368 := rg_w (rg_neL rx_368 rl_0 c_369) (by decide) (by decide)
                  refine lv_aload_n hx hb dX12_readAct_158 rfl (lv_at hl 1 rfl) ?_
                  refine hg_get hx hb hG igX12 hown hK o_c_365 rfl 30 (by decide) (hG _ mw_1314) rfl dX12_readAct_159 ?_
                  refine lv_iload_n hx hb dX12_readAct_162 rfl (lv_at hl 2 rfl) ?_
                  refine lv_iconst (v := 2) hx hb dX12_readAct_163 (by decide) ?_
                  refine lv_iadd hx hb dX12_readAct_164 ?_
                  refine lv_topi (fun x_371 ex_371 => ?_)
                  have rx_371 : rgI (2) (318) x_371 := by rw [ex_371]; exact rg_w (rg_add pr0 rl_2 (by decide) (by decide)) (by decide) (by decide)
                  have qx_371 : x_371.toInt = (a0 : Int32).toInt + 2 := by rw [ex_371]; exact rg_addE pr0 rl_2 (by decide) (by decide)
                  refine lv_aload_n hx hb dX12_readAct_165 rfl (lv_at hl 1 rfl) ?_
                  have hlm_372 : 0 ≤ (xl_192 : Int32).toInt ∧ (xl_192 : Int32).toInt ≤ (xa_243 : Int32).toInt + 1 := ⟨by have z0 := hlm.1; have z1 := hlm.2; have z2 := qx_144; have z3 := t_196; have z4 := t_197; have z5 := t_198; have z6 := t_225; have z7 := t_344; omega, by have z0 := hlm.1; have z1 := hlm.2; have z2 := qx_144; have z3 := t_196; have z4 := t_197; have z5 := t_198; have z6 := t_225; have z7 := t_344; omega⟩
                  refine va_calli (va_runV (As := []) (rest := [.int x_371, .ref (g.2.2 130)]) ⟨hx, hb, hml, hown, hts⟩ (c_X12_readPath l g Ty G_349 H.size h0 k_h0 u_362 (by rw [u_357]; exact (rg_w r7 (by decide) (by decide))) (by rw [e9_364]; exact (rg_w r9_244 (by decide) (by decide))) (by rw [exw_363]; exact (pq_350.2.2 (by rw [pq_229.1]; exact rp_195.2.1))) hLD (by rw [u_359, e9_364]; exact hlm_372)) (cwV 0 hts (gwV mw_1498 mw_1500 mw_46 mw_88 mw_1501) rfl rfl rfl hv_X12_readPath ⟨Nat.le_of_ble_eq_true rfl, Nat.le_of_ble_eq_true rfl⟩) ⟨PcT_blind, hg_recv hK o_c_365 rfl, PcT_pre hK hH⟩ rfl rfl hl.1 rfl (lv_room (Nat.le_of_ble_eq_true rfl)) dX12_readAct_166 ⟨Nat.zero_le _, Nat.zero_le _⟩) hS (fun q _ h => AF.mono hS.1 h) (fun q h => AF.mono hS.1 h) (fun x_373 ux_373 t H locs ht hvm hx_373 hB hz hk hS => ?_)
                  obtain ⟨eTx_373, eGx_373⟩ := hx_373
                  obtain ⟨G_374, eG_374⟩ : ∃ z, z = ux_373.2 := ⟨_, rfl⟩
                  rw [← eG_374] at eGx_373
                  obtain ⟨hfr_375, hex_376⟩ := eGx_373
                  have fr_377 : FR [109, 110, 117] [(g.2.2 116), (g.2.2 130)] [] G G_374 := FR.tr fr_356 hfr_375 (by decide) (fun b h => ⟨h.1, trivial⟩) (by decide)
                  have u_378 : G_374.1 107 = (G.1 107) := (hfr_375.1 107 (by decide)).trans u_357
                  have u_379 : G_374.1 108 = (G.1 108) := (hfr_375.1 108 (by decide)).trans u_358
                  have w_380 : G_374.2.1 (g.2.2 130) = f_201 := (hfr_375.2.1 (g.2.2 130) ⟨(ne_kd hmk.2.2.2.2.2.2.2.2.2.2.2.1 hmk.2.2.2.2.1 (by decide)), trivial⟩).trans w_360
                  have u_381 : G_374.2.2 106 = some (g.2.2 101) := (hfr_375.2.2 106 (by decide)).trans u_362
                  obtain ⟨f_382, ef_382⟩ : ∃ z : Nat → Int32, G_374.2.1 (g.2.2 116) = z := ⟨_, rfl⟩
                  obtain ⟨xl_383, exl_383⟩ : ∃ z : Int32, G_374.1 117 = z := ⟨_, rfl⟩
                  obtain ⟨xa_384, exa_384⟩ : ∃ z : Int32, G_374.1 109 = z := ⟨_, rfl⟩
                  obtain ⟨xw_385, exw_385⟩ : ∃ z : Int32, G_374.1 110 = z := ⟨_, rfl⟩
                  have rp_386 := hex_376
                  rw [ef_382, exl_383, exa_384, exw_385, w_361, u_359, e9_364] at rp_386
                  have hH : HT g Ty G_374 H := by rw [← ht, ← eTx_373, eG_374]; exact hB
                  have t_387 := rp_386.1.2.2.1
                  have t_388 := rp_386.1.2.2.2.1
                  have t_389 := rp_386.2.2.2.1
                  obtain ⟨_, rfl, o_c_390⟩ := hH (g.2.2 130) _ hk_367.2.2.2.2.2.2.2.2.2.2.2.1
                  have o_c_390 : va_at g.1 vwCl ((g.2.2 130), .inl (g.2.1 1, 320, .inl (G_374.2.1 (g.2.2 130)))) H := o_c_390
                  refine hg_iast hx hb hK hS o_c_390 (AF.of hk_367.2.2.2.2.2.2.2.2.2.2.2.1) (rg_in (n := 320) rx_371 (by decide) (by decide)) dX12_readAct_169 (fun H locs o_c_390 hz oq hS => ?_)
                  obtain ⟨G_391, eG_391⟩ : ∃ z : Gh, z = aset G_374 (g.2.2 130) (upd (G_374.2.1 (g.2.2 130)) (x_371 : Int32).toNatClampNeg x_373) := ⟨_, rfl⟩
                  have hH : HT g Ty G_391 H := by rw [eG_391]; exact HT.putA (upd (G_374.2.1 (g.2.2 130)) (x_371 : Int32).toNatClampNeg x_373) hH hk_367.2.2.2.2.2.2.2.2.2.2.2.1 cf30 o_c_390 oq
                  obtain ⟨f_392, ef_392⟩ : ∃ z : Nat → Int32, z = (upd f_201 (x_371 : Int32).toNatClampNeg x_373) := ⟨_, rfl⟩
                  have eaf_392 : G_391 = aset G_374 (g.2.2 130) f_392 := by rw [eG_391, ef_392, w_380]
                  have fr_393 : FR [109, 110, 117] [(g.2.2 116), (g.2.2 130)] [] G G_391 := FR.a fr_377 eaf_392 (fun b h => h.2.1)
                  have u_394 : G_391.1 107 = (G.1 107) := by rw [eaf_392]; exact u_378
                  have u_395 : G_391.1 108 = (G.1 108) := by rw [eaf_392]; exact u_379
                  have u_396 : G_391.1 109 = xa_384 := by rw [eaf_392]; exact exa_384
                  have u_397 : G_391.1 110 = xw_385 := by rw [eaf_392]; exact exw_385
                  have u_398 : G_391.1 117 = xl_383 := by rw [eaf_392]; exact exl_383
                  have w_399 : G_391.2.1 (g.2.2 130) = f_392 := by rw [eaf_392]; exact aset_eq
                  have w_400 : G_391.2.1 (g.2.2 116) = f_382 := by rw [eaf_392]; exact (aset_ne (ne_kd hmk.2.2.2.2.1 hmk.2.2.2.2.2.2.2.2.2.2.2.1 (by decide))).trans ef_382
                  have u_401 : G_391.2.2 106 = some (g.2.2 101) := by rw [eaf_392]; exact u_381
                  clear oq hz
                  have ac_402 := ac_s ac_211 ef_392 (ai_d ex_371 pr0 rfl (by decide)) (by decide)
                  have av_403 : f_392 (a0.toNatClampNeg + 0) = x_4 := ac_k av_212 ef_392 (ai_d ex_371 pr0 rfl (by decide)) (by decide)
                  have av_404 : f_392 (a0.toNatClampNeg + 1) = x_182 := ac_k av_213 ef_392 (ai_d ex_371 pr0 rfl (by decide)) (by decide)
                  have av_405 : f_392 (a0.toNatClampNeg + 2) = x_373 := ac_v ef_392 (ai_d ex_371 pr0 rfl (by decide))
                  refine lv_aload_n hx hb dX12_readAct_170 rfl (lv_at hl 1 rfl) ?_
                  obtain ⟨_, ⟨rfl, t_407, hk_408⟩, o_c_406⟩ := hH h0 _ k_h0
                  refine vp_callSi (W.runV (As := []) (rest := []) ⟨hx, hb, hml, hown, hts⟩ (c_X12_fine_p l g Ty G_391 h0 k_h0 (g.2.2 101) 80 (G_391.2.1 (g.2.2 101)) (G_391.2.1 (g.2.2 115)) (G.1 107) (G.1 108) (G_391.1 114) 80 xa_384 xw_385 ⟨u_401, hmk.2.1, rfl, (fun _ _ => rfl), u_394, u_395, rfl, u_396, u_397, (rg_w r7 (by decide) (by decide)), by decide, Or.inl (show ((G.1 107) : Int32).toInt ≤ 80 from (rg_w (a2 := 0) (b2 := 80) r7 (by decide) (by decide)).2), by decide, by decide, (rg_w rp_386.2.2.1 (by decide) (by decide))⟩) (cwV 0 hts (gwV mw_1463 mw_1465 mw_39 mw_88 mw_1466) rfl rfl rfl hv_X12_fine ⟨Nat.le_of_ble_eq_true rfl, Nat.le_of_ble_eq_true rfl⟩) ⟨PcH_blind, hg_recv hK o_c_406 rfl, PcH_pre hK hH⟩ rfl rfl hl.1 rfl (lv_room (Nat.le_of_ble_eq_true rfl)) dX12_readAct_171 ⟨Nat.zero_le _, Nat.zero_le _⟩) (fun x_409 hx_409 => ?_)
                  have rx_409 : rgI (0) (1) x_409 := hx_409.1
                  refine lv_if_eq (tgt := 194) hx hb dX12_readAct_174 (by decide) (fun c_410 => ?_) (fun c_410 => ?_)
                  · have r_411 : rgI (0) (0) x_409 := rg_w (rg_eq rl_0 c_410) (by decide) (by decide)
                    exact W.vret hx hb hr (fun t ht hWm => ⟨⟨(Ty, G_391), rfl, ⟨rfl, ⟨fr_393, (by rw [w_400, w_399, u_398, u_396, u_397]; exact ⟨by have z0 := hlm.1; have z1 := hlm.2; have z2 := qx_144; have z3 := t_196; have z4 := t_197; have z5 := t_198; have z6 := t_225; have z7 := t_344; have z8 := t_387; have z9 := t_388; have z10 := t_389; omega, (fun j hj => (rp_386.1.1 j (by have z0 := hlm.1; have z1 := hlm.2; have z2 := qx_144; have z3 := t_196; have z4 := t_197; have z5 := t_198; have z6 := t_225; have z7 := t_344; have z8 := t_387; have z9 := t_388; have z10 := t_389; have z11 := hj; omega)).trans (rp_195.1.1 j hj)), ac_402, by have z0 := hlm.1; have z1 := hlm.2; have z2 := qx_144; have z3 := t_196; have z4 := t_197; have z5 := t_198; have z6 := t_225; have z7 := t_344; have z8 := t_387; have z9 := t_388; have z10 := t_389; omega, (rg_w rp_386.2.2.1 (by decide) (by decide)), rp_386.2.1, by have z0 := hlm.1; have z1 := hlm.2; have z2 := qx_144; have z3 := t_196; have z4 := t_197; have z5 := t_198; have z6 := t_225; have z7 := t_344; have z8 := t_387; have z9 := t_388; have z10 := t_389; omega, (fun q => absurd q (fin_0 hx_409.2 c_410))⟩)⟩⟩, by show HT g Ty G_391 t.heap; rw [ht]; exact hH⟩, hS.F ht⟩) hS.2.2 dX12_readAct_194
                  · have r_412 : rgI (1) (1) x_409 := rg_w (rg_neL rx_409 rl_0 c_410) (by decide) (by decide)
                    have t_413 := rp_386.1.2.2.2.2 (fin_1 hx_409.2 c_410)
                    refine lv_aload_n hx hb dX12_readAct_177 rfl (lv_at hl 1 rfl) ?_
                    refine lv_bipush (v := 46) hx hb dX12_readAct_178 (by decide) ?_
                    refine va_calli (va_runV (As := [.int 46]) (rest := []) ⟨hx, hb, hml, hown, hts⟩ (c_X12_passes l g Ty G_391 H.size h0 46 k_h0 (rg_w rl_46 (by decide) (by decide)) (g.2.2 101) 80 (G_391.2.1 (g.2.2 101)) (G_391.2.1 (g.2.2 115)) (G.1 107) (G.1 108) (G_391.1 114) 80 xa_384 xw_385 ⟨u_401, hmk.2.1, rfl, (fun _ _ => rfl), u_394, u_395, rfl, u_396, u_397, (rg_w r7 (by decide) (by decide)), by decide, Or.inl (show ((G.1 107) : Int32).toInt ≤ 80 from (rg_w (a2 := 0) (b2 := 80) r7 (by decide) (by decide)).2), by decide, by decide, (rg_w rp_386.2.2.1 (by decide) (by decide))⟩) (cwV 1 hts (gwV mw_1459 mw_1461 mw_38 mw_88 mw_1462) rfl rfl rfl hv_X12_passes ⟨Nat.le_of_ble_eq_true rfl, Nat.le_of_ble_eq_true rfl⟩) ⟨PcT_blind, hg_recv hK o_c_406 rfl, PcT_pre hK hH⟩ rfl rfl hl.1 rfl (lv_room (Nat.le_of_ble_eq_true rfl)) dX12_readAct_180 ⟨Nat.zero_le _, Nat.zero_le _⟩) hS (fun q _ h => AF.mono hS.1 h) (fun q h => AF.mono hS.1 h) (fun x_414 ux_414 t H locs ht hvm hx_414 hB hz hk hS => ?_)
                    obtain ⟨hx_414, fx_414⟩ := hx_414
                    obtain ⟨eTx_414, eGx_414⟩ := fx_414
                    obtain ⟨G_415, eG_415⟩ : ∃ z, z = ux_414.2 := ⟨_, rfl⟩
                    rw [← eG_415] at eGx_414
                    have pq_416 := pas_pr eGx_414 (rg_w rp_386.2.2.1 (by decide) (by decide))
                    obtain ⟨hr_417, hg_418, hm_419, hq_420⟩ := eGx_414
                    have hfr_421 : FR [109, 110] [] [] G_391 G_415 := FR.ps FR.rf hg_418 (by decide) (by decide)
                    have fr_422 : FR [109, 110, 117] [(g.2.2 116), (g.2.2 130)] [] G G_415 := FR.tr fr_393 hfr_421 (by decide) (fun _ _ => trivial) (by decide)
                    have u_423 : G_415.1 107 = (G.1 107) := (hfr_421.1 107 (by decide)).trans u_394
                    have u_424 : G_415.1 108 = (G.1 108) := (hfr_421.1 108 (by decide)).trans u_395
                    have u_425 : G_415.1 117 = xl_383 := (hfr_421.1 117 (by decide)).trans u_398
                    have w_426 : G_415.2.1 (g.2.2 130) = f_392 := (hfr_421.2.1 (g.2.2 130) trivial).trans w_399
                    have w_427 : G_415.2.1 (g.2.2 116) = f_382 := (hfr_421.2.1 (g.2.2 116) trivial).trans w_400
                    have u_428 : G_415.2.2 106 = some (g.2.2 101) := (hfr_421.2.2 106 (by decide)).trans u_401
                    obtain ⟨xw_429, exw_429⟩ : ∃ z : Int32, G_415.1 110 = z := ⟨_, rfl⟩
                    obtain ⟨xa_430, exa_430⟩ : ∃ z : Int32, G_415.1 109 = z := ⟨_, rfl⟩
                    have r9_431 : rgI 0 80 xa_430 := by rw [← exa_430, pst109 hg_418]; exact hq_420
                    rw [exa_430, exw_429] at pq_416
                    have hH : HT g Ty G_415 H := by rw [← ht, ← eTx_414, eG_415]; exact hB
                    have rx_414 : rgI (0) (1) x_414 := hx_414.1
                    refine lv_if_ne (tgt := 194) hx hb dX12_readAct_183 (by decide) (fun c_432 => ?_) (fun c_432 => ?_)
                    · have r_433 : rgI (1) (1) x_414 := rg_w (rg_neL rx_414 rl_0 c_432) (by decide) (by decide)
                      have t_434 := (pq_416.2.resolve_left (fun z => c_432 z.1)).2.1
                      exact W.vret hx hb hr (fun t ht hWm => ⟨⟨(Ty, G_415), rfl, ⟨rfl, ⟨fr_422, (by rw [w_427, w_426, u_425, exa_430, exw_429]; exact ⟨by have z0 := hlm.1; have z1 := hlm.2; have z2 := qx_144; have z3 := t_196; have z4 := t_197; have z5 := t_198; have z6 := t_225; have z7 := t_344; have z8 := t_387; have z9 := t_388; have z10 := t_389; have z11 := t_413; have z12 := t_434; omega, (fun j hj => (rp_386.1.1 j (by have z0 := hlm.1; have z1 := hlm.2; have z2 := qx_144; have z3 := t_196; have z4 := t_197; have z5 := t_198; have z6 := t_225; have z7 := t_344; have z8 := t_387; have z9 := t_388; have z10 := t_389; have z11 := t_413; have z12 := t_434; have z13 := hj; omega)).trans (rp_195.1.1 j hj)), ac_402, by have z0 := hlm.1; have z1 := hlm.2; have z2 := qx_144; have z3 := t_196; have z4 := t_197; have z5 := t_198; have z6 := t_225; have z7 := t_344; have z8 := t_387; have z9 := t_388; have z10 := t_389; have z11 := t_413; have z12 := t_434; omega, (rg_w r9_431 (by decide) (by decide)), (by rw [pq_416.1]; exact rp_386.2.1), by have z0 := hlm.1; have z1 := hlm.2; have z2 := qx_144; have z3 := t_196; have z4 := t_197; have z5 := t_198; have z6 := t_225; have z7 := t_344; have z8 := t_387; have z9 := t_388; have z10 := t_389; have z11 := t_413; have z12 := t_434; omega, (fun q => ⟨by have z0 := hlm.1; have z1 := hlm.2; have z2 := qx_144; have z3 := t_196; have z4 := t_197; have z5 := t_198; have z6 := t_225; have z7 := t_344; have z8 := t_387; have z9 := t_388; have z10 := t_389; have z11 := t_413; have z12 := t_434; omega, by have z0 := hlm.1; have z1 := hlm.2; have z2 := qx_144; have z3 := t_196; have z4 := t_197; have z5 := t_198; have z6 := t_225; have z7 := t_344; have z8 := t_387; have z9 := t_388; have z10 := t_389; have z11 := t_413; have z12 := t_434; omega, ⟨(PSt.up (ps_eq rp_195.1.2.1 (av_404.trans rp_195.2.2.2.2)) (by have z0 := hlm.1; have z1 := hlm.2; have z2 := qx_144; have z3 := t_196; have z4 := t_197; have z5 := t_198; have z6 := t_225; have z7 := t_344; have z8 := t_387; have z9 := t_388; have z10 := t_389; have z11 := t_413; have z12 := t_434; omega) rp_386.1.1), Or.inr (Or.inr (Or.inr (ps_eq rp_386.1.2.1 (av_405.trans rp_386.2.2.2.2))))⟩⟩)⟩)⟩⟩, by show HT g Ty G_415 t.heap; rw [ht]; exact hH⟩, hS.F ht⟩) hS.2.2 dX12_readAct_194
                    · have r_435 : rgI (0) (0) x_414 := rg_w (rg_eq rl_0 c_432) (by decide) (by decide)
                      have t_436 : xa_430 = xa_384 := (pq_416.2.resolve_right (fun z => z.1 c_432)).2
                      have t_437 : (xa_430 : Int32).toInt = (xa_384 : Int32).toInt := by rw [t_436]
                      refine lv_aload_n hx hb dX12_readAct_186 rfl (lv_at hl 1 rfl) ?_
                      refine lv_aload_n hx hb dX12_readAct_187 rfl (lv_at hl 1 rfl) ?_
                      obtain ⟨_, ⟨rfl, t_439, hk_440⟩, o_c_438⟩ := hH h0 _ k_h0
                      refine hg_get hx hb hG igX12 hown hK o_c_438 rfl 9 (by decide) (hG _ mw_1293) rfl dX12_readAct_188 ?_
                      rw [exa_430]
                      refine va_callv (va_runV (As := [.int xa_430]) (rest := []) ⟨hx, hb, hml, hown, hts⟩ (c_X12_fault_p l g Ty G_415 H.size h0 xa_430 k_h0 (g.2.2 101) 80 (G_415.2.1 (g.2.2 101)) (G_415.2.1 (g.2.2 115)) (G.1 107) (G.1 108) (G_415.1 114) 80 xa_430 xw_429 ⟨u_428, hmk.2.1, rfl, (fun _ _ => rfl), u_423, u_424, rfl, exa_430, exw_429, (rg_w r7 (by decide) (by decide)), by decide, Or.inl (show ((G.1 107) : Int32).toInt ≤ 80 from (rg_w (a2 := 0) (b2 := 80) r7 (by decide) (by decide)).2), by decide, by decide, (rg_w r9_431 (by decide) (by decide))⟩) (cwV 1 hts (gwV mw_1475 mw_1477 mw_42 mw_88 mw_1478) rfl rfl rfl hv_X12_fault ⟨Nat.le_of_ble_eq_true rfl, Nat.le_of_ble_eq_true rfl⟩) ⟨PcT_blind, hg_recv hK o_c_438 rfl, PcT_pre hK hH⟩ rfl rfl hl.1 rfl (lv_room (Nat.le_of_ble_eq_true rfl)) dX12_readAct_191 ⟨Nat.zero_le _, Nat.zero_le _⟩) hS (fun q _ h => AF.mono hS.1 h) (fun q h => AF.mono hS.1 h) (fun ux_441 t H locs ht hvm hx_441 hB hz hk hS => ?_)
                      obtain ⟨eTx_441, eGx_441⟩ := hx_441
                      obtain ⟨G_442, eG_442⟩ : ∃ z, z = ux_441.2 := ⟨_, rfl⟩
                      rw [← eG_442] at eGx_441
                      have pq_443 := flt_pr eGx_441 (rg_w r9_431 (by decide) (by decide))
                      obtain ⟨hg_445, hm_446, hq_447⟩ := eGx_441
                      have hfr_448 : FR [109, 110] [] [] G_415 G_442 := FR.ps FR.rf hg_445 (by decide) (by decide)
                      have fr_449 : FR [109, 110, 117] [(g.2.2 116), (g.2.2 130)] [] G G_442 := FR.tr fr_422 hfr_448 (by decide) (fun _ _ => trivial) (by decide)
                      have u_450 : G_442.1 107 = (G.1 107) := (hfr_448.1 107 (by decide)).trans u_423
                      have u_451 : G_442.1 108 = (G.1 108) := (hfr_448.1 108 (by decide)).trans u_424
                      have u_452 : G_442.1 117 = xl_383 := (hfr_448.1 117 (by decide)).trans u_425
                      have w_453 : G_442.2.1 (g.2.2 130) = f_392 := (hfr_448.2.1 (g.2.2 130) trivial).trans w_426
                      have w_454 : G_442.2.1 (g.2.2 116) = f_382 := (hfr_448.2.1 (g.2.2 116) trivial).trans w_427
                      have u_455 : G_442.2.2 106 = some (g.2.2 101) := (hfr_448.2.2 106 (by decide)).trans u_428
                      obtain ⟨xw_456, exw_456⟩ : ∃ z : Int32, G_442.1 110 = z := ⟨_, rfl⟩
                      have e9_457 := pq_443.1
                      rw [exw_456] at pq_443
                      have hH : HT g Ty G_442 H := by rw [← ht, ← eTx_441, eG_442]; exact hB
                      exact W.vret hx hb hr (fun t ht hWm => ⟨⟨(Ty, G_442), rfl, ⟨rfl, ⟨fr_449, (by rw [w_454, w_453, u_452, e9_457, exw_456]; exact ⟨by have z0 := hlm.1; have z1 := hlm.2; have z2 := qx_144; have z3 := t_196; have z4 := t_197; have z5 := t_198; have z6 := t_225; have z7 := t_344; have z8 := t_387; have z9 := t_388; have z10 := t_389; have z11 := t_413; have z12 := t_437; omega, (fun j hj => (rp_386.1.1 j (by have z0 := hlm.1; have z1 := hlm.2; have z2 := qx_144; have z3 := t_196; have z4 := t_197; have z5 := t_198; have z6 := t_225; have z7 := t_344; have z8 := t_387; have z9 := t_388; have z10 := t_389; have z11 := t_413; have z12 := t_437; have z13 := hj; omega)).trans (rp_195.1.1 j hj)), ac_402, by have z0 := hlm.1; have z1 := hlm.2; have z2 := qx_144; have z3 := t_196; have z4 := t_197; have z5 := t_198; have z6 := t_225; have z7 := t_344; have z8 := t_387; have z9 := t_388; have z10 := t_389; have z11 := t_413; have z12 := t_437; omega, (rg_w r9_431 (by decide) (by decide)), (pq_443.2.2 (by rw [pq_416.1]; exact rp_386.2.1)), by have z0 := hlm.1; have z1 := hlm.2; have z2 := qx_144; have z3 := t_196; have z4 := t_197; have z5 := t_198; have z6 := t_225; have z7 := t_344; have z8 := t_387; have z9 := t_388; have z10 := t_389; have z11 := t_413; have z12 := t_437; omega, (fun q => absurd q pq_443.2.1)⟩)⟩⟩, by show HT g Ty G_442 t.heap; rw [ht]; exact hH⟩, hS.F ht⟩) hS.2.2 dX12_readAct_194
                · have r_458 : rgI (0) (0) x_368 := rg_w (rg_eq rl_0 c_369) (by decide) (by decide)
                  exact W.vret hx hb hr (fun t ht hWm => ⟨⟨(Ty, G_349), rfl, ⟨rfl, ⟨fr_356, (by rw [w_361, w_360, u_359, e9_364, exw_363]; exact ⟨by have z0 := hlm.1; have z1 := hlm.2; have z2 := qx_144; have z3 := t_196; have z4 := t_197; have z5 := t_198; have z6 := t_225; have z7 := t_344; omega, rp_195.1.1, ac_211, by have z0 := hlm.1; have z1 := hlm.2; have z2 := qx_144; have z3 := t_196; have z4 := t_197; have z5 := t_198; have z6 := t_225; have z7 := t_344; omega, (rg_w r9_244 (by decide) (by decide)), (pq_350.2.2 (by rw [pq_229.1]; exact rp_195.2.1)), by have z0 := hlm.1; have z1 := hlm.2; have z2 := qx_144; have z3 := t_196; have z4 := t_197; have z5 := t_198; have z6 := t_225; have z7 := t_344; omega, (fun q => absurd q (fin_0 hx_368.2 c_369))⟩)⟩⟩, by show HT g Ty G_349 t.heap; rw [ht]; exact hH⟩, hS.F ht⟩) hS.2.2 dX12_readAct_157
            · exact rg_clash (rg_neL r_143 rl_98 c_226) (r_143) (by decide)
        · have r_459 : rgI (0) (0) x_177 := rg_w (rg_eq rl_0 c_178) (by decide) (by decide)
          exact W.vret hx hb hr (fun t ht hWm => ⟨⟨(Ty, G_160), rfl, ⟨rfl, ⟨fr_162, (by rw [w_168, w_169, u_166, u_167, u_165]; exact ⟨by have z0 := hlm.1; have z1 := hlm.2; have z2 := qx_144; omega, (fun _ _ => rfl), ac_171, by have z0 := hlm.1; have z1 := hlm.2; have z2 := qx_144; omega, (rg_w r9_145 (by decide) (by decide)), w0, by have z0 := hlm.1; have z1 := hlm.2; have z2 := qx_144; omega, (fun q => absurd q (fin_0 hx_177.2 c_178))⟩)⟩⟩, by show HT g Ty G_160 t.heap; rw [ht]; exact hH⟩, hS.F ht⟩) hS.2.2 dX12_readAct_95
      · exact rg_noE r_143 rl_107 c_173 (by decide)
    · refine lv_iload_n hx hb dX12_readAct_17 rfl (lv_at hl 0 rfl) ?_
      refine lv_bipush (v := 114) hx hb dX12_readAct_18 (by decide) ?_
      refine lv_icmp_eq (tgt := 50) hx hb dX12_readAct_20 (by decide) (fun c_460 => ?_) (fun c_460 => ?_)
      · have r_461 : rgI (114) (114) x_4 := rg_w (rg_eq rl_114 c_460) (by decide) (by decide)
        refine lv_aload_n hx hb dX12_readAct_50 rfl (lv_at hl 1 rfl) ?_
        refine lv_dup hx hb dX12_readAct_51 rfl ?_
        refine hg_get hx hb hG igX12 hown hK o_c_1 rfl 9 (by decide) (hG _ mw_1293) rfl dX12_readAct_52 ?_
        refine lv_iconst (v := 1) hx hb dX12_readAct_55 (by decide) ?_
        refine lv_iadd hx hb dX12_readAct_56 ?_
        refine lv_topi (fun x_462 ex_462 => ?_)
        have rx_462 : rgI (1) (81) x_462 := by rw [ex_462]; exact rg_w (rg_add r9 rl_1 (by decide) (by decide)) (by decide) (by decide)
        have qx_462 : x_462.toInt = ((G.1 109) : Int32).toInt + 1 := by rw [ex_462]; exact rg_addE r9 rl_1 (by decide) (by decide)
        have r9_463 : rgI 1 80 x_462 := at_up (h := 0) (here_lt (nh_eq hx_4.2 c_460 (by decide))) r7 r9 qx_462
        refine hg_put (ty := .int) hx hb hG igX12 tyX12 tyX12_ok nmX12 hown hK hS o_c_1 (AF.of k_h0) rfl 9 (by decide) (hG _ mw_1293) rfl (by decide +kernel) rfl rfl (Nat.le_of_ble_eq_true rfl) dX12_readAct_57 (fun H locs o_c_1 hz oq hS => ?_)
        obtain ⟨G_464, eG_464⟩ : ∃ z : Gh, z = gset G 109 x_462 := ⟨_, rfl⟩
        have hH : HT g Ty G_464 H := by rw [eG_464]; exact HT.putN 109 x_462 hH k_h0 ⟨rfl, t_2, hk_3⟩ o_c_1 oq (Or.inr (Or.inr (Or.inr (Or.inr (Or.inr ⟨by decide, t_2⟩)))))
        have fr_465 : FR [109, 110, 117] [(g.2.2 116), (g.2.2 130)] [] G G_464 := FR.n FR.rf eG_464 (by decide)
        have u_466 : G_464.1 107 = (G.1 107) := by rw [eG_464]; exact (gs_ne (by decide))
        have u_467 : G_464.1 108 = (G.1 108) := by rw [eG_464]; exact (gs_ne (by decide))
        have u_468 : G_464.1 110 = (G.1 110) := by rw [eG_464]; exact (gs_ne (by decide))
        have u_469 : G_464.1 117 = (G.1 117) := by rw [eG_464]; exact (gs_ne (by decide))
        have u_470 : G_464.1 109 = x_462 := by rw [eG_464]; exact gs_eq
        have w_471 : G_464.2.1 (g.2.2 116) = (G.2.1 (g.2.2 116)) := by rw [eG_464]; exact rfl
        have w_472 : G_464.2.1 (g.2.2 130) = (G.2.1 (g.2.2 130)) := by rw [eG_464]; exact rfl
        have u_473 : G_464.2.2 106 = some (g.2.2 101) := by rw [eG_464]; exact r6
        clear oq hz
        refine lv_aload_n hx hb dX12_readAct_60 rfl (lv_at hl 1 rfl) ?_
        obtain ⟨_, ⟨rfl, t_475, hk_476⟩, o_c_474⟩ := hH h0 _ k_h0
        refine hg_get hx hb hG igX12 hown hK o_c_474 rfl 30 (by decide) (hG _ mw_1314) rfl dX12_readAct_61 ?_
        refine lv_iload_n hx hb dX12_readAct_64 rfl (lv_at hl 2 rfl) ?_
        refine lv_iload_n hx hb dX12_readAct_65 rfl (lv_at hl 0 rfl) ?_
        obtain ⟨_, rfl, o_c_477⟩ := hH (g.2.2 130) _ hk_476.2.2.2.2.2.2.2.2.2.2.2.1
        have o_c_477 : va_at g.1 vwCl ((g.2.2 130), .inl (g.2.1 1, 320, .inl (G_464.2.1 (g.2.2 130)))) H := o_c_477
        refine hg_iast hx hb hK hS o_c_477 (AF.of hk_476.2.2.2.2.2.2.2.2.2.2.2.1) (rg_in (n := 320) pr0 (by decide) (by decide)) dX12_readAct_66 (fun H locs o_c_477 hz oq hS => ?_)
        obtain ⟨G_478, eG_478⟩ : ∃ z : Gh, z = aset G_464 (g.2.2 130) (upd (G_464.2.1 (g.2.2 130)) (a0 : Int32).toNatClampNeg x_4) := ⟨_, rfl⟩
        have hH : HT g Ty G_478 H := by rw [eG_478]; exact HT.putA (upd (G_464.2.1 (g.2.2 130)) (a0 : Int32).toNatClampNeg x_4) hH hk_476.2.2.2.2.2.2.2.2.2.2.2.1 cf30 o_c_477 oq
        obtain ⟨f_479, ef_479⟩ : ∃ z : Nat → Int32, z = (upd (G.2.1 (g.2.2 130)) (a0 : Int32).toNatClampNeg x_4) := ⟨_, rfl⟩
        have eaf_479 : G_478 = aset G_464 (g.2.2 130) f_479 := by rw [eG_478, ef_479, w_472]
        have fr_480 : FR [109, 110, 117] [(g.2.2 116), (g.2.2 130)] [] G G_478 := FR.a fr_465 eaf_479 (fun b h => h.2.1)
        have u_481 : G_478.1 107 = (G.1 107) := by rw [eaf_479]; exact u_466
        have u_482 : G_478.1 108 = (G.1 108) := by rw [eaf_479]; exact u_467
        have u_483 : G_478.1 110 = (G.1 110) := by rw [eaf_479]; exact u_468
        have u_484 : G_478.1 117 = (G.1 117) := by rw [eaf_479]; exact u_469
        have u_485 : G_478.1 109 = x_462 := by rw [eaf_479]; exact u_470
        have w_486 : G_478.2.1 (g.2.2 116) = (G.2.1 (g.2.2 116)) := by rw [eaf_479]; exact (aset_ne (ne_kd hmk.2.2.2.2.1 hmk.2.2.2.2.2.2.2.2.2.2.2.1 (by decide))).trans w_471
        have w_487 : G_478.2.1 (g.2.2 130) = f_479 := by rw [eaf_479]; exact aset_eq
        have u_488 : G_478.2.2 106 = some (g.2.2 101) := by rw [eaf_479]; exact u_473
        clear oq hz
        have ac_489 := ac_s (fun _ _ => rfl) ef_479 (show a0.toNatClampNeg = a0.toNatClampNeg + 0 from rfl) (by decide)
        have av_490 : f_479 (a0.toNatClampNeg + 0) = x_4 := ac_v ef_479 (show a0.toNatClampNeg = a0.toNatClampNeg + 0 from rfl)
        refine lv_iload_n hx hb dX12_readAct_67 rfl (lv_at hl 0 rfl) ?_
        refine lv_bipush (v := 107) hx hb dX12_readAct_68 (by decide) ?_
        refine lv_icmp_ne (tgt := 88) hx hb dX12_readAct_70 (by decide) (fun c_491 => ?_) (fun c_491 => ?_)
        · refine lv_aload_n hx hb dX12_readAct_88 rfl (lv_at hl 1 rfl) ?_
          obtain ⟨_, ⟨rfl, t_493, hk_494⟩, o_c_492⟩ := hH h0 _ k_h0
          refine vp_callSi (W.runV (As := []) (rest := []) ⟨hx, hb, hml, hown, hts⟩ (c_X12_fine_p l g Ty G_478 h0 k_h0 (g.2.2 101) 80 (G_478.2.1 (g.2.2 101)) (G_478.2.1 (g.2.2 115)) (G.1 107) (G.1 108) (G_478.1 114) 80 x_462 (G.1 110) ⟨u_488, hmk.2.1, rfl, (fun _ _ => rfl), u_481, u_482, rfl, u_485, u_483, (rg_w r7 (by decide) (by decide)), by decide, Or.inl (show ((G.1 107) : Int32).toInt ≤ 80 from (rg_w (a2 := 0) (b2 := 80) r7 (by decide) (by decide)).2), by decide, by decide, (rg_w r9_463 (by decide) (by decide))⟩) (cwV 0 hts (gwV mw_1463 mw_1465 mw_39 mw_88 mw_1466) rfl rfl rfl hv_X12_fine ⟨Nat.le_of_ble_eq_true rfl, Nat.le_of_ble_eq_true rfl⟩) ⟨PcH_blind, hg_recv hK o_c_492 rfl, PcH_pre hK hH⟩ rfl rfl hl.1 rfl (lv_room (Nat.le_of_ble_eq_true rfl)) dX12_readAct_89 ⟨Nat.zero_le _, Nat.zero_le _⟩) (fun x_495 hx_495 => ?_)
          have rx_495 : rgI (0) (1) x_495 := hx_495.1
          refine lv_if_ne (tgt := 96) hx hb dX12_readAct_92 (by decide) (fun c_496 => ?_) (fun c_496 => ?_)
          · have r_497 : rgI (1) (1) x_495 := rg_w (rg_neL rx_495 rl_0 c_496) (by decide) (by decide)
            refine lv_aload_n hx hb dX12_readAct_96 rfl (lv_at hl 1 rfl) ?_
            refine hg_get hx hb hG igX12 hown hK o_c_492 rfl 30 (by decide) (hG _ mw_1314) rfl dX12_readAct_97 ?_
            refine lv_iload_n hx hb dX12_readAct_100 rfl (lv_at hl 2 rfl) ?_
            refine lv_iconst (v := 1) hx hb dX12_readAct_101 (by decide) ?_
            refine lv_iadd hx hb dX12_readAct_102 ?_
            refine lv_topi (fun x_498 ex_498 => ?_)
            have rx_498 : rgI (1) (317) x_498 := by rw [ex_498]; exact rg_w (rg_add pr0 rl_1 (by decide) (by decide)) (by decide) (by decide)
            have qx_498 : x_498.toInt = (a0 : Int32).toInt + 1 := by rw [ex_498]; exact rg_addE pr0 rl_1 (by decide) (by decide)
            refine lv_aload_n hx hb dX12_readAct_103 rfl (lv_at hl 1 rfl) ?_
            have hlm_499 : 0 ≤ ((G.1 117) : Int32).toInt ∧ ((G.1 117) : Int32).toInt ≤ (x_462 : Int32).toInt + 1 := ⟨by have z0 := hlm.1; have z1 := hlm.2; have z2 := qx_462; omega, by have z0 := hlm.1; have z1 := hlm.2; have z2 := qx_462; omega⟩
            refine va_calli (va_runV (As := []) (rest := [.int x_498, .ref (g.2.2 130)]) ⟨hx, hb, hml, hown, hts⟩ (c_X12_readPath l g Ty G_478 H.size h0 k_h0 u_488 (by rw [u_481]; exact (rg_w r7 (by decide) (by decide))) (by rw [u_485]; exact (rg_w r9_463 (by decide) (by decide))) (by rw [u_483]; exact w0) hLD (by rw [u_484, u_485]; exact hlm_499)) (cwV 0 hts (gwV mw_1498 mw_1500 mw_46 mw_88 mw_1501) rfl rfl rfl hv_X12_readPath ⟨Nat.le_of_ble_eq_true rfl, Nat.le_of_ble_eq_true rfl⟩) ⟨PcT_blind, hg_recv hK o_c_492 rfl, PcT_pre hK hH⟩ rfl rfl hl.1 rfl (lv_room (Nat.le_of_ble_eq_true rfl)) dX12_readAct_104 ⟨Nat.zero_le _, Nat.zero_le _⟩) hS (fun q _ h => AF.mono hS.1 h) (fun q h => AF.mono hS.1 h) (fun x_500 ux_500 t H locs ht hvm hx_500 hB hz hk hS => ?_)
            obtain ⟨eTx_500, eGx_500⟩ := hx_500
            obtain ⟨G_501, eG_501⟩ : ∃ z, z = ux_500.2 := ⟨_, rfl⟩
            rw [← eG_501] at eGx_500
            obtain ⟨hfr_502, hex_503⟩ := eGx_500
            have fr_504 : FR [109, 110, 117] [(g.2.2 116), (g.2.2 130)] [] G G_501 := FR.tr fr_480 hfr_502 (by decide) (fun b h => ⟨h.1, trivial⟩) (by decide)
            have u_505 : G_501.1 107 = (G.1 107) := (hfr_502.1 107 (by decide)).trans u_481
            have u_506 : G_501.1 108 = (G.1 108) := (hfr_502.1 108 (by decide)).trans u_482
            have w_507 : G_501.2.1 (g.2.2 130) = f_479 := (hfr_502.2.1 (g.2.2 130) ⟨(ne_kd hmk.2.2.2.2.2.2.2.2.2.2.2.1 hmk.2.2.2.2.1 (by decide)), trivial⟩).trans w_487
            have u_508 : G_501.2.2 106 = some (g.2.2 101) := (hfr_502.2.2 106 (by decide)).trans u_488
            obtain ⟨f_509, ef_509⟩ : ∃ z : Nat → Int32, G_501.2.1 (g.2.2 116) = z := ⟨_, rfl⟩
            obtain ⟨xl_510, exl_510⟩ : ∃ z : Int32, G_501.1 117 = z := ⟨_, rfl⟩
            obtain ⟨xa_511, exa_511⟩ : ∃ z : Int32, G_501.1 109 = z := ⟨_, rfl⟩
            obtain ⟨xw_512, exw_512⟩ : ∃ z : Int32, G_501.1 110 = z := ⟨_, rfl⟩
            have rp_513 := hex_503
            rw [ef_509, exl_510, exa_511, exw_512, w_486, u_484, u_485] at rp_513
            have hH : HT g Ty G_501 H := by rw [← ht, ← eTx_500, eG_501]; exact hB
            have t_514 := rp_513.1.2.2.1
            have t_515 := rp_513.1.2.2.2.1
            have t_516 := rp_513.2.2.2.1
            obtain ⟨_, rfl, o_c_517⟩ := hH (g.2.2 130) _ hk_494.2.2.2.2.2.2.2.2.2.2.2.1
            have o_c_517 : va_at g.1 vwCl ((g.2.2 130), .inl (g.2.1 1, 320, .inl (G_501.2.1 (g.2.2 130)))) H := o_c_517
            refine hg_iast hx hb hK hS o_c_517 (AF.of hk_494.2.2.2.2.2.2.2.2.2.2.2.1) (rg_in (n := 320) rx_498 (by decide) (by decide)) dX12_readAct_107 (fun H locs o_c_517 hz oq hS => ?_)
            obtain ⟨G_518, eG_518⟩ : ∃ z : Gh, z = aset G_501 (g.2.2 130) (upd (G_501.2.1 (g.2.2 130)) (x_498 : Int32).toNatClampNeg x_500) := ⟨_, rfl⟩
            have hH : HT g Ty G_518 H := by rw [eG_518]; exact HT.putA (upd (G_501.2.1 (g.2.2 130)) (x_498 : Int32).toNatClampNeg x_500) hH hk_494.2.2.2.2.2.2.2.2.2.2.2.1 cf30 o_c_517 oq
            obtain ⟨f_519, ef_519⟩ : ∃ z : Nat → Int32, z = (upd f_479 (x_498 : Int32).toNatClampNeg x_500) := ⟨_, rfl⟩
            have eaf_519 : G_518 = aset G_501 (g.2.2 130) f_519 := by rw [eG_518, ef_519, w_507]
            have fr_520 : FR [109, 110, 117] [(g.2.2 116), (g.2.2 130)] [] G G_518 := FR.a fr_504 eaf_519 (fun b h => h.2.1)
            have u_521 : G_518.1 107 = (G.1 107) := by rw [eaf_519]; exact u_505
            have u_522 : G_518.1 108 = (G.1 108) := by rw [eaf_519]; exact u_506
            have u_523 : G_518.1 109 = xa_511 := by rw [eaf_519]; exact exa_511
            have u_524 : G_518.1 110 = xw_512 := by rw [eaf_519]; exact exw_512
            have u_525 : G_518.1 117 = xl_510 := by rw [eaf_519]; exact exl_510
            have w_526 : G_518.2.1 (g.2.2 130) = f_519 := by rw [eaf_519]; exact aset_eq
            have w_527 : G_518.2.1 (g.2.2 116) = f_509 := by rw [eaf_519]; exact (aset_ne (ne_kd hmk.2.2.2.2.1 hmk.2.2.2.2.2.2.2.2.2.2.2.1 (by decide))).trans ef_509
            have u_528 : G_518.2.2 106 = some (g.2.2 101) := by rw [eaf_519]; exact u_508
            clear oq hz
            have ac_529 := ac_s ac_489 ef_519 (ai_d ex_498 pr0 rfl (by decide)) (by decide)
            have av_530 : f_519 (a0.toNatClampNeg + 0) = x_4 := ac_k av_490 ef_519 (ai_d ex_498 pr0 rfl (by decide)) (by decide)
            have av_531 : f_519 (a0.toNatClampNeg + 1) = x_500 := ac_v ef_519 (ai_d ex_498 pr0 rfl (by decide))
            refine lv_aload_n hx hb dX12_readAct_108 rfl (lv_at hl 1 rfl) ?_
            obtain ⟨_, ⟨rfl, t_533, hk_534⟩, o_c_532⟩ := hH h0 _ k_h0
            refine vp_callSi (W.runV (As := []) (rest := []) ⟨hx, hb, hml, hown, hts⟩ (c_X12_fine_p l g Ty G_518 h0 k_h0 (g.2.2 101) 80 (G_518.2.1 (g.2.2 101)) (G_518.2.1 (g.2.2 115)) (G.1 107) (G.1 108) (G_518.1 114) 80 xa_511 xw_512 ⟨u_528, hmk.2.1, rfl, (fun _ _ => rfl), u_521, u_522, rfl, u_523, u_524, (rg_w r7 (by decide) (by decide)), by decide, Or.inl (show ((G.1 107) : Int32).toInt ≤ 80 from (rg_w (a2 := 0) (b2 := 80) r7 (by decide) (by decide)).2), by decide, by decide, (rg_w rp_513.2.2.1 (by decide) (by decide))⟩) (cwV 0 hts (gwV mw_1463 mw_1465 mw_39 mw_88 mw_1466) rfl rfl rfl hv_X12_fine ⟨Nat.le_of_ble_eq_true rfl, Nat.le_of_ble_eq_true rfl⟩) ⟨PcH_blind, hg_recv hK o_c_532 rfl, PcH_pre hK hH⟩ rfl rfl hl.1 rfl (lv_room (Nat.le_of_ble_eq_true rfl)) dX12_readAct_109 ⟨Nat.zero_le _, Nat.zero_le _⟩) (fun x_535 hx_535 => ?_)
            have rx_535 : rgI (0) (1) x_535 := hx_535.1
            refine lv_if_eq (tgt := 170) hx hb dX12_readAct_112 (by decide) (fun c_536 => ?_) (fun c_536 => ?_)
            · have r_537 : rgI (0) (0) x_535 := rg_w (rg_eq rl_0 c_536) (by decide) (by decide)
              refine lv_aload_n hx hb dX12_readAct_170 rfl (lv_at hl 1 rfl) ?_
              refine vp_callSi (W.runV (As := []) (rest := []) ⟨hx, hb, hml, hown, hts⟩ (c_X12_fine_p l g Ty G_518 h0 k_h0 (g.2.2 101) 80 (G_518.2.1 (g.2.2 101)) (G_518.2.1 (g.2.2 115)) (G.1 107) (G.1 108) (G_518.1 114) 80 xa_511 xw_512 ⟨u_528, hmk.2.1, rfl, (fun _ _ => rfl), u_521, u_522, rfl, u_523, u_524, (rg_w r7 (by decide) (by decide)), by decide, Or.inl (show ((G.1 107) : Int32).toInt ≤ 80 from (rg_w (a2 := 0) (b2 := 80) r7 (by decide) (by decide)).2), by decide, by decide, (rg_w rp_513.2.2.1 (by decide) (by decide))⟩) (cwV 0 hts (gwV mw_1463 mw_1465 mw_39 mw_88 mw_1466) rfl rfl rfl hv_X12_fine ⟨Nat.le_of_ble_eq_true rfl, Nat.le_of_ble_eq_true rfl⟩) ⟨PcH_blind, hg_recv hK o_c_532 rfl, PcH_pre hK hH⟩ rfl rfl hl.1 rfl (lv_room (Nat.le_of_ble_eq_true rfl)) dX12_readAct_171 ⟨Nat.zero_le _, Nat.zero_le _⟩) (fun x_538 hx_538 => ?_)
              have rx_538 : rgI (0) (1) x_538 := hx_538.1
              refine lv_if_eq (tgt := 194) hx hb dX12_readAct_174 (by decide) (fun c_539 => ?_) (fun c_539 => ?_)
              · have r_540 : rgI (0) (0) x_538 := rg_w (rg_eq rl_0 c_539) (by decide) (by decide)
                exact W.vret hx hb hr (fun t ht hWm => ⟨⟨(Ty, G_518), rfl, ⟨rfl, ⟨fr_520, (by rw [w_527, w_526, u_525, u_523, u_524]; exact ⟨by have z0 := hlm.1; have z1 := hlm.2; have z2 := qx_462; have z3 := t_514; have z4 := t_515; have z5 := t_516; omega, rp_513.1.1, ac_529, by have z0 := hlm.1; have z1 := hlm.2; have z2 := qx_462; have z3 := t_514; have z4 := t_515; have z5 := t_516; omega, (rg_w rp_513.2.2.1 (by decide) (by decide)), rp_513.2.1, by have z0 := hlm.1; have z1 := hlm.2; have z2 := qx_462; have z3 := t_514; have z4 := t_515; have z5 := t_516; omega, (fun q => absurd q (fin_0 hx_538.2 c_539))⟩)⟩⟩, by show HT g Ty G_518 t.heap; rw [ht]; exact hH⟩, hS.F ht⟩) hS.2.2 dX12_readAct_194
              · have r_541 : rgI (1) (1) x_538 := rg_w (rg_neL rx_538 rl_0 c_539) (by decide) (by decide)
                exact absurd (fin_1 hx_538.2 c_539) (fin_0 hx_535.2 c_536)
            · have r_542 : rgI (1) (1) x_535 := rg_w (rg_neL rx_535 rl_0 c_536) (by decide) (by decide)
              have t_543 := rp_513.1.2.2.2.2 (fin_1 hx_535.2 c_536)
              refine lv_iload_n hx hb dX12_readAct_115 rfl (lv_at hl 0 rfl) ?_
              refine lv_bipush (v := 98) hx hb dX12_readAct_116 (by decide) ?_
              refine lv_icmp_eq (tgt := 133) hx hb dX12_readAct_118 (by decide) (fun c_544 => ?_) (fun c_544 => ?_)
              · exact rg_noE r_461 rl_98 c_544 (by decide)
              · refine lv_iload_n hx hb dX12_readAct_121 rfl (lv_at hl 0 rfl) ?_
                refine lv_bipush (v := 114) hx hb dX12_readAct_122 (by decide) ?_
                refine lv_icmp_eq (tgt := 133) hx hb dX12_readAct_124 (by decide) (fun c_545 => ?_) (fun c_545 => ?_)
                · refine lv_aload_n hx hb dX12_readAct_133 rfl (lv_at hl 1 rfl) ?_
                  refine lv_bipush (v := 58) hx hb dX12_readAct_134 (by decide) ?_
                  refine va_calli (va_runV (As := [.int 58]) (rest := []) ⟨hx, hb, hml, hown, hts⟩ (c_X12_passes l g Ty G_518 H.size h0 58 k_h0 (rg_w rl_58 (by decide) (by decide)) (g.2.2 101) 80 (G_518.2.1 (g.2.2 101)) (G_518.2.1 (g.2.2 115)) (G.1 107) (G.1 108) (G_518.1 114) 80 xa_511 xw_512 ⟨u_528, hmk.2.1, rfl, (fun _ _ => rfl), u_521, u_522, rfl, u_523, u_524, (rg_w r7 (by decide) (by decide)), by decide, Or.inl (show ((G.1 107) : Int32).toInt ≤ 80 from (rg_w (a2 := 0) (b2 := 80) r7 (by decide) (by decide)).2), by decide, by decide, (rg_w rp_513.2.2.1 (by decide) (by decide))⟩) (cwV 1 hts (gwV mw_1459 mw_1461 mw_38 mw_88 mw_1462) rfl rfl rfl hv_X12_passes ⟨Nat.le_of_ble_eq_true rfl, Nat.le_of_ble_eq_true rfl⟩) ⟨PcT_blind, hg_recv hK o_c_532 rfl, PcT_pre hK hH⟩ rfl rfl hl.1 rfl (lv_room (Nat.le_of_ble_eq_true rfl)) dX12_readAct_136 ⟨Nat.zero_le _, Nat.zero_le _⟩) hS (fun q _ h => AF.mono hS.1 h) (fun q h => AF.mono hS.1 h) (fun x_546 ux_546 t H locs ht hvm hx_546 hB hz hk hS => ?_)
                  obtain ⟨hx_546, fx_546⟩ := hx_546
                  obtain ⟨eTx_546, eGx_546⟩ := fx_546
                  obtain ⟨G_547, eG_547⟩ : ∃ z, z = ux_546.2 := ⟨_, rfl⟩
                  rw [← eG_547] at eGx_546
                  have pq_548 := pas_pr eGx_546 (rg_w rp_513.2.2.1 (by decide) (by decide))
                  obtain ⟨hr_549, hg_550, hm_551, hq_552⟩ := eGx_546
                  have hfr_553 : FR [109, 110] [] [] G_518 G_547 := FR.ps FR.rf hg_550 (by decide) (by decide)
                  have fr_554 : FR [109, 110, 117] [(g.2.2 116), (g.2.2 130)] [] G G_547 := FR.tr fr_520 hfr_553 (by decide) (fun _ _ => trivial) (by decide)
                  have u_555 : G_547.1 107 = (G.1 107) := (hfr_553.1 107 (by decide)).trans u_521
                  have u_556 : G_547.1 108 = (G.1 108) := (hfr_553.1 108 (by decide)).trans u_522
                  have u_557 : G_547.1 117 = xl_510 := (hfr_553.1 117 (by decide)).trans u_525
                  have w_558 : G_547.2.1 (g.2.2 130) = f_519 := (hfr_553.2.1 (g.2.2 130) trivial).trans w_526
                  have w_559 : G_547.2.1 (g.2.2 116) = f_509 := (hfr_553.2.1 (g.2.2 116) trivial).trans w_527
                  have u_560 : G_547.2.2 106 = some (g.2.2 101) := (hfr_553.2.2 106 (by decide)).trans u_528
                  obtain ⟨xw_561, exw_561⟩ : ∃ z : Int32, G_547.1 110 = z := ⟨_, rfl⟩
                  obtain ⟨xa_562, exa_562⟩ : ∃ z : Int32, G_547.1 109 = z := ⟨_, rfl⟩
                  have r9_563 : rgI 0 80 xa_562 := by rw [← exa_562, pst109 hg_550]; exact hq_552
                  rw [exa_562, exw_561] at pq_548
                  have hH : HT g Ty G_547 H := by rw [← ht, ← eTx_546, eG_547]; exact hB
                  have rx_546 : rgI (0) (1) x_546 := hx_546.1
                  refine lv_if_ne (tgt := 150) hx hb dX12_readAct_139 (by decide) (fun c_564 => ?_) (fun c_564 => ?_)
                  · have r_565 : rgI (1) (1) x_546 := rg_w (rg_neL rx_546 rl_0 c_564) (by decide) (by decide)
                    have t_566 := (pq_548.2.resolve_left (fun z => c_564 z.1)).2.1
                    refine lv_aload_n hx hb dX12_readAct_150 rfl (lv_at hl 1 rfl) ?_
                    obtain ⟨_, ⟨rfl, t_568, hk_569⟩, o_c_567⟩ := hH h0 _ k_h0
                    refine vp_callSi (W.runV (As := []) (rest := []) ⟨hx, hb, hml, hown, hts⟩ (c_X12_fine_p l g Ty G_547 h0 k_h0 (g.2.2 101) 80 (G_547.2.1 (g.2.2 101)) (G_547.2.1 (g.2.2 115)) (G.1 107) (G.1 108) (G_547.1 114) 80 xa_562 xw_561 ⟨u_560, hmk.2.1, rfl, (fun _ _ => rfl), u_555, u_556, rfl, exa_562, exw_561, (rg_w r7 (by decide) (by decide)), by decide, Or.inl (show ((G.1 107) : Int32).toInt ≤ 80 from (rg_w (a2 := 0) (b2 := 80) r7 (by decide) (by decide)).2), by decide, by decide, (rg_w r9_563 (by decide) (by decide))⟩) (cwV 0 hts (gwV mw_1463 mw_1465 mw_39 mw_88 mw_1466) rfl rfl rfl hv_X12_fine ⟨Nat.le_of_ble_eq_true rfl, Nat.le_of_ble_eq_true rfl⟩) ⟨PcH_blind, hg_recv hK o_c_567 rfl, PcH_pre hK hH⟩ rfl rfl hl.1 rfl (lv_room (Nat.le_of_ble_eq_true rfl)) dX12_readAct_151 ⟨Nat.zero_le _, Nat.zero_le _⟩) (fun x_570 hx_570 => ?_)
                    have rx_570 : rgI (0) (1) x_570 := hx_570.1
                    refine lv_if_ne (tgt := 158) hx hb dX12_readAct_154 (by decide) (fun c_571 => ?_) (fun c_571 => ?_)
                    · have r_572 : rgI (1) (1) x_570 := rg_w (rg_neL rx_570 rl_0 c_571) (by decide) (by decide)
                      refine lv_aload_n hx hb dX12_readAct_158 rfl (lv_at hl 1 rfl) ?_
                      refine hg_get hx hb hG igX12 hown hK o_c_567 rfl 30 (by decide) (hG _ mw_1314) rfl dX12_readAct_159 ?_
                      refine lv_iload_n hx hb dX12_readAct_162 rfl (lv_at hl 2 rfl) ?_
                      refine lv_iconst (v := 2) hx hb dX12_readAct_163 (by decide) ?_
                      refine lv_iadd hx hb dX12_readAct_164 ?_
                      refine lv_topi (fun x_573 ex_573 => ?_)
                      have rx_573 : rgI (2) (318) x_573 := by rw [ex_573]; exact rg_w (rg_add pr0 rl_2 (by decide) (by decide)) (by decide) (by decide)
                      have qx_573 : x_573.toInt = (a0 : Int32).toInt + 2 := by rw [ex_573]; exact rg_addE pr0 rl_2 (by decide) (by decide)
                      refine lv_aload_n hx hb dX12_readAct_165 rfl (lv_at hl 1 rfl) ?_
                      have hlm_574 : 0 ≤ (xl_510 : Int32).toInt ∧ (xl_510 : Int32).toInt ≤ (xa_562 : Int32).toInt + 1 := ⟨by have z0 := hlm.1; have z1 := hlm.2; have z2 := qx_462; have z3 := t_514; have z4 := t_515; have z5 := t_516; have z6 := t_543; have z7 := t_566; omega, by have z0 := hlm.1; have z1 := hlm.2; have z2 := qx_462; have z3 := t_514; have z4 := t_515; have z5 := t_516; have z6 := t_543; have z7 := t_566; omega⟩
                      refine va_calli (va_runV (As := []) (rest := [.int x_573, .ref (g.2.2 130)]) ⟨hx, hb, hml, hown, hts⟩ (c_X12_readPath l g Ty G_547 H.size h0 k_h0 u_560 (by rw [u_555]; exact (rg_w r7 (by decide) (by decide))) (by rw [exa_562]; exact (rg_w r9_563 (by decide) (by decide))) (by rw [exw_561]; exact (by rw [pq_548.1]; exact rp_513.2.1)) hLD (by rw [u_557, exa_562]; exact hlm_574)) (cwV 0 hts (gwV mw_1498 mw_1500 mw_46 mw_88 mw_1501) rfl rfl rfl hv_X12_readPath ⟨Nat.le_of_ble_eq_true rfl, Nat.le_of_ble_eq_true rfl⟩) ⟨PcT_blind, hg_recv hK o_c_567 rfl, PcT_pre hK hH⟩ rfl rfl hl.1 rfl (lv_room (Nat.le_of_ble_eq_true rfl)) dX12_readAct_166 ⟨Nat.zero_le _, Nat.zero_le _⟩) hS (fun q _ h => AF.mono hS.1 h) (fun q h => AF.mono hS.1 h) (fun x_575 ux_575 t H locs ht hvm hx_575 hB hz hk hS => ?_)
                      obtain ⟨eTx_575, eGx_575⟩ := hx_575
                      obtain ⟨G_576, eG_576⟩ : ∃ z, z = ux_575.2 := ⟨_, rfl⟩
                      rw [← eG_576] at eGx_575
                      obtain ⟨hfr_577, hex_578⟩ := eGx_575
                      have fr_579 : FR [109, 110, 117] [(g.2.2 116), (g.2.2 130)] [] G G_576 := FR.tr fr_554 hfr_577 (by decide) (fun b h => ⟨h.1, trivial⟩) (by decide)
                      have u_580 : G_576.1 107 = (G.1 107) := (hfr_577.1 107 (by decide)).trans u_555
                      have u_581 : G_576.1 108 = (G.1 108) := (hfr_577.1 108 (by decide)).trans u_556
                      have w_582 : G_576.2.1 (g.2.2 130) = f_519 := (hfr_577.2.1 (g.2.2 130) ⟨(ne_kd hmk.2.2.2.2.2.2.2.2.2.2.2.1 hmk.2.2.2.2.1 (by decide)), trivial⟩).trans w_558
                      have u_583 : G_576.2.2 106 = some (g.2.2 101) := (hfr_577.2.2 106 (by decide)).trans u_560
                      obtain ⟨f_584, ef_584⟩ : ∃ z : Nat → Int32, G_576.2.1 (g.2.2 116) = z := ⟨_, rfl⟩
                      obtain ⟨xl_585, exl_585⟩ : ∃ z : Int32, G_576.1 117 = z := ⟨_, rfl⟩
                      obtain ⟨xa_586, exa_586⟩ : ∃ z : Int32, G_576.1 109 = z := ⟨_, rfl⟩
                      obtain ⟨xw_587, exw_587⟩ : ∃ z : Int32, G_576.1 110 = z := ⟨_, rfl⟩
                      have rp_588 := hex_578
                      rw [ef_584, exl_585, exa_586, exw_587, w_559, u_557, exa_562] at rp_588
                      have hH : HT g Ty G_576 H := by rw [← ht, ← eTx_575, eG_576]; exact hB
                      have t_589 := rp_588.1.2.2.1
                      have t_590 := rp_588.1.2.2.2.1
                      have t_591 := rp_588.2.2.2.1
                      obtain ⟨_, rfl, o_c_592⟩ := hH (g.2.2 130) _ hk_569.2.2.2.2.2.2.2.2.2.2.2.1
                      have o_c_592 : va_at g.1 vwCl ((g.2.2 130), .inl (g.2.1 1, 320, .inl (G_576.2.1 (g.2.2 130)))) H := o_c_592
                      refine hg_iast hx hb hK hS o_c_592 (AF.of hk_569.2.2.2.2.2.2.2.2.2.2.2.1) (rg_in (n := 320) rx_573 (by decide) (by decide)) dX12_readAct_169 (fun H locs o_c_592 hz oq hS => ?_)
                      obtain ⟨G_593, eG_593⟩ : ∃ z : Gh, z = aset G_576 (g.2.2 130) (upd (G_576.2.1 (g.2.2 130)) (x_573 : Int32).toNatClampNeg x_575) := ⟨_, rfl⟩
                      have hH : HT g Ty G_593 H := by rw [eG_593]; exact HT.putA (upd (G_576.2.1 (g.2.2 130)) (x_573 : Int32).toNatClampNeg x_575) hH hk_569.2.2.2.2.2.2.2.2.2.2.2.1 cf30 o_c_592 oq
                      obtain ⟨f_594, ef_594⟩ : ∃ z : Nat → Int32, z = (upd f_519 (x_573 : Int32).toNatClampNeg x_575) := ⟨_, rfl⟩
                      have eaf_594 : G_593 = aset G_576 (g.2.2 130) f_594 := by rw [eG_593, ef_594, w_582]
                      have fr_595 : FR [109, 110, 117] [(g.2.2 116), (g.2.2 130)] [] G G_593 := FR.a fr_579 eaf_594 (fun b h => h.2.1)
                      have u_596 : G_593.1 107 = (G.1 107) := by rw [eaf_594]; exact u_580
                      have u_597 : G_593.1 108 = (G.1 108) := by rw [eaf_594]; exact u_581
                      have u_598 : G_593.1 109 = xa_586 := by rw [eaf_594]; exact exa_586
                      have u_599 : G_593.1 110 = xw_587 := by rw [eaf_594]; exact exw_587
                      have u_600 : G_593.1 117 = xl_585 := by rw [eaf_594]; exact exl_585
                      have w_601 : G_593.2.1 (g.2.2 130) = f_594 := by rw [eaf_594]; exact aset_eq
                      have w_602 : G_593.2.1 (g.2.2 116) = f_584 := by rw [eaf_594]; exact (aset_ne (ne_kd hmk.2.2.2.2.1 hmk.2.2.2.2.2.2.2.2.2.2.2.1 (by decide))).trans ef_584
                      have u_603 : G_593.2.2 106 = some (g.2.2 101) := by rw [eaf_594]; exact u_583
                      clear oq hz
                      have ac_604 := ac_s ac_529 ef_594 (ai_d ex_573 pr0 rfl (by decide)) (by decide)
                      have av_605 : f_594 (a0.toNatClampNeg + 0) = x_4 := ac_k av_530 ef_594 (ai_d ex_573 pr0 rfl (by decide)) (by decide)
                      have av_606 : f_594 (a0.toNatClampNeg + 1) = x_500 := ac_k av_531 ef_594 (ai_d ex_573 pr0 rfl (by decide)) (by decide)
                      have av_607 : f_594 (a0.toNatClampNeg + 2) = x_575 := ac_v ef_594 (ai_d ex_573 pr0 rfl (by decide))
                      refine lv_aload_n hx hb dX12_readAct_170 rfl (lv_at hl 1 rfl) ?_
                      obtain ⟨_, ⟨rfl, t_609, hk_610⟩, o_c_608⟩ := hH h0 _ k_h0
                      refine vp_callSi (W.runV (As := []) (rest := []) ⟨hx, hb, hml, hown, hts⟩ (c_X12_fine_p l g Ty G_593 h0 k_h0 (g.2.2 101) 80 (G_593.2.1 (g.2.2 101)) (G_593.2.1 (g.2.2 115)) (G.1 107) (G.1 108) (G_593.1 114) 80 xa_586 xw_587 ⟨u_603, hmk.2.1, rfl, (fun _ _ => rfl), u_596, u_597, rfl, u_598, u_599, (rg_w r7 (by decide) (by decide)), by decide, Or.inl (show ((G.1 107) : Int32).toInt ≤ 80 from (rg_w (a2 := 0) (b2 := 80) r7 (by decide) (by decide)).2), by decide, by decide, (rg_w rp_588.2.2.1 (by decide) (by decide))⟩) (cwV 0 hts (gwV mw_1463 mw_1465 mw_39 mw_88 mw_1466) rfl rfl rfl hv_X12_fine ⟨Nat.le_of_ble_eq_true rfl, Nat.le_of_ble_eq_true rfl⟩) ⟨PcH_blind, hg_recv hK o_c_608 rfl, PcH_pre hK hH⟩ rfl rfl hl.1 rfl (lv_room (Nat.le_of_ble_eq_true rfl)) dX12_readAct_171 ⟨Nat.zero_le _, Nat.zero_le _⟩) (fun x_611 hx_611 => ?_)
                      have rx_611 : rgI (0) (1) x_611 := hx_611.1
                      refine lv_if_eq (tgt := 194) hx hb dX12_readAct_174 (by decide) (fun c_612 => ?_) (fun c_612 => ?_)
                      · have r_613 : rgI (0) (0) x_611 := rg_w (rg_eq rl_0 c_612) (by decide) (by decide)
                        exact W.vret hx hb hr (fun t ht hWm => ⟨⟨(Ty, G_593), rfl, ⟨rfl, ⟨fr_595, (by rw [w_602, w_601, u_600, u_598, u_599]; exact ⟨by have z0 := hlm.1; have z1 := hlm.2; have z2 := qx_462; have z3 := t_514; have z4 := t_515; have z5 := t_516; have z6 := t_543; have z7 := t_566; have z8 := t_589; have z9 := t_590; have z10 := t_591; omega, (fun j hj => (rp_588.1.1 j (by have z0 := hlm.1; have z1 := hlm.2; have z2 := qx_462; have z3 := t_514; have z4 := t_515; have z5 := t_516; have z6 := t_543; have z7 := t_566; have z8 := t_589; have z9 := t_590; have z10 := t_591; have z11 := hj; omega)).trans (rp_513.1.1 j hj)), ac_604, by have z0 := hlm.1; have z1 := hlm.2; have z2 := qx_462; have z3 := t_514; have z4 := t_515; have z5 := t_516; have z6 := t_543; have z7 := t_566; have z8 := t_589; have z9 := t_590; have z10 := t_591; omega, (rg_w rp_588.2.2.1 (by decide) (by decide)), rp_588.2.1, by have z0 := hlm.1; have z1 := hlm.2; have z2 := qx_462; have z3 := t_514; have z4 := t_515; have z5 := t_516; have z6 := t_543; have z7 := t_566; have z8 := t_589; have z9 := t_590; have z10 := t_591; omega, (fun q => absurd q (fin_0 hx_611.2 c_612))⟩)⟩⟩, by show HT g Ty G_593 t.heap; rw [ht]; exact hH⟩, hS.F ht⟩) hS.2.2 dX12_readAct_194
                      · have r_614 : rgI (1) (1) x_611 := rg_w (rg_neL rx_611 rl_0 c_612) (by decide) (by decide)
                        have t_615 := rp_588.1.2.2.2.2 (fin_1 hx_611.2 c_612)
                        refine lv_aload_n hx hb dX12_readAct_177 rfl (lv_at hl 1 rfl) ?_
                        refine lv_bipush (v := 46) hx hb dX12_readAct_178 (by decide) ?_
                        refine va_calli (va_runV (As := [.int 46]) (rest := []) ⟨hx, hb, hml, hown, hts⟩ (c_X12_passes l g Ty G_593 H.size h0 46 k_h0 (rg_w rl_46 (by decide) (by decide)) (g.2.2 101) 80 (G_593.2.1 (g.2.2 101)) (G_593.2.1 (g.2.2 115)) (G.1 107) (G.1 108) (G_593.1 114) 80 xa_586 xw_587 ⟨u_603, hmk.2.1, rfl, (fun _ _ => rfl), u_596, u_597, rfl, u_598, u_599, (rg_w r7 (by decide) (by decide)), by decide, Or.inl (show ((G.1 107) : Int32).toInt ≤ 80 from (rg_w (a2 := 0) (b2 := 80) r7 (by decide) (by decide)).2), by decide, by decide, (rg_w rp_588.2.2.1 (by decide) (by decide))⟩) (cwV 1 hts (gwV mw_1459 mw_1461 mw_38 mw_88 mw_1462) rfl rfl rfl hv_X12_passes ⟨Nat.le_of_ble_eq_true rfl, Nat.le_of_ble_eq_true rfl⟩) ⟨PcT_blind, hg_recv hK o_c_608 rfl, PcT_pre hK hH⟩ rfl rfl hl.1 rfl (lv_room (Nat.le_of_ble_eq_true rfl)) dX12_readAct_180 ⟨Nat.zero_le _, Nat.zero_le _⟩) hS (fun q _ h => AF.mono hS.1 h) (fun q h => AF.mono hS.1 h) (fun x_616 ux_616 t H locs ht hvm hx_616 hB hz hk hS => ?_)
                        obtain ⟨hx_616, fx_616⟩ := hx_616
                        obtain ⟨eTx_616, eGx_616⟩ := fx_616
                        obtain ⟨G_617, eG_617⟩ : ∃ z, z = ux_616.2 := ⟨_, rfl⟩
                        rw [← eG_617] at eGx_616
                        have pq_618 := pas_pr eGx_616 (rg_w rp_588.2.2.1 (by decide) (by decide))
                        obtain ⟨hr_619, hg_620, hm_621, hq_622⟩ := eGx_616
                        have hfr_623 : FR [109, 110] [] [] G_593 G_617 := FR.ps FR.rf hg_620 (by decide) (by decide)
                        have fr_624 : FR [109, 110, 117] [(g.2.2 116), (g.2.2 130)] [] G G_617 := FR.tr fr_595 hfr_623 (by decide) (fun _ _ => trivial) (by decide)
                        have u_625 : G_617.1 107 = (G.1 107) := (hfr_623.1 107 (by decide)).trans u_596
                        have u_626 : G_617.1 108 = (G.1 108) := (hfr_623.1 108 (by decide)).trans u_597
                        have u_627 : G_617.1 117 = xl_585 := (hfr_623.1 117 (by decide)).trans u_600
                        have w_628 : G_617.2.1 (g.2.2 130) = f_594 := (hfr_623.2.1 (g.2.2 130) trivial).trans w_601
                        have w_629 : G_617.2.1 (g.2.2 116) = f_584 := (hfr_623.2.1 (g.2.2 116) trivial).trans w_602
                        have u_630 : G_617.2.2 106 = some (g.2.2 101) := (hfr_623.2.2 106 (by decide)).trans u_603
                        obtain ⟨xw_631, exw_631⟩ : ∃ z : Int32, G_617.1 110 = z := ⟨_, rfl⟩
                        obtain ⟨xa_632, exa_632⟩ : ∃ z : Int32, G_617.1 109 = z := ⟨_, rfl⟩
                        have r9_633 : rgI 0 80 xa_632 := by rw [← exa_632, pst109 hg_620]; exact hq_622
                        rw [exa_632, exw_631] at pq_618
                        have hH : HT g Ty G_617 H := by rw [← ht, ← eTx_616, eG_617]; exact hB
                        have rx_616 : rgI (0) (1) x_616 := hx_616.1
                        refine lv_if_ne (tgt := 194) hx hb dX12_readAct_183 (by decide) (fun c_634 => ?_) (fun c_634 => ?_)
                        · have r_635 : rgI (1) (1) x_616 := rg_w (rg_neL rx_616 rl_0 c_634) (by decide) (by decide)
                          have t_636 := (pq_618.2.resolve_left (fun z => c_634 z.1)).2.1
                          exact W.vret hx hb hr (fun t ht hWm => ⟨⟨(Ty, G_617), rfl, ⟨rfl, ⟨fr_624, (by rw [w_629, w_628, u_627, exa_632, exw_631]; exact ⟨by have z0 := hlm.1; have z1 := hlm.2; have z2 := qx_462; have z3 := t_514; have z4 := t_515; have z5 := t_516; have z6 := t_543; have z7 := t_566; have z8 := t_589; have z9 := t_590; have z10 := t_591; have z11 := t_615; have z12 := t_636; omega, (fun j hj => (rp_588.1.1 j (by have z0 := hlm.1; have z1 := hlm.2; have z2 := qx_462; have z3 := t_514; have z4 := t_515; have z5 := t_516; have z6 := t_543; have z7 := t_566; have z8 := t_589; have z9 := t_590; have z10 := t_591; have z11 := t_615; have z12 := t_636; have z13 := hj; omega)).trans (rp_513.1.1 j hj)), ac_604, by have z0 := hlm.1; have z1 := hlm.2; have z2 := qx_462; have z3 := t_514; have z4 := t_515; have z5 := t_516; have z6 := t_543; have z7 := t_566; have z8 := t_589; have z9 := t_590; have z10 := t_591; have z11 := t_615; have z12 := t_636; omega, (rg_w r9_633 (by decide) (by decide)), (by rw [pq_618.1]; exact rp_588.2.1), by have z0 := hlm.1; have z1 := hlm.2; have z2 := qx_462; have z3 := t_514; have z4 := t_515; have z5 := t_516; have z6 := t_543; have z7 := t_566; have z8 := t_589; have z9 := t_590; have z10 := t_591; have z11 := t_615; have z12 := t_636; omega, (fun q => ⟨by have z0 := hlm.1; have z1 := hlm.2; have z2 := qx_462; have z3 := t_514; have z4 := t_515; have z5 := t_516; have z6 := t_543; have z7 := t_566; have z8 := t_589; have z9 := t_590; have z10 := t_591; have z11 := t_615; have z12 := t_636; omega, by have z0 := hlm.1; have z1 := hlm.2; have z2 := qx_462; have z3 := t_514; have z4 := t_515; have z5 := t_516; have z6 := t_543; have z7 := t_566; have z8 := t_589; have z9 := t_590; have z10 := t_591; have z11 := t_615; have z12 := t_636; omega, ⟨(PSt.up (ps_eq rp_513.1.2.1 (av_606.trans rp_513.2.2.2.2)) (by have z0 := hlm.1; have z1 := hlm.2; have z2 := qx_462; have z3 := t_514; have z4 := t_515; have z5 := t_516; have z6 := t_543; have z7 := t_566; have z8 := t_589; have z9 := t_590; have z10 := t_591; have z11 := t_615; have z12 := t_636; omega) rp_588.1.1), Or.inr (Or.inr (Or.inr (ps_eq rp_588.1.2.1 (av_607.trans rp_588.2.2.2.2))))⟩⟩)⟩)⟩⟩, by show HT g Ty G_617 t.heap; rw [ht]; exact hH⟩, hS.F ht⟩) hS.2.2 dX12_readAct_194
                        · have r_637 : rgI (0) (0) x_616 := rg_w (rg_eq rl_0 c_634) (by decide) (by decide)
                          have t_638 : xa_632 = xa_586 := (pq_618.2.resolve_right (fun z => z.1 c_634)).2
                          have t_639 : (xa_632 : Int32).toInt = (xa_586 : Int32).toInt := by rw [t_638]
                          refine lv_aload_n hx hb dX12_readAct_186 rfl (lv_at hl 1 rfl) ?_
                          refine lv_aload_n hx hb dX12_readAct_187 rfl (lv_at hl 1 rfl) ?_
                          obtain ⟨_, ⟨rfl, t_641, hk_642⟩, o_c_640⟩ := hH h0 _ k_h0
                          refine hg_get hx hb hG igX12 hown hK o_c_640 rfl 9 (by decide) (hG _ mw_1293) rfl dX12_readAct_188 ?_
                          rw [exa_632]
                          refine va_callv (va_runV (As := [.int xa_632]) (rest := []) ⟨hx, hb, hml, hown, hts⟩ (c_X12_fault_p l g Ty G_617 H.size h0 xa_632 k_h0 (g.2.2 101) 80 (G_617.2.1 (g.2.2 101)) (G_617.2.1 (g.2.2 115)) (G.1 107) (G.1 108) (G_617.1 114) 80 xa_632 xw_631 ⟨u_630, hmk.2.1, rfl, (fun _ _ => rfl), u_625, u_626, rfl, exa_632, exw_631, (rg_w r7 (by decide) (by decide)), by decide, Or.inl (show ((G.1 107) : Int32).toInt ≤ 80 from (rg_w (a2 := 0) (b2 := 80) r7 (by decide) (by decide)).2), by decide, by decide, (rg_w r9_633 (by decide) (by decide))⟩) (cwV 1 hts (gwV mw_1475 mw_1477 mw_42 mw_88 mw_1478) rfl rfl rfl hv_X12_fault ⟨Nat.le_of_ble_eq_true rfl, Nat.le_of_ble_eq_true rfl⟩) ⟨PcT_blind, hg_recv hK o_c_640 rfl, PcT_pre hK hH⟩ rfl rfl hl.1 rfl (lv_room (Nat.le_of_ble_eq_true rfl)) dX12_readAct_191 ⟨Nat.zero_le _, Nat.zero_le _⟩) hS (fun q _ h => AF.mono hS.1 h) (fun q h => AF.mono hS.1 h) (fun ux_643 t H locs ht hvm hx_643 hB hz hk hS => ?_)
                          obtain ⟨eTx_643, eGx_643⟩ := hx_643
                          obtain ⟨G_644, eG_644⟩ : ∃ z, z = ux_643.2 := ⟨_, rfl⟩
                          rw [← eG_644] at eGx_643
                          have pq_645 := flt_pr eGx_643 (rg_w r9_633 (by decide) (by decide))
                          obtain ⟨hg_647, hm_648, hq_649⟩ := eGx_643
                          have hfr_650 : FR [109, 110] [] [] G_617 G_644 := FR.ps FR.rf hg_647 (by decide) (by decide)
                          have fr_651 : FR [109, 110, 117] [(g.2.2 116), (g.2.2 130)] [] G G_644 := FR.tr fr_624 hfr_650 (by decide) (fun _ _ => trivial) (by decide)
                          have u_652 : G_644.1 107 = (G.1 107) := (hfr_650.1 107 (by decide)).trans u_625
                          have u_653 : G_644.1 108 = (G.1 108) := (hfr_650.1 108 (by decide)).trans u_626
                          have u_654 : G_644.1 117 = xl_585 := (hfr_650.1 117 (by decide)).trans u_627
                          have w_655 : G_644.2.1 (g.2.2 130) = f_594 := (hfr_650.2.1 (g.2.2 130) trivial).trans w_628
                          have w_656 : G_644.2.1 (g.2.2 116) = f_584 := (hfr_650.2.1 (g.2.2 116) trivial).trans w_629
                          have u_657 : G_644.2.2 106 = some (g.2.2 101) := (hfr_650.2.2 106 (by decide)).trans u_630
                          obtain ⟨xw_658, exw_658⟩ : ∃ z : Int32, G_644.1 110 = z := ⟨_, rfl⟩
                          have e9_659 := pq_645.1
                          rw [exw_658] at pq_645
                          have hH : HT g Ty G_644 H := by rw [← ht, ← eTx_643, eG_644]; exact hB
                          exact W.vret hx hb hr (fun t ht hWm => ⟨⟨(Ty, G_644), rfl, ⟨rfl, ⟨fr_651, (by rw [w_656, w_655, u_654, e9_659, exw_658]; exact ⟨by have z0 := hlm.1; have z1 := hlm.2; have z2 := qx_462; have z3 := t_514; have z4 := t_515; have z5 := t_516; have z6 := t_543; have z7 := t_566; have z8 := t_589; have z9 := t_590; have z10 := t_591; have z11 := t_615; have z12 := t_639; omega, (fun j hj => (rp_588.1.1 j (by have z0 := hlm.1; have z1 := hlm.2; have z2 := qx_462; have z3 := t_514; have z4 := t_515; have z5 := t_516; have z6 := t_543; have z7 := t_566; have z8 := t_589; have z9 := t_590; have z10 := t_591; have z11 := t_615; have z12 := t_639; have z13 := hj; omega)).trans (rp_513.1.1 j hj)), ac_604, by have z0 := hlm.1; have z1 := hlm.2; have z2 := qx_462; have z3 := t_514; have z4 := t_515; have z5 := t_516; have z6 := t_543; have z7 := t_566; have z8 := t_589; have z9 := t_590; have z10 := t_591; have z11 := t_615; have z12 := t_639; omega, (rg_w r9_633 (by decide) (by decide)), (pq_645.2.2 (by rw [pq_618.1]; exact rp_588.2.1)), by have z0 := hlm.1; have z1 := hlm.2; have z2 := qx_462; have z3 := t_514; have z4 := t_515; have z5 := t_516; have z6 := t_543; have z7 := t_566; have z8 := t_589; have z9 := t_590; have z10 := t_591; have z11 := t_615; have z12 := t_639; omega, (fun q => absurd q pq_645.2.1)⟩)⟩⟩, by show HT g Ty G_644 t.heap; rw [ht]; exact hH⟩, hS.F ht⟩) hS.2.2 dX12_readAct_194
                    · have r_660 : rgI (0) (0) x_570 := rg_w (rg_eq rl_0 c_571) (by decide) (by decide)
                      exact W.vret hx hb hr (fun t ht hWm => ⟨⟨(Ty, G_547), rfl, ⟨rfl, ⟨fr_554, (by rw [w_559, w_558, u_557, exa_562, exw_561]; exact ⟨by have z0 := hlm.1; have z1 := hlm.2; have z2 := qx_462; have z3 := t_514; have z4 := t_515; have z5 := t_516; have z6 := t_543; have z7 := t_566; omega, rp_513.1.1, ac_529, by have z0 := hlm.1; have z1 := hlm.2; have z2 := qx_462; have z3 := t_514; have z4 := t_515; have z5 := t_516; have z6 := t_543; have z7 := t_566; omega, (rg_w r9_563 (by decide) (by decide)), (by rw [pq_548.1]; exact rp_513.2.1), by have z0 := hlm.1; have z1 := hlm.2; have z2 := qx_462; have z3 := t_514; have z4 := t_515; have z5 := t_516; have z6 := t_543; have z7 := t_566; omega, (fun q => absurd q (fin_0 hx_570.2 c_571))⟩)⟩⟩, by show HT g Ty G_547 t.heap; rw [ht]; exact hH⟩, hS.F ht⟩) hS.2.2 dX12_readAct_157
                  · have r_661 : rgI (0) (0) x_546 := rg_w (rg_eq rl_0 c_564) (by decide) (by decide)
                    have t_662 : xa_562 = xa_511 := (pq_548.2.resolve_right (fun z => z.1 c_564)).2
                    have t_663 : (xa_562 : Int32).toInt = (xa_511 : Int32).toInt := by rw [t_662]
                    refine lv_aload_n hx hb dX12_readAct_142 rfl (lv_at hl 1 rfl) ?_
                    refine lv_aload_n hx hb dX12_readAct_143 rfl (lv_at hl 1 rfl) ?_
                    obtain ⟨_, ⟨rfl, t_665, hk_666⟩, o_c_664⟩ := hH h0 _ k_h0
                    refine hg_get hx hb hG igX12 hown hK o_c_664 rfl 9 (by decide) (hG _ mw_1293) rfl dX12_readAct_144 ?_
                    rw [exa_562]
                    refine va_callv (va_runV (As := [.int xa_562]) (rest := []) ⟨hx, hb, hml, hown, hts⟩ (c_X12_fault_p l g Ty G_547 H.size h0 xa_562 k_h0 (g.2.2 101) 80 (G_547.2.1 (g.2.2 101)) (G_547.2.1 (g.2.2 115)) (G.1 107) (G.1 108) (G_547.1 114) 80 xa_562 xw_561 ⟨u_560, hmk.2.1, rfl, (fun _ _ => rfl), u_555, u_556, rfl, exa_562, exw_561, (rg_w r7 (by decide) (by decide)), by decide, Or.inl (show ((G.1 107) : Int32).toInt ≤ 80 from (rg_w (a2 := 0) (b2 := 80) r7 (by decide) (by decide)).2), by decide, by decide, (rg_w r9_563 (by decide) (by decide))⟩) (cwV 1 hts (gwV mw_1475 mw_1477 mw_42 mw_88 mw_1478) rfl rfl rfl hv_X12_fault ⟨Nat.le_of_ble_eq_true rfl, Nat.le_of_ble_eq_true rfl⟩) ⟨PcT_blind, hg_recv hK o_c_664 rfl, PcT_pre hK hH⟩ rfl rfl hl.1 rfl (lv_room (Nat.le_of_ble_eq_true rfl)) dX12_readAct_147 ⟨Nat.zero_le _, Nat.zero_le _⟩) hS (fun q _ h => AF.mono hS.1 h) (fun q h => AF.mono hS.1 h) (fun ux_667 t H locs ht hvm hx_667 hB hz hk hS => ?_)
                    obtain ⟨eTx_667, eGx_667⟩ := hx_667
                    obtain ⟨G_668, eG_668⟩ : ∃ z, z = ux_667.2 := ⟨_, rfl⟩
                    rw [← eG_668] at eGx_667
                    have pq_669 := flt_pr eGx_667 (rg_w r9_563 (by decide) (by decide))
                    obtain ⟨hg_671, hm_672, hq_673⟩ := eGx_667
                    have hfr_674 : FR [109, 110] [] [] G_547 G_668 := FR.ps FR.rf hg_671 (by decide) (by decide)
                    have fr_675 : FR [109, 110, 117] [(g.2.2 116), (g.2.2 130)] [] G G_668 := FR.tr fr_554 hfr_674 (by decide) (fun _ _ => trivial) (by decide)
                    have u_676 : G_668.1 107 = (G.1 107) := (hfr_674.1 107 (by decide)).trans u_555
                    have u_677 : G_668.1 108 = (G.1 108) := (hfr_674.1 108 (by decide)).trans u_556
                    have u_678 : G_668.1 117 = xl_510 := (hfr_674.1 117 (by decide)).trans u_557
                    have w_679 : G_668.2.1 (g.2.2 130) = f_519 := (hfr_674.2.1 (g.2.2 130) trivial).trans w_558
                    have w_680 : G_668.2.1 (g.2.2 116) = f_509 := (hfr_674.2.1 (g.2.2 116) trivial).trans w_559
                    have u_681 : G_668.2.2 106 = some (g.2.2 101) := (hfr_674.2.2 106 (by decide)).trans u_560
                    obtain ⟨xw_682, exw_682⟩ : ∃ z : Int32, G_668.1 110 = z := ⟨_, rfl⟩
                    have e9_683 := pq_669.1
                    rw [exw_682] at pq_669
                    have hH : HT g Ty G_668 H := by rw [← ht, ← eTx_667, eG_668]; exact hB
                    refine lv_aload_n hx hb dX12_readAct_150 rfl (lv_at hl 1 rfl) ?_
                    obtain ⟨_, ⟨rfl, t_685, hk_686⟩, o_c_684⟩ := hH h0 _ k_h0
                    refine vp_callSi (W.runV (As := []) (rest := []) ⟨hx, hb, hml, hown, hts⟩ (c_X12_fine_p l g Ty G_668 h0 k_h0 (g.2.2 101) 80 (G_668.2.1 (g.2.2 101)) (G_668.2.1 (g.2.2 115)) (G.1 107) (G.1 108) (G_668.1 114) 80 xa_562 xw_682 ⟨u_681, hmk.2.1, rfl, (fun _ _ => rfl), u_676, u_677, rfl, e9_683, exw_682, (rg_w r7 (by decide) (by decide)), by decide, Or.inl (show ((G.1 107) : Int32).toInt ≤ 80 from (rg_w (a2 := 0) (b2 := 80) r7 (by decide) (by decide)).2), by decide, by decide, (rg_w r9_563 (by decide) (by decide))⟩) (cwV 0 hts (gwV mw_1463 mw_1465 mw_39 mw_88 mw_1466) rfl rfl rfl hv_X12_fine ⟨Nat.le_of_ble_eq_true rfl, Nat.le_of_ble_eq_true rfl⟩) ⟨PcH_blind, hg_recv hK o_c_684 rfl, PcH_pre hK hH⟩ rfl rfl hl.1 rfl (lv_room (Nat.le_of_ble_eq_true rfl)) dX12_readAct_151 ⟨Nat.zero_le _, Nat.zero_le _⟩) (fun x_687 hx_687 => ?_)
                    have rx_687 : rgI (0) (1) x_687 := hx_687.1
                    refine lv_if_ne (tgt := 158) hx hb dX12_readAct_154 (by decide) (fun c_688 => ?_) (fun c_688 => ?_)
                    · have r_689 : rgI (1) (1) x_687 := rg_w (rg_neL rx_687 rl_0 c_688) (by decide) (by decide)
                      refine lv_aload_n hx hb dX12_readAct_158 rfl (lv_at hl 1 rfl) ?_
                      refine hg_get hx hb hG igX12 hown hK o_c_684 rfl 30 (by decide) (hG _ mw_1314) rfl dX12_readAct_159 ?_
                      refine lv_iload_n hx hb dX12_readAct_162 rfl (lv_at hl 2 rfl) ?_
                      refine lv_iconst (v := 2) hx hb dX12_readAct_163 (by decide) ?_
                      refine lv_iadd hx hb dX12_readAct_164 ?_
                      refine lv_topi (fun x_690 ex_690 => ?_)
                      have rx_690 : rgI (2) (318) x_690 := by rw [ex_690]; exact rg_w (rg_add pr0 rl_2 (by decide) (by decide)) (by decide) (by decide)
                      have qx_690 : x_690.toInt = (a0 : Int32).toInt + 2 := by rw [ex_690]; exact rg_addE pr0 rl_2 (by decide) (by decide)
                      refine lv_aload_n hx hb dX12_readAct_165 rfl (lv_at hl 1 rfl) ?_
                      have hlm_691 : 0 ≤ (xl_510 : Int32).toInt ∧ (xl_510 : Int32).toInt ≤ (xa_562 : Int32).toInt + 1 := ⟨by have z0 := hlm.1; have z1 := hlm.2; have z2 := qx_462; have z3 := t_514; have z4 := t_515; have z5 := t_516; have z6 := t_543; have z7 := t_663; omega, by have z0 := hlm.1; have z1 := hlm.2; have z2 := qx_462; have z3 := t_514; have z4 := t_515; have z5 := t_516; have z6 := t_543; have z7 := t_663; omega⟩
                      refine va_calli (va_runV (As := []) (rest := [.int x_690, .ref (g.2.2 130)]) ⟨hx, hb, hml, hown, hts⟩ (c_X12_readPath l g Ty G_668 H.size h0 k_h0 u_681 (by rw [u_676]; exact (rg_w r7 (by decide) (by decide))) (by rw [e9_683]; exact (rg_w r9_563 (by decide) (by decide))) (by rw [exw_682]; exact (pq_669.2.2 (by rw [pq_548.1]; exact rp_513.2.1))) hLD (by rw [u_678, e9_683]; exact hlm_691)) (cwV 0 hts (gwV mw_1498 mw_1500 mw_46 mw_88 mw_1501) rfl rfl rfl hv_X12_readPath ⟨Nat.le_of_ble_eq_true rfl, Nat.le_of_ble_eq_true rfl⟩) ⟨PcT_blind, hg_recv hK o_c_684 rfl, PcT_pre hK hH⟩ rfl rfl hl.1 rfl (lv_room (Nat.le_of_ble_eq_true rfl)) dX12_readAct_166 ⟨Nat.zero_le _, Nat.zero_le _⟩) hS (fun q _ h => AF.mono hS.1 h) (fun q h => AF.mono hS.1 h) (fun x_692 ux_692 t H locs ht hvm hx_692 hB hz hk hS => ?_)
                      obtain ⟨eTx_692, eGx_692⟩ := hx_692
                      obtain ⟨G_693, eG_693⟩ : ∃ z, z = ux_692.2 := ⟨_, rfl⟩
                      rw [← eG_693] at eGx_692
                      obtain ⟨hfr_694, hex_695⟩ := eGx_692
                      have fr_696 : FR [109, 110, 117] [(g.2.2 116), (g.2.2 130)] [] G G_693 := FR.tr fr_675 hfr_694 (by decide) (fun b h => ⟨h.1, trivial⟩) (by decide)
                      have u_697 : G_693.1 107 = (G.1 107) := (hfr_694.1 107 (by decide)).trans u_676
                      have u_698 : G_693.1 108 = (G.1 108) := (hfr_694.1 108 (by decide)).trans u_677
                      have w_699 : G_693.2.1 (g.2.2 130) = f_519 := (hfr_694.2.1 (g.2.2 130) ⟨(ne_kd hmk.2.2.2.2.2.2.2.2.2.2.2.1 hmk.2.2.2.2.1 (by decide)), trivial⟩).trans w_679
                      have u_700 : G_693.2.2 106 = some (g.2.2 101) := (hfr_694.2.2 106 (by decide)).trans u_681
                      obtain ⟨f_701, ef_701⟩ : ∃ z : Nat → Int32, G_693.2.1 (g.2.2 116) = z := ⟨_, rfl⟩
                      obtain ⟨xl_702, exl_702⟩ : ∃ z : Int32, G_693.1 117 = z := ⟨_, rfl⟩
                      obtain ⟨xa_703, exa_703⟩ : ∃ z : Int32, G_693.1 109 = z := ⟨_, rfl⟩
                      obtain ⟨xw_704, exw_704⟩ : ∃ z : Int32, G_693.1 110 = z := ⟨_, rfl⟩
                      have rp_705 := hex_695
                      rw [ef_701, exl_702, exa_703, exw_704, w_680, u_678, e9_683] at rp_705
                      have hH : HT g Ty G_693 H := by rw [← ht, ← eTx_692, eG_693]; exact hB
                      have t_706 := rp_705.1.2.2.1
                      have t_707 := rp_705.1.2.2.2.1
                      have t_708 := rp_705.2.2.2.1
                      obtain ⟨_, rfl, o_c_709⟩ := hH (g.2.2 130) _ hk_686.2.2.2.2.2.2.2.2.2.2.2.1
                      have o_c_709 : va_at g.1 vwCl ((g.2.2 130), .inl (g.2.1 1, 320, .inl (G_693.2.1 (g.2.2 130)))) H := o_c_709
                      refine hg_iast hx hb hK hS o_c_709 (AF.of hk_686.2.2.2.2.2.2.2.2.2.2.2.1) (rg_in (n := 320) rx_690 (by decide) (by decide)) dX12_readAct_169 (fun H locs o_c_709 hz oq hS => ?_)
                      obtain ⟨G_710, eG_710⟩ : ∃ z : Gh, z = aset G_693 (g.2.2 130) (upd (G_693.2.1 (g.2.2 130)) (x_690 : Int32).toNatClampNeg x_692) := ⟨_, rfl⟩
                      have hH : HT g Ty G_710 H := by rw [eG_710]; exact HT.putA (upd (G_693.2.1 (g.2.2 130)) (x_690 : Int32).toNatClampNeg x_692) hH hk_686.2.2.2.2.2.2.2.2.2.2.2.1 cf30 o_c_709 oq
                      obtain ⟨f_711, ef_711⟩ : ∃ z : Nat → Int32, z = (upd f_519 (x_690 : Int32).toNatClampNeg x_692) := ⟨_, rfl⟩
                      have eaf_711 : G_710 = aset G_693 (g.2.2 130) f_711 := by rw [eG_710, ef_711, w_699]
                      have fr_712 : FR [109, 110, 117] [(g.2.2 116), (g.2.2 130)] [] G G_710 := FR.a fr_696 eaf_711 (fun b h => h.2.1)
                      have u_713 : G_710.1 107 = (G.1 107) := by rw [eaf_711]; exact u_697
                      have u_714 : G_710.1 108 = (G.1 108) := by rw [eaf_711]; exact u_698
                      have u_715 : G_710.1 109 = xa_703 := by rw [eaf_711]; exact exa_703
                      have u_716 : G_710.1 110 = xw_704 := by rw [eaf_711]; exact exw_704
                      have u_717 : G_710.1 117 = xl_702 := by rw [eaf_711]; exact exl_702
                      have w_718 : G_710.2.1 (g.2.2 130) = f_711 := by rw [eaf_711]; exact aset_eq
                      have w_719 : G_710.2.1 (g.2.2 116) = f_701 := by rw [eaf_711]; exact (aset_ne (ne_kd hmk.2.2.2.2.1 hmk.2.2.2.2.2.2.2.2.2.2.2.1 (by decide))).trans ef_701
                      have u_720 : G_710.2.2 106 = some (g.2.2 101) := by rw [eaf_711]; exact u_700
                      clear oq hz
                      have ac_721 := ac_s ac_529 ef_711 (ai_d ex_690 pr0 rfl (by decide)) (by decide)
                      have av_722 : f_711 (a0.toNatClampNeg + 0) = x_4 := ac_k av_530 ef_711 (ai_d ex_690 pr0 rfl (by decide)) (by decide)
                      have av_723 : f_711 (a0.toNatClampNeg + 1) = x_500 := ac_k av_531 ef_711 (ai_d ex_690 pr0 rfl (by decide)) (by decide)
                      have av_724 : f_711 (a0.toNatClampNeg + 2) = x_692 := ac_v ef_711 (ai_d ex_690 pr0 rfl (by decide))
                      refine lv_aload_n hx hb dX12_readAct_170 rfl (lv_at hl 1 rfl) ?_
                      obtain ⟨_, ⟨rfl, t_726, hk_727⟩, o_c_725⟩ := hH h0 _ k_h0
                      refine vp_callSi (W.runV (As := []) (rest := []) ⟨hx, hb, hml, hown, hts⟩ (c_X12_fine_p l g Ty G_710 h0 k_h0 (g.2.2 101) 80 (G_710.2.1 (g.2.2 101)) (G_710.2.1 (g.2.2 115)) (G.1 107) (G.1 108) (G_710.1 114) 80 xa_703 xw_704 ⟨u_720, hmk.2.1, rfl, (fun _ _ => rfl), u_713, u_714, rfl, u_715, u_716, (rg_w r7 (by decide) (by decide)), by decide, Or.inl (show ((G.1 107) : Int32).toInt ≤ 80 from (rg_w (a2 := 0) (b2 := 80) r7 (by decide) (by decide)).2), by decide, by decide, (rg_w rp_705.2.2.1 (by decide) (by decide))⟩) (cwV 0 hts (gwV mw_1463 mw_1465 mw_39 mw_88 mw_1466) rfl rfl rfl hv_X12_fine ⟨Nat.le_of_ble_eq_true rfl, Nat.le_of_ble_eq_true rfl⟩) ⟨PcH_blind, hg_recv hK o_c_725 rfl, PcH_pre hK hH⟩ rfl rfl hl.1 rfl (lv_room (Nat.le_of_ble_eq_true rfl)) dX12_readAct_171 ⟨Nat.zero_le _, Nat.zero_le _⟩) (fun x_728 hx_728 => ?_)
                      have rx_728 : rgI (0) (1) x_728 := hx_728.1
                      refine lv_if_eq (tgt := 194) hx hb dX12_readAct_174 (by decide) (fun c_729 => ?_) (fun c_729 => ?_)
                      · have r_730 : rgI (0) (0) x_728 := rg_w (rg_eq rl_0 c_729) (by decide) (by decide)
                        exact W.vret hx hb hr (fun t ht hWm => ⟨⟨(Ty, G_710), rfl, ⟨rfl, ⟨fr_712, (by rw [w_719, w_718, u_717, u_715, u_716]; exact ⟨by have z0 := hlm.1; have z1 := hlm.2; have z2 := qx_462; have z3 := t_514; have z4 := t_515; have z5 := t_516; have z6 := t_543; have z7 := t_663; have z8 := t_706; have z9 := t_707; have z10 := t_708; omega, (fun j hj => (rp_705.1.1 j (by have z0 := hlm.1; have z1 := hlm.2; have z2 := qx_462; have z3 := t_514; have z4 := t_515; have z5 := t_516; have z6 := t_543; have z7 := t_663; have z8 := t_706; have z9 := t_707; have z10 := t_708; have z11 := hj; omega)).trans (rp_513.1.1 j hj)), ac_721, by have z0 := hlm.1; have z1 := hlm.2; have z2 := qx_462; have z3 := t_514; have z4 := t_515; have z5 := t_516; have z6 := t_543; have z7 := t_663; have z8 := t_706; have z9 := t_707; have z10 := t_708; omega, (rg_w rp_705.2.2.1 (by decide) (by decide)), rp_705.2.1, by have z0 := hlm.1; have z1 := hlm.2; have z2 := qx_462; have z3 := t_514; have z4 := t_515; have z5 := t_516; have z6 := t_543; have z7 := t_663; have z8 := t_706; have z9 := t_707; have z10 := t_708; omega, (fun q => absurd q (fin_0 hx_728.2 c_729))⟩)⟩⟩, by show HT g Ty G_710 t.heap; rw [ht]; exact hH⟩, hS.F ht⟩) hS.2.2 dX12_readAct_194
                      · have r_731 : rgI (1) (1) x_728 := rg_w (rg_neL rx_728 rl_0 c_729) (by decide) (by decide)
                        have t_732 := rp_705.1.2.2.2.2 (fin_1 hx_728.2 c_729)
                        refine lv_aload_n hx hb dX12_readAct_177 rfl (lv_at hl 1 rfl) ?_
                        refine lv_bipush (v := 46) hx hb dX12_readAct_178 (by decide) ?_
                        refine va_calli (va_runV (As := [.int 46]) (rest := []) ⟨hx, hb, hml, hown, hts⟩ (c_X12_passes l g Ty G_710 H.size h0 46 k_h0 (rg_w rl_46 (by decide) (by decide)) (g.2.2 101) 80 (G_710.2.1 (g.2.2 101)) (G_710.2.1 (g.2.2 115)) (G.1 107) (G.1 108) (G_710.1 114) 80 xa_703 xw_704 ⟨u_720, hmk.2.1, rfl, (fun _ _ => rfl), u_713, u_714, rfl, u_715, u_716, (rg_w r7 (by decide) (by decide)), by decide, Or.inl (show ((G.1 107) : Int32).toInt ≤ 80 from (rg_w (a2 := 0) (b2 := 80) r7 (by decide) (by decide)).2), by decide, by decide, (rg_w rp_705.2.2.1 (by decide) (by decide))⟩) (cwV 1 hts (gwV mw_1459 mw_1461 mw_38 mw_88 mw_1462) rfl rfl rfl hv_X12_passes ⟨Nat.le_of_ble_eq_true rfl, Nat.le_of_ble_eq_true rfl⟩) ⟨PcT_blind, hg_recv hK o_c_725 rfl, PcT_pre hK hH⟩ rfl rfl hl.1 rfl (lv_room (Nat.le_of_ble_eq_true rfl)) dX12_readAct_180 ⟨Nat.zero_le _, Nat.zero_le _⟩) hS (fun q _ h => AF.mono hS.1 h) (fun q h => AF.mono hS.1 h) (fun x_733 ux_733 t H locs ht hvm hx_733 hB hz hk hS => ?_)
                        obtain ⟨hx_733, fx_733⟩ := hx_733
                        obtain ⟨eTx_733, eGx_733⟩ := fx_733
                        obtain ⟨G_734, eG_734⟩ : ∃ z, z = ux_733.2 := ⟨_, rfl⟩
                        rw [← eG_734] at eGx_733
                        have pq_735 := pas_pr eGx_733 (rg_w rp_705.2.2.1 (by decide) (by decide))
                        obtain ⟨hr_736, hg_737, hm_738, hq_739⟩ := eGx_733
                        have hfr_740 : FR [109, 110] [] [] G_710 G_734 := FR.ps FR.rf hg_737 (by decide) (by decide)
                        have fr_741 : FR [109, 110, 117] [(g.2.2 116), (g.2.2 130)] [] G G_734 := FR.tr fr_712 hfr_740 (by decide) (fun _ _ => trivial) (by decide)
                        have u_742 : G_734.1 107 = (G.1 107) := (hfr_740.1 107 (by decide)).trans u_713
                        have u_743 : G_734.1 108 = (G.1 108) := (hfr_740.1 108 (by decide)).trans u_714
                        have u_744 : G_734.1 117 = xl_702 := (hfr_740.1 117 (by decide)).trans u_717
                        have w_745 : G_734.2.1 (g.2.2 130) = f_711 := (hfr_740.2.1 (g.2.2 130) trivial).trans w_718
                        have w_746 : G_734.2.1 (g.2.2 116) = f_701 := (hfr_740.2.1 (g.2.2 116) trivial).trans w_719
                        have u_747 : G_734.2.2 106 = some (g.2.2 101) := (hfr_740.2.2 106 (by decide)).trans u_720
                        obtain ⟨xw_748, exw_748⟩ : ∃ z : Int32, G_734.1 110 = z := ⟨_, rfl⟩
                        obtain ⟨xa_749, exa_749⟩ : ∃ z : Int32, G_734.1 109 = z := ⟨_, rfl⟩
                        have r9_750 : rgI 0 80 xa_749 := by rw [← exa_749, pst109 hg_737]; exact hq_739
                        rw [exa_749, exw_748] at pq_735
                        have hH : HT g Ty G_734 H := by rw [← ht, ← eTx_733, eG_734]; exact hB
                        have rx_733 : rgI (0) (1) x_733 := hx_733.1
                        refine lv_if_ne (tgt := 194) hx hb dX12_readAct_183 (by decide) (fun c_751 => ?_) (fun c_751 => ?_)
                        · have r_752 : rgI (1) (1) x_733 := rg_w (rg_neL rx_733 rl_0 c_751) (by decide) (by decide)
                          have t_753 := (pq_735.2.resolve_left (fun z => c_751 z.1)).2.1
                          exact W.vret hx hb hr (fun t ht hWm => ⟨⟨(Ty, G_734), rfl, ⟨rfl, ⟨fr_741, (by rw [w_746, w_745, u_744, exa_749, exw_748]; exact ⟨by have z0 := hlm.1; have z1 := hlm.2; have z2 := qx_462; have z3 := t_514; have z4 := t_515; have z5 := t_516; have z6 := t_543; have z7 := t_663; have z8 := t_706; have z9 := t_707; have z10 := t_708; have z11 := t_732; have z12 := t_753; omega, (fun j hj => (rp_705.1.1 j (by have z0 := hlm.1; have z1 := hlm.2; have z2 := qx_462; have z3 := t_514; have z4 := t_515; have z5 := t_516; have z6 := t_543; have z7 := t_663; have z8 := t_706; have z9 := t_707; have z10 := t_708; have z11 := t_732; have z12 := t_753; have z13 := hj; omega)).trans (rp_513.1.1 j hj)), ac_721, by have z0 := hlm.1; have z1 := hlm.2; have z2 := qx_462; have z3 := t_514; have z4 := t_515; have z5 := t_516; have z6 := t_543; have z7 := t_663; have z8 := t_706; have z9 := t_707; have z10 := t_708; have z11 := t_732; have z12 := t_753; omega, (rg_w r9_750 (by decide) (by decide)), (by rw [pq_735.1]; exact rp_705.2.1), by have z0 := hlm.1; have z1 := hlm.2; have z2 := qx_462; have z3 := t_514; have z4 := t_515; have z5 := t_516; have z6 := t_543; have z7 := t_663; have z8 := t_706; have z9 := t_707; have z10 := t_708; have z11 := t_732; have z12 := t_753; omega, (fun q => ⟨by have z0 := hlm.1; have z1 := hlm.2; have z2 := qx_462; have z3 := t_514; have z4 := t_515; have z5 := t_516; have z6 := t_543; have z7 := t_663; have z8 := t_706; have z9 := t_707; have z10 := t_708; have z11 := t_732; have z12 := t_753; omega, by have z0 := hlm.1; have z1 := hlm.2; have z2 := qx_462; have z3 := t_514; have z4 := t_515; have z5 := t_516; have z6 := t_543; have z7 := t_663; have z8 := t_706; have z9 := t_707; have z10 := t_708; have z11 := t_732; have z12 := t_753; omega, ⟨(PSt.up (ps_eq rp_513.1.2.1 (av_723.trans rp_513.2.2.2.2)) (by have z0 := hlm.1; have z1 := hlm.2; have z2 := qx_462; have z3 := t_514; have z4 := t_515; have z5 := t_516; have z6 := t_543; have z7 := t_663; have z8 := t_706; have z9 := t_707; have z10 := t_708; have z11 := t_732; have z12 := t_753; omega) rp_705.1.1), Or.inr (Or.inr (Or.inr (ps_eq rp_705.1.2.1 (av_724.trans rp_705.2.2.2.2))))⟩⟩)⟩)⟩⟩, by show HT g Ty G_734 t.heap; rw [ht]; exact hH⟩, hS.F ht⟩) hS.2.2 dX12_readAct_194
                        · have r_754 : rgI (0) (0) x_733 := rg_w (rg_eq rl_0 c_751) (by decide) (by decide)
                          have t_755 : xa_749 = xa_703 := (pq_735.2.resolve_right (fun z => z.1 c_751)).2
                          have t_756 : (xa_749 : Int32).toInt = (xa_703 : Int32).toInt := by rw [t_755]
                          refine lv_aload_n hx hb dX12_readAct_186 rfl (lv_at hl 1 rfl) ?_
                          refine lv_aload_n hx hb dX12_readAct_187 rfl (lv_at hl 1 rfl) ?_
                          obtain ⟨_, ⟨rfl, t_758, hk_759⟩, o_c_757⟩ := hH h0 _ k_h0
                          refine hg_get hx hb hG igX12 hown hK o_c_757 rfl 9 (by decide) (hG _ mw_1293) rfl dX12_readAct_188 ?_
                          rw [exa_749]
                          refine va_callv (va_runV (As := [.int xa_749]) (rest := []) ⟨hx, hb, hml, hown, hts⟩ (c_X12_fault_p l g Ty G_734 H.size h0 xa_749 k_h0 (g.2.2 101) 80 (G_734.2.1 (g.2.2 101)) (G_734.2.1 (g.2.2 115)) (G.1 107) (G.1 108) (G_734.1 114) 80 xa_749 xw_748 ⟨u_747, hmk.2.1, rfl, (fun _ _ => rfl), u_742, u_743, rfl, exa_749, exw_748, (rg_w r7 (by decide) (by decide)), by decide, Or.inl (show ((G.1 107) : Int32).toInt ≤ 80 from (rg_w (a2 := 0) (b2 := 80) r7 (by decide) (by decide)).2), by decide, by decide, (rg_w r9_750 (by decide) (by decide))⟩) (cwV 1 hts (gwV mw_1475 mw_1477 mw_42 mw_88 mw_1478) rfl rfl rfl hv_X12_fault ⟨Nat.le_of_ble_eq_true rfl, Nat.le_of_ble_eq_true rfl⟩) ⟨PcT_blind, hg_recv hK o_c_757 rfl, PcT_pre hK hH⟩ rfl rfl hl.1 rfl (lv_room (Nat.le_of_ble_eq_true rfl)) dX12_readAct_191 ⟨Nat.zero_le _, Nat.zero_le _⟩) hS (fun q _ h => AF.mono hS.1 h) (fun q h => AF.mono hS.1 h) (fun ux_760 t H locs ht hvm hx_760 hB hz hk hS => ?_)
                          obtain ⟨eTx_760, eGx_760⟩ := hx_760
                          obtain ⟨G_761, eG_761⟩ : ∃ z, z = ux_760.2 := ⟨_, rfl⟩
                          rw [← eG_761] at eGx_760
                          have pq_762 := flt_pr eGx_760 (rg_w r9_750 (by decide) (by decide))
                          obtain ⟨hg_764, hm_765, hq_766⟩ := eGx_760
                          have hfr_767 : FR [109, 110] [] [] G_734 G_761 := FR.ps FR.rf hg_764 (by decide) (by decide)
                          have fr_768 : FR [109, 110, 117] [(g.2.2 116), (g.2.2 130)] [] G G_761 := FR.tr fr_741 hfr_767 (by decide) (fun _ _ => trivial) (by decide)
                          have u_769 : G_761.1 107 = (G.1 107) := (hfr_767.1 107 (by decide)).trans u_742
                          have u_770 : G_761.1 108 = (G.1 108) := (hfr_767.1 108 (by decide)).trans u_743
                          have u_771 : G_761.1 117 = xl_702 := (hfr_767.1 117 (by decide)).trans u_744
                          have w_772 : G_761.2.1 (g.2.2 130) = f_711 := (hfr_767.2.1 (g.2.2 130) trivial).trans w_745
                          have w_773 : G_761.2.1 (g.2.2 116) = f_701 := (hfr_767.2.1 (g.2.2 116) trivial).trans w_746
                          have u_774 : G_761.2.2 106 = some (g.2.2 101) := (hfr_767.2.2 106 (by decide)).trans u_747
                          obtain ⟨xw_775, exw_775⟩ : ∃ z : Int32, G_761.1 110 = z := ⟨_, rfl⟩
                          have e9_776 := pq_762.1
                          rw [exw_775] at pq_762
                          have hH : HT g Ty G_761 H := by rw [← ht, ← eTx_760, eG_761]; exact hB
                          exact W.vret hx hb hr (fun t ht hWm => ⟨⟨(Ty, G_761), rfl, ⟨rfl, ⟨fr_768, (by rw [w_773, w_772, u_771, e9_776, exw_775]; exact ⟨by have z0 := hlm.1; have z1 := hlm.2; have z2 := qx_462; have z3 := t_514; have z4 := t_515; have z5 := t_516; have z6 := t_543; have z7 := t_663; have z8 := t_706; have z9 := t_707; have z10 := t_708; have z11 := t_732; have z12 := t_756; omega, (fun j hj => (rp_705.1.1 j (by have z0 := hlm.1; have z1 := hlm.2; have z2 := qx_462; have z3 := t_514; have z4 := t_515; have z5 := t_516; have z6 := t_543; have z7 := t_663; have z8 := t_706; have z9 := t_707; have z10 := t_708; have z11 := t_732; have z12 := t_756; have z13 := hj; omega)).trans (rp_513.1.1 j hj)), ac_721, by have z0 := hlm.1; have z1 := hlm.2; have z2 := qx_462; have z3 := t_514; have z4 := t_515; have z5 := t_516; have z6 := t_543; have z7 := t_663; have z8 := t_706; have z9 := t_707; have z10 := t_708; have z11 := t_732; have z12 := t_756; omega, (rg_w r9_750 (by decide) (by decide)), (pq_762.2.2 (by rw [pq_735.1]; exact rp_705.2.1)), by have z0 := hlm.1; have z1 := hlm.2; have z2 := qx_462; have z3 := t_514; have z4 := t_515; have z5 := t_516; have z6 := t_543; have z7 := t_663; have z8 := t_706; have z9 := t_707; have z10 := t_708; have z11 := t_732; have z12 := t_756; omega, (fun q => absurd q pq_762.2.1)⟩)⟩⟩, by show HT g Ty G_761 t.heap; rw [ht]; exact hH⟩, hS.F ht⟩) hS.2.2 dX12_readAct_194
                    · have r_777 : rgI (0) (0) x_687 := rg_w (rg_eq rl_0 c_688) (by decide) (by decide)
                      exact W.vret hx hb hr (fun t ht hWm => ⟨⟨(Ty, G_668), rfl, ⟨rfl, ⟨fr_675, (by rw [w_680, w_679, u_678, e9_683, exw_682]; exact ⟨by have z0 := hlm.1; have z1 := hlm.2; have z2 := qx_462; have z3 := t_514; have z4 := t_515; have z5 := t_516; have z6 := t_543; have z7 := t_663; omega, rp_513.1.1, ac_529, by have z0 := hlm.1; have z1 := hlm.2; have z2 := qx_462; have z3 := t_514; have z4 := t_515; have z5 := t_516; have z6 := t_543; have z7 := t_663; omega, (rg_w r9_563 (by decide) (by decide)), (pq_669.2.2 (by rw [pq_548.1]; exact rp_513.2.1)), by have z0 := hlm.1; have z1 := hlm.2; have z2 := qx_462; have z3 := t_514; have z4 := t_515; have z5 := t_516; have z6 := t_543; have z7 := t_663; omega, (fun q => absurd q (fin_0 hx_687.2 c_688))⟩)⟩⟩, by show HT g Ty G_668 t.heap; rw [ht]; exact hH⟩, hS.F ht⟩) hS.2.2 dX12_readAct_157
                · exact rg_clash (rg_neL r_461 rl_114 c_545) (r_461) (by decide)
          · have r_778 : rgI (0) (0) x_495 := rg_w (rg_eq rl_0 c_496) (by decide) (by decide)
            exact W.vret hx hb hr (fun t ht hWm => ⟨⟨(Ty, G_478), rfl, ⟨rfl, ⟨fr_480, (by rw [w_486, w_487, u_484, u_485, u_483]; exact ⟨by have z0 := hlm.1; have z1 := hlm.2; have z2 := qx_462; omega, (fun _ _ => rfl), ac_489, by have z0 := hlm.1; have z1 := hlm.2; have z2 := qx_462; omega, (rg_w r9_463 (by decide) (by decide)), w0, by have z0 := hlm.1; have z1 := hlm.2; have z2 := qx_462; omega, (fun q => absurd q (fin_0 hx_495.2 c_496))⟩)⟩⟩, by show HT g Ty G_478 t.heap; rw [ht]; exact hH⟩, hS.F ht⟩) hS.2.2 dX12_readAct_95
        · exact rg_noE r_461 rl_107 c_491 (by decide)
      · refine lv_iload_n hx hb dX12_readAct_23 rfl (lv_at hl 0 rfl) ?_
        refine lv_bipush (v := 117) hx hb dX12_readAct_24 (by decide) ?_
        refine lv_icmp_eq (tgt := 50) hx hb dX12_readAct_26 (by decide) (fun c_779 => ?_) (fun c_779 => ?_)
        · have r_780 : rgI (117) (117) x_4 := rg_w (rg_eq rl_117 c_779) (by decide) (by decide)
          refine lv_aload_n hx hb dX12_readAct_50 rfl (lv_at hl 1 rfl) ?_
          refine lv_dup hx hb dX12_readAct_51 rfl ?_
          refine hg_get hx hb hG igX12 hown hK o_c_1 rfl 9 (by decide) (hG _ mw_1293) rfl dX12_readAct_52 ?_
          refine lv_iconst (v := 1) hx hb dX12_readAct_55 (by decide) ?_
          refine lv_iadd hx hb dX12_readAct_56 ?_
          refine lv_topi (fun x_781 ex_781 => ?_)
          have rx_781 : rgI (1) (81) x_781 := by rw [ex_781]; exact rg_w (rg_add r9 rl_1 (by decide) (by decide)) (by decide) (by decide)
          have qx_781 : x_781.toInt = ((G.1 109) : Int32).toInt + 1 := by rw [ex_781]; exact rg_addE r9 rl_1 (by decide) (by decide)
          have r9_782 : rgI 1 80 x_781 := at_up (h := 0) (here_lt (nh_eq hx_4.2 c_779 (by decide))) r7 r9 qx_781
          refine hg_put (ty := .int) hx hb hG igX12 tyX12 tyX12_ok nmX12 hown hK hS o_c_1 (AF.of k_h0) rfl 9 (by decide) (hG _ mw_1293) rfl (by decide +kernel) rfl rfl (Nat.le_of_ble_eq_true rfl) dX12_readAct_57 (fun H locs o_c_1 hz oq hS => ?_)
          obtain ⟨G_783, eG_783⟩ : ∃ z : Gh, z = gset G 109 x_781 := ⟨_, rfl⟩
          have hH : HT g Ty G_783 H := by rw [eG_783]; exact HT.putN 109 x_781 hH k_h0 ⟨rfl, t_2, hk_3⟩ o_c_1 oq (Or.inr (Or.inr (Or.inr (Or.inr (Or.inr ⟨by decide, t_2⟩)))))
          have fr_784 : FR [109, 110, 117] [(g.2.2 116), (g.2.2 130)] [] G G_783 := FR.n FR.rf eG_783 (by decide)
          have u_785 : G_783.1 107 = (G.1 107) := by rw [eG_783]; exact (gs_ne (by decide))
          have u_786 : G_783.1 108 = (G.1 108) := by rw [eG_783]; exact (gs_ne (by decide))
          have u_787 : G_783.1 110 = (G.1 110) := by rw [eG_783]; exact (gs_ne (by decide))
          have u_788 : G_783.1 117 = (G.1 117) := by rw [eG_783]; exact (gs_ne (by decide))
          have u_789 : G_783.1 109 = x_781 := by rw [eG_783]; exact gs_eq
          have w_790 : G_783.2.1 (g.2.2 116) = (G.2.1 (g.2.2 116)) := by rw [eG_783]; exact rfl
          have w_791 : G_783.2.1 (g.2.2 130) = (G.2.1 (g.2.2 130)) := by rw [eG_783]; exact rfl
          have u_792 : G_783.2.2 106 = some (g.2.2 101) := by rw [eG_783]; exact r6
          clear oq hz
          refine lv_aload_n hx hb dX12_readAct_60 rfl (lv_at hl 1 rfl) ?_
          obtain ⟨_, ⟨rfl, t_794, hk_795⟩, o_c_793⟩ := hH h0 _ k_h0
          refine hg_get hx hb hG igX12 hown hK o_c_793 rfl 30 (by decide) (hG _ mw_1314) rfl dX12_readAct_61 ?_
          refine lv_iload_n hx hb dX12_readAct_64 rfl (lv_at hl 2 rfl) ?_
          refine lv_iload_n hx hb dX12_readAct_65 rfl (lv_at hl 0 rfl) ?_
          obtain ⟨_, rfl, o_c_796⟩ := hH (g.2.2 130) _ hk_795.2.2.2.2.2.2.2.2.2.2.2.1
          have o_c_796 : va_at g.1 vwCl ((g.2.2 130), .inl (g.2.1 1, 320, .inl (G_783.2.1 (g.2.2 130)))) H := o_c_796
          refine hg_iast hx hb hK hS o_c_796 (AF.of hk_795.2.2.2.2.2.2.2.2.2.2.2.1) (rg_in (n := 320) pr0 (by decide) (by decide)) dX12_readAct_66 (fun H locs o_c_796 hz oq hS => ?_)
          obtain ⟨G_797, eG_797⟩ : ∃ z : Gh, z = aset G_783 (g.2.2 130) (upd (G_783.2.1 (g.2.2 130)) (a0 : Int32).toNatClampNeg x_4) := ⟨_, rfl⟩
          have hH : HT g Ty G_797 H := by rw [eG_797]; exact HT.putA (upd (G_783.2.1 (g.2.2 130)) (a0 : Int32).toNatClampNeg x_4) hH hk_795.2.2.2.2.2.2.2.2.2.2.2.1 cf30 o_c_796 oq
          obtain ⟨f_798, ef_798⟩ : ∃ z : Nat → Int32, z = (upd (G.2.1 (g.2.2 130)) (a0 : Int32).toNatClampNeg x_4) := ⟨_, rfl⟩
          have eaf_798 : G_797 = aset G_783 (g.2.2 130) f_798 := by rw [eG_797, ef_798, w_791]
          have fr_799 : FR [109, 110, 117] [(g.2.2 116), (g.2.2 130)] [] G G_797 := FR.a fr_784 eaf_798 (fun b h => h.2.1)
          have u_800 : G_797.1 107 = (G.1 107) := by rw [eaf_798]; exact u_785
          have u_801 : G_797.1 108 = (G.1 108) := by rw [eaf_798]; exact u_786
          have u_802 : G_797.1 110 = (G.1 110) := by rw [eaf_798]; exact u_787
          have u_803 : G_797.1 117 = (G.1 117) := by rw [eaf_798]; exact u_788
          have u_804 : G_797.1 109 = x_781 := by rw [eaf_798]; exact u_789
          have w_805 : G_797.2.1 (g.2.2 116) = (G.2.1 (g.2.2 116)) := by rw [eaf_798]; exact (aset_ne (ne_kd hmk.2.2.2.2.1 hmk.2.2.2.2.2.2.2.2.2.2.2.1 (by decide))).trans w_790
          have w_806 : G_797.2.1 (g.2.2 130) = f_798 := by rw [eaf_798]; exact aset_eq
          have u_807 : G_797.2.2 106 = some (g.2.2 101) := by rw [eaf_798]; exact u_792
          clear oq hz
          have ac_808 := ac_s (fun _ _ => rfl) ef_798 (show a0.toNatClampNeg = a0.toNatClampNeg + 0 from rfl) (by decide)
          have av_809 : f_798 (a0.toNatClampNeg + 0) = x_4 := ac_v ef_798 (show a0.toNatClampNeg = a0.toNatClampNeg + 0 from rfl)
          refine lv_iload_n hx hb dX12_readAct_67 rfl (lv_at hl 0 rfl) ?_
          refine lv_bipush (v := 107) hx hb dX12_readAct_68 (by decide) ?_
          refine lv_icmp_ne (tgt := 88) hx hb dX12_readAct_70 (by decide) (fun c_810 => ?_) (fun c_810 => ?_)
          · refine lv_aload_n hx hb dX12_readAct_88 rfl (lv_at hl 1 rfl) ?_
            obtain ⟨_, ⟨rfl, t_812, hk_813⟩, o_c_811⟩ := hH h0 _ k_h0
            refine vp_callSi (W.runV (As := []) (rest := []) ⟨hx, hb, hml, hown, hts⟩ (c_X12_fine_p l g Ty G_797 h0 k_h0 (g.2.2 101) 80 (G_797.2.1 (g.2.2 101)) (G_797.2.1 (g.2.2 115)) (G.1 107) (G.1 108) (G_797.1 114) 80 x_781 (G.1 110) ⟨u_807, hmk.2.1, rfl, (fun _ _ => rfl), u_800, u_801, rfl, u_804, u_802, (rg_w r7 (by decide) (by decide)), by decide, Or.inl (show ((G.1 107) : Int32).toInt ≤ 80 from (rg_w (a2 := 0) (b2 := 80) r7 (by decide) (by decide)).2), by decide, by decide, (rg_w r9_782 (by decide) (by decide))⟩) (cwV 0 hts (gwV mw_1463 mw_1465 mw_39 mw_88 mw_1466) rfl rfl rfl hv_X12_fine ⟨Nat.le_of_ble_eq_true rfl, Nat.le_of_ble_eq_true rfl⟩) ⟨PcH_blind, hg_recv hK o_c_811 rfl, PcH_pre hK hH⟩ rfl rfl hl.1 rfl (lv_room (Nat.le_of_ble_eq_true rfl)) dX12_readAct_89 ⟨Nat.zero_le _, Nat.zero_le _⟩) (fun x_814 hx_814 => ?_)
            have rx_814 : rgI (0) (1) x_814 := hx_814.1
            refine lv_if_ne (tgt := 96) hx hb dX12_readAct_92 (by decide) (fun c_815 => ?_) (fun c_815 => ?_)
            · have r_816 : rgI (1) (1) x_814 := rg_w (rg_neL rx_814 rl_0 c_815) (by decide) (by decide)
              refine lv_aload_n hx hb dX12_readAct_96 rfl (lv_at hl 1 rfl) ?_
              refine hg_get hx hb hG igX12 hown hK o_c_811 rfl 30 (by decide) (hG _ mw_1314) rfl dX12_readAct_97 ?_
              refine lv_iload_n hx hb dX12_readAct_100 rfl (lv_at hl 2 rfl) ?_
              refine lv_iconst (v := 1) hx hb dX12_readAct_101 (by decide) ?_
              refine lv_iadd hx hb dX12_readAct_102 ?_
              refine lv_topi (fun x_817 ex_817 => ?_)
              have rx_817 : rgI (1) (317) x_817 := by rw [ex_817]; exact rg_w (rg_add pr0 rl_1 (by decide) (by decide)) (by decide) (by decide)
              have qx_817 : x_817.toInt = (a0 : Int32).toInt + 1 := by rw [ex_817]; exact rg_addE pr0 rl_1 (by decide) (by decide)
              refine lv_aload_n hx hb dX12_readAct_103 rfl (lv_at hl 1 rfl) ?_
              have hlm_818 : 0 ≤ ((G.1 117) : Int32).toInt ∧ ((G.1 117) : Int32).toInt ≤ (x_781 : Int32).toInt + 1 := ⟨by have z0 := hlm.1; have z1 := hlm.2; have z2 := qx_781; omega, by have z0 := hlm.1; have z1 := hlm.2; have z2 := qx_781; omega⟩
              refine va_calli (va_runV (As := []) (rest := [.int x_817, .ref (g.2.2 130)]) ⟨hx, hb, hml, hown, hts⟩ (c_X12_readPath l g Ty G_797 H.size h0 k_h0 u_807 (by rw [u_800]; exact (rg_w r7 (by decide) (by decide))) (by rw [u_804]; exact (rg_w r9_782 (by decide) (by decide))) (by rw [u_802]; exact w0) hLD (by rw [u_803, u_804]; exact hlm_818)) (cwV 0 hts (gwV mw_1498 mw_1500 mw_46 mw_88 mw_1501) rfl rfl rfl hv_X12_readPath ⟨Nat.le_of_ble_eq_true rfl, Nat.le_of_ble_eq_true rfl⟩) ⟨PcT_blind, hg_recv hK o_c_811 rfl, PcT_pre hK hH⟩ rfl rfl hl.1 rfl (lv_room (Nat.le_of_ble_eq_true rfl)) dX12_readAct_104 ⟨Nat.zero_le _, Nat.zero_le _⟩) hS (fun q _ h => AF.mono hS.1 h) (fun q h => AF.mono hS.1 h) (fun x_819 ux_819 t H locs ht hvm hx_819 hB hz hk hS => ?_)
              obtain ⟨eTx_819, eGx_819⟩ := hx_819
              obtain ⟨G_820, eG_820⟩ : ∃ z, z = ux_819.2 := ⟨_, rfl⟩
              rw [← eG_820] at eGx_819
              obtain ⟨hfr_821, hex_822⟩ := eGx_819
              have fr_823 : FR [109, 110, 117] [(g.2.2 116), (g.2.2 130)] [] G G_820 := FR.tr fr_799 hfr_821 (by decide) (fun b h => ⟨h.1, trivial⟩) (by decide)
              have u_824 : G_820.1 107 = (G.1 107) := (hfr_821.1 107 (by decide)).trans u_800
              have u_825 : G_820.1 108 = (G.1 108) := (hfr_821.1 108 (by decide)).trans u_801
              have w_826 : G_820.2.1 (g.2.2 130) = f_798 := (hfr_821.2.1 (g.2.2 130) ⟨(ne_kd hmk.2.2.2.2.2.2.2.2.2.2.2.1 hmk.2.2.2.2.1 (by decide)), trivial⟩).trans w_806
              have u_827 : G_820.2.2 106 = some (g.2.2 101) := (hfr_821.2.2 106 (by decide)).trans u_807
              obtain ⟨f_828, ef_828⟩ : ∃ z : Nat → Int32, G_820.2.1 (g.2.2 116) = z := ⟨_, rfl⟩
              obtain ⟨xl_829, exl_829⟩ : ∃ z : Int32, G_820.1 117 = z := ⟨_, rfl⟩
              obtain ⟨xa_830, exa_830⟩ : ∃ z : Int32, G_820.1 109 = z := ⟨_, rfl⟩
              obtain ⟨xw_831, exw_831⟩ : ∃ z : Int32, G_820.1 110 = z := ⟨_, rfl⟩
              have rp_832 := hex_822
              rw [ef_828, exl_829, exa_830, exw_831, w_805, u_803, u_804] at rp_832
              have hH : HT g Ty G_820 H := by rw [← ht, ← eTx_819, eG_820]; exact hB
              have t_833 := rp_832.1.2.2.1
              have t_834 := rp_832.1.2.2.2.1
              have t_835 := rp_832.2.2.2.1
              obtain ⟨_, rfl, o_c_836⟩ := hH (g.2.2 130) _ hk_813.2.2.2.2.2.2.2.2.2.2.2.1
              have o_c_836 : va_at g.1 vwCl ((g.2.2 130), .inl (g.2.1 1, 320, .inl (G_820.2.1 (g.2.2 130)))) H := o_c_836
              refine hg_iast hx hb hK hS o_c_836 (AF.of hk_813.2.2.2.2.2.2.2.2.2.2.2.1) (rg_in (n := 320) rx_817 (by decide) (by decide)) dX12_readAct_107 (fun H locs o_c_836 hz oq hS => ?_)
              obtain ⟨G_837, eG_837⟩ : ∃ z : Gh, z = aset G_820 (g.2.2 130) (upd (G_820.2.1 (g.2.2 130)) (x_817 : Int32).toNatClampNeg x_819) := ⟨_, rfl⟩
              have hH : HT g Ty G_837 H := by rw [eG_837]; exact HT.putA (upd (G_820.2.1 (g.2.2 130)) (x_817 : Int32).toNatClampNeg x_819) hH hk_813.2.2.2.2.2.2.2.2.2.2.2.1 cf30 o_c_836 oq
              obtain ⟨f_838, ef_838⟩ : ∃ z : Nat → Int32, z = (upd f_798 (x_817 : Int32).toNatClampNeg x_819) := ⟨_, rfl⟩
              have eaf_838 : G_837 = aset G_820 (g.2.2 130) f_838 := by rw [eG_837, ef_838, w_826]
              have fr_839 : FR [109, 110, 117] [(g.2.2 116), (g.2.2 130)] [] G G_837 := FR.a fr_823 eaf_838 (fun b h => h.2.1)
              have u_840 : G_837.1 107 = (G.1 107) := by rw [eaf_838]; exact u_824
              have u_841 : G_837.1 108 = (G.1 108) := by rw [eaf_838]; exact u_825
              have u_842 : G_837.1 109 = xa_830 := by rw [eaf_838]; exact exa_830
              have u_843 : G_837.1 110 = xw_831 := by rw [eaf_838]; exact exw_831
              have u_844 : G_837.1 117 = xl_829 := by rw [eaf_838]; exact exl_829
              have w_845 : G_837.2.1 (g.2.2 130) = f_838 := by rw [eaf_838]; exact aset_eq
              have w_846 : G_837.2.1 (g.2.2 116) = f_828 := by rw [eaf_838]; exact (aset_ne (ne_kd hmk.2.2.2.2.1 hmk.2.2.2.2.2.2.2.2.2.2.2.1 (by decide))).trans ef_828
              have u_847 : G_837.2.2 106 = some (g.2.2 101) := by rw [eaf_838]; exact u_827
              clear oq hz
              have ac_848 := ac_s ac_808 ef_838 (ai_d ex_817 pr0 rfl (by decide)) (by decide)
              have av_849 : f_838 (a0.toNatClampNeg + 0) = x_4 := ac_k av_809 ef_838 (ai_d ex_817 pr0 rfl (by decide)) (by decide)
              have av_850 : f_838 (a0.toNatClampNeg + 1) = x_819 := ac_v ef_838 (ai_d ex_817 pr0 rfl (by decide))
              refine lv_aload_n hx hb dX12_readAct_108 rfl (lv_at hl 1 rfl) ?_
              obtain ⟨_, ⟨rfl, t_852, hk_853⟩, o_c_851⟩ := hH h0 _ k_h0
              refine vp_callSi (W.runV (As := []) (rest := []) ⟨hx, hb, hml, hown, hts⟩ (c_X12_fine_p l g Ty G_837 h0 k_h0 (g.2.2 101) 80 (G_837.2.1 (g.2.2 101)) (G_837.2.1 (g.2.2 115)) (G.1 107) (G.1 108) (G_837.1 114) 80 xa_830 xw_831 ⟨u_847, hmk.2.1, rfl, (fun _ _ => rfl), u_840, u_841, rfl, u_842, u_843, (rg_w r7 (by decide) (by decide)), by decide, Or.inl (show ((G.1 107) : Int32).toInt ≤ 80 from (rg_w (a2 := 0) (b2 := 80) r7 (by decide) (by decide)).2), by decide, by decide, (rg_w rp_832.2.2.1 (by decide) (by decide))⟩) (cwV 0 hts (gwV mw_1463 mw_1465 mw_39 mw_88 mw_1466) rfl rfl rfl hv_X12_fine ⟨Nat.le_of_ble_eq_true rfl, Nat.le_of_ble_eq_true rfl⟩) ⟨PcH_blind, hg_recv hK o_c_851 rfl, PcH_pre hK hH⟩ rfl rfl hl.1 rfl (lv_room (Nat.le_of_ble_eq_true rfl)) dX12_readAct_109 ⟨Nat.zero_le _, Nat.zero_le _⟩) (fun x_854 hx_854 => ?_)
              have rx_854 : rgI (0) (1) x_854 := hx_854.1
              refine lv_if_eq (tgt := 170) hx hb dX12_readAct_112 (by decide) (fun c_855 => ?_) (fun c_855 => ?_)
              · have r_856 : rgI (0) (0) x_854 := rg_w (rg_eq rl_0 c_855) (by decide) (by decide)
                refine lv_aload_n hx hb dX12_readAct_170 rfl (lv_at hl 1 rfl) ?_
                refine vp_callSi (W.runV (As := []) (rest := []) ⟨hx, hb, hml, hown, hts⟩ (c_X12_fine_p l g Ty G_837 h0 k_h0 (g.2.2 101) 80 (G_837.2.1 (g.2.2 101)) (G_837.2.1 (g.2.2 115)) (G.1 107) (G.1 108) (G_837.1 114) 80 xa_830 xw_831 ⟨u_847, hmk.2.1, rfl, (fun _ _ => rfl), u_840, u_841, rfl, u_842, u_843, (rg_w r7 (by decide) (by decide)), by decide, Or.inl (show ((G.1 107) : Int32).toInt ≤ 80 from (rg_w (a2 := 0) (b2 := 80) r7 (by decide) (by decide)).2), by decide, by decide, (rg_w rp_832.2.2.1 (by decide) (by decide))⟩) (cwV 0 hts (gwV mw_1463 mw_1465 mw_39 mw_88 mw_1466) rfl rfl rfl hv_X12_fine ⟨Nat.le_of_ble_eq_true rfl, Nat.le_of_ble_eq_true rfl⟩) ⟨PcH_blind, hg_recv hK o_c_851 rfl, PcH_pre hK hH⟩ rfl rfl hl.1 rfl (lv_room (Nat.le_of_ble_eq_true rfl)) dX12_readAct_171 ⟨Nat.zero_le _, Nat.zero_le _⟩) (fun x_857 hx_857 => ?_)
                have rx_857 : rgI (0) (1) x_857 := hx_857.1
                refine lv_if_eq (tgt := 194) hx hb dX12_readAct_174 (by decide) (fun c_858 => ?_) (fun c_858 => ?_)
                · have r_859 : rgI (0) (0) x_857 := rg_w (rg_eq rl_0 c_858) (by decide) (by decide)
                  exact W.vret hx hb hr (fun t ht hWm => ⟨⟨(Ty, G_837), rfl, ⟨rfl, ⟨fr_839, (by rw [w_846, w_845, u_844, u_842, u_843]; exact ⟨by have z0 := hlm.1; have z1 := hlm.2; have z2 := qx_781; have z3 := t_833; have z4 := t_834; have z5 := t_835; omega, rp_832.1.1, ac_848, by have z0 := hlm.1; have z1 := hlm.2; have z2 := qx_781; have z3 := t_833; have z4 := t_834; have z5 := t_835; omega, (rg_w rp_832.2.2.1 (by decide) (by decide)), rp_832.2.1, by have z0 := hlm.1; have z1 := hlm.2; have z2 := qx_781; have z3 := t_833; have z4 := t_834; have z5 := t_835; omega, (fun q => absurd q (fin_0 hx_857.2 c_858))⟩)⟩⟩, by show HT g Ty G_837 t.heap; rw [ht]; exact hH⟩, hS.F ht⟩) hS.2.2 dX12_readAct_194
                · have r_860 : rgI (1) (1) x_857 := rg_w (rg_neL rx_857 rl_0 c_858) (by decide) (by decide)
                  exact absurd (fin_1 hx_857.2 c_858) (fin_0 hx_854.2 c_855)
              · have r_861 : rgI (1) (1) x_854 := rg_w (rg_neL rx_854 rl_0 c_855) (by decide) (by decide)
                have t_862 := rp_832.1.2.2.2.2 (fin_1 hx_854.2 c_855)
                refine lv_iload_n hx hb dX12_readAct_115 rfl (lv_at hl 0 rfl) ?_
                refine lv_bipush (v := 98) hx hb dX12_readAct_116 (by decide) ?_
                refine lv_icmp_eq (tgt := 133) hx hb dX12_readAct_118 (by decide) (fun c_863 => ?_) (fun c_863 => ?_)
                · exact rg_noE r_780 rl_98 c_863 (by decide)
                · refine lv_iload_n hx hb dX12_readAct_121 rfl (lv_at hl 0 rfl) ?_
                  refine lv_bipush (v := 114) hx hb dX12_readAct_122 (by decide) ?_
                  refine lv_icmp_eq (tgt := 133) hx hb dX12_readAct_124 (by decide) (fun c_864 => ?_) (fun c_864 => ?_)
                  · exact rg_noE r_780 rl_114 c_864 (by decide)
                  · refine lv_iload_n hx hb dX12_readAct_127 rfl (lv_at hl 0 rfl) ?_
                    refine lv_bipush (v := 118) hx hb dX12_readAct_128 (by decide) ?_
                    refine lv_icmp_ne (tgt := 170) hx hb dX12_readAct_130 (by decide) (fun c_865 => ?_) (fun c_865 => ?_)
                    · refine lv_aload_n hx hb dX12_readAct_170 rfl (lv_at hl 1 rfl) ?_
                      refine vp_callSi (W.runV (As := []) (rest := []) ⟨hx, hb, hml, hown, hts⟩ (c_X12_fine_p l g Ty G_837 h0 k_h0 (g.2.2 101) 80 (G_837.2.1 (g.2.2 101)) (G_837.2.1 (g.2.2 115)) (G.1 107) (G.1 108) (G_837.1 114) 80 xa_830 xw_831 ⟨u_847, hmk.2.1, rfl, (fun _ _ => rfl), u_840, u_841, rfl, u_842, u_843, (rg_w r7 (by decide) (by decide)), by decide, Or.inl (show ((G.1 107) : Int32).toInt ≤ 80 from (rg_w (a2 := 0) (b2 := 80) r7 (by decide) (by decide)).2), by decide, by decide, (rg_w rp_832.2.2.1 (by decide) (by decide))⟩) (cwV 0 hts (gwV mw_1463 mw_1465 mw_39 mw_88 mw_1466) rfl rfl rfl hv_X12_fine ⟨Nat.le_of_ble_eq_true rfl, Nat.le_of_ble_eq_true rfl⟩) ⟨PcH_blind, hg_recv hK o_c_851 rfl, PcH_pre hK hH⟩ rfl rfl hl.1 rfl (lv_room (Nat.le_of_ble_eq_true rfl)) dX12_readAct_171 ⟨Nat.zero_le _, Nat.zero_le _⟩) (fun x_866 hx_866 => ?_)
                      have rx_866 : rgI (0) (1) x_866 := hx_866.1
                      refine lv_if_eq (tgt := 194) hx hb dX12_readAct_174 (by decide) (fun c_867 => ?_) (fun c_867 => ?_)
                      · have r_868 : rgI (0) (0) x_866 := rg_w (rg_eq rl_0 c_867) (by decide) (by decide)
                        exact W.vret hx hb hr (fun t ht hWm => ⟨⟨(Ty, G_837), rfl, ⟨rfl, ⟨fr_839, (by rw [w_846, w_845, u_844, u_842, u_843]; exact ⟨by have z0 := hlm.1; have z1 := hlm.2; have z2 := qx_781; have z3 := t_833; have z4 := t_834; have z5 := t_835; have z6 := t_862; omega, rp_832.1.1, ac_848, by have z0 := hlm.1; have z1 := hlm.2; have z2 := qx_781; have z3 := t_833; have z4 := t_834; have z5 := t_835; have z6 := t_862; omega, (rg_w rp_832.2.2.1 (by decide) (by decide)), rp_832.2.1, by have z0 := hlm.1; have z1 := hlm.2; have z2 := qx_781; have z3 := t_833; have z4 := t_834; have z5 := t_835; have z6 := t_862; omega, (fun q => absurd q (fin_0 hx_866.2 c_867))⟩)⟩⟩, by show HT g Ty G_837 t.heap; rw [ht]; exact hH⟩, hS.F ht⟩) hS.2.2 dX12_readAct_194
                      · have r_869 : rgI (1) (1) x_866 := rg_w (rg_neL rx_866 rl_0 c_867) (by decide) (by decide)
                        have t_870 := rp_832.1.2.2.2.2 (fin_1 hx_866.2 c_867)
                        refine lv_aload_n hx hb dX12_readAct_177 rfl (lv_at hl 1 rfl) ?_
                        refine lv_bipush (v := 46) hx hb dX12_readAct_178 (by decide) ?_
                        refine va_calli (va_runV (As := [.int 46]) (rest := []) ⟨hx, hb, hml, hown, hts⟩ (c_X12_passes l g Ty G_837 H.size h0 46 k_h0 (rg_w rl_46 (by decide) (by decide)) (g.2.2 101) 80 (G_837.2.1 (g.2.2 101)) (G_837.2.1 (g.2.2 115)) (G.1 107) (G.1 108) (G_837.1 114) 80 xa_830 xw_831 ⟨u_847, hmk.2.1, rfl, (fun _ _ => rfl), u_840, u_841, rfl, u_842, u_843, (rg_w r7 (by decide) (by decide)), by decide, Or.inl (show ((G.1 107) : Int32).toInt ≤ 80 from (rg_w (a2 := 0) (b2 := 80) r7 (by decide) (by decide)).2), by decide, by decide, (rg_w rp_832.2.2.1 (by decide) (by decide))⟩) (cwV 1 hts (gwV mw_1459 mw_1461 mw_38 mw_88 mw_1462) rfl rfl rfl hv_X12_passes ⟨Nat.le_of_ble_eq_true rfl, Nat.le_of_ble_eq_true rfl⟩) ⟨PcT_blind, hg_recv hK o_c_851 rfl, PcT_pre hK hH⟩ rfl rfl hl.1 rfl (lv_room (Nat.le_of_ble_eq_true rfl)) dX12_readAct_180 ⟨Nat.zero_le _, Nat.zero_le _⟩) hS (fun q _ h => AF.mono hS.1 h) (fun q h => AF.mono hS.1 h) (fun x_871 ux_871 t H locs ht hvm hx_871 hB hz hk hS => ?_)
                        obtain ⟨hx_871, fx_871⟩ := hx_871
                        obtain ⟨eTx_871, eGx_871⟩ := fx_871
                        obtain ⟨G_872, eG_872⟩ : ∃ z, z = ux_871.2 := ⟨_, rfl⟩
                        rw [← eG_872] at eGx_871
                        have pq_873 := pas_pr eGx_871 (rg_w rp_832.2.2.1 (by decide) (by decide))
                        obtain ⟨hr_874, hg_875, hm_876, hq_877⟩ := eGx_871
                        have hfr_878 : FR [109, 110] [] [] G_837 G_872 := FR.ps FR.rf hg_875 (by decide) (by decide)
                        have fr_879 : FR [109, 110, 117] [(g.2.2 116), (g.2.2 130)] [] G G_872 := FR.tr fr_839 hfr_878 (by decide) (fun _ _ => trivial) (by decide)
                        have u_880 : G_872.1 107 = (G.1 107) := (hfr_878.1 107 (by decide)).trans u_840
                        have u_881 : G_872.1 108 = (G.1 108) := (hfr_878.1 108 (by decide)).trans u_841
                        have u_882 : G_872.1 117 = xl_829 := (hfr_878.1 117 (by decide)).trans u_844
                        have w_883 : G_872.2.1 (g.2.2 130) = f_838 := (hfr_878.2.1 (g.2.2 130) trivial).trans w_845
                        have w_884 : G_872.2.1 (g.2.2 116) = f_828 := (hfr_878.2.1 (g.2.2 116) trivial).trans w_846
                        have u_885 : G_872.2.2 106 = some (g.2.2 101) := (hfr_878.2.2 106 (by decide)).trans u_847
                        obtain ⟨xw_886, exw_886⟩ : ∃ z : Int32, G_872.1 110 = z := ⟨_, rfl⟩
                        obtain ⟨xa_887, exa_887⟩ : ∃ z : Int32, G_872.1 109 = z := ⟨_, rfl⟩
                        have r9_888 : rgI 0 80 xa_887 := by rw [← exa_887, pst109 hg_875]; exact hq_877
                        rw [exa_887, exw_886] at pq_873
                        have hH : HT g Ty G_872 H := by rw [← ht, ← eTx_871, eG_872]; exact hB
                        have rx_871 : rgI (0) (1) x_871 := hx_871.1
                        refine lv_if_ne (tgt := 194) hx hb dX12_readAct_183 (by decide) (fun c_889 => ?_) (fun c_889 => ?_)
                        · have r_890 : rgI (1) (1) x_871 := rg_w (rg_neL rx_871 rl_0 c_889) (by decide) (by decide)
                          have t_891 := (pq_873.2.resolve_left (fun z => c_889 z.1)).2.1
                          exact W.vret hx hb hr (fun t ht hWm => ⟨⟨(Ty, G_872), rfl, ⟨rfl, ⟨fr_879, (by rw [w_884, w_883, u_882, exa_887, exw_886]; exact ⟨by have z0 := hlm.1; have z1 := hlm.2; have z2 := qx_781; have z3 := t_833; have z4 := t_834; have z5 := t_835; have z6 := t_862; have z7 := t_870; have z8 := t_891; omega, rp_832.1.1, ac_848, by have z0 := hlm.1; have z1 := hlm.2; have z2 := qx_781; have z3 := t_833; have z4 := t_834; have z5 := t_835; have z6 := t_862; have z7 := t_870; have z8 := t_891; omega, (rg_w r9_888 (by decide) (by decide)), (by rw [pq_873.1]; exact rp_832.2.1), by have z0 := hlm.1; have z1 := hlm.2; have z2 := qx_781; have z3 := t_833; have z4 := t_834; have z5 := t_835; have z6 := t_862; have z7 := t_870; have z8 := t_891; omega, (fun q => ⟨by have z0 := hlm.1; have z1 := hlm.2; have z2 := qx_781; have z3 := t_833; have z4 := t_834; have z5 := t_835; have z6 := t_862; have z7 := t_870; have z8 := t_891; omega, by have z0 := hlm.1; have z1 := hlm.2; have z2 := qx_781; have z3 := t_833; have z4 := t_834; have z5 := t_835; have z6 := t_862; have z7 := t_870; have z8 := t_891; omega, ⟨(ps_eq rp_832.1.2.1 (av_850.trans rp_832.2.2.2.2)), Or.inr (Or.inl (av_849.trans c_779))⟩⟩)⟩)⟩⟩, by show HT g Ty G_872 t.heap; rw [ht]; exact hH⟩, hS.F ht⟩) hS.2.2 dX12_readAct_194
                        · have r_892 : rgI (0) (0) x_871 := rg_w (rg_eq rl_0 c_889) (by decide) (by decide)
                          have t_893 : xa_887 = xa_830 := (pq_873.2.resolve_right (fun z => z.1 c_889)).2
                          have t_894 : (xa_887 : Int32).toInt = (xa_830 : Int32).toInt := by rw [t_893]
                          refine lv_aload_n hx hb dX12_readAct_186 rfl (lv_at hl 1 rfl) ?_
                          refine lv_aload_n hx hb dX12_readAct_187 rfl (lv_at hl 1 rfl) ?_
                          obtain ⟨_, ⟨rfl, t_896, hk_897⟩, o_c_895⟩ := hH h0 _ k_h0
                          refine hg_get hx hb hG igX12 hown hK o_c_895 rfl 9 (by decide) (hG _ mw_1293) rfl dX12_readAct_188 ?_
                          rw [exa_887]
                          refine va_callv (va_runV (As := [.int xa_887]) (rest := []) ⟨hx, hb, hml, hown, hts⟩ (c_X12_fault_p l g Ty G_872 H.size h0 xa_887 k_h0 (g.2.2 101) 80 (G_872.2.1 (g.2.2 101)) (G_872.2.1 (g.2.2 115)) (G.1 107) (G.1 108) (G_872.1 114) 80 xa_887 xw_886 ⟨u_885, hmk.2.1, rfl, (fun _ _ => rfl), u_880, u_881, rfl, exa_887, exw_886, (rg_w r7 (by decide) (by decide)), by decide, Or.inl (show ((G.1 107) : Int32).toInt ≤ 80 from (rg_w (a2 := 0) (b2 := 80) r7 (by decide) (by decide)).2), by decide, by decide, (rg_w r9_888 (by decide) (by decide))⟩) (cwV 1 hts (gwV mw_1475 mw_1477 mw_42 mw_88 mw_1478) rfl rfl rfl hv_X12_fault ⟨Nat.le_of_ble_eq_true rfl, Nat.le_of_ble_eq_true rfl⟩) ⟨PcT_blind, hg_recv hK o_c_895 rfl, PcT_pre hK hH⟩ rfl rfl hl.1 rfl (lv_room (Nat.le_of_ble_eq_true rfl)) dX12_readAct_191 ⟨Nat.zero_le _, Nat.zero_le _⟩) hS (fun q _ h => AF.mono hS.1 h) (fun q h => AF.mono hS.1 h) (fun ux_898 t H locs ht hvm hx_898 hB hz hk hS => ?_)
                          obtain ⟨eTx_898, eGx_898⟩ := hx_898
                          obtain ⟨G_899, eG_899⟩ : ∃ z, z = ux_898.2 := ⟨_, rfl⟩
                          rw [← eG_899] at eGx_898
                          have pq_900 := flt_pr eGx_898 (rg_w r9_888 (by decide) (by decide))
                          obtain ⟨hg_902, hm_903, hq_904⟩ := eGx_898
                          have hfr_905 : FR [109, 110] [] [] G_872 G_899 := FR.ps FR.rf hg_902 (by decide) (by decide)
                          have fr_906 : FR [109, 110, 117] [(g.2.2 116), (g.2.2 130)] [] G G_899 := FR.tr fr_879 hfr_905 (by decide) (fun _ _ => trivial) (by decide)
                          have u_907 : G_899.1 107 = (G.1 107) := (hfr_905.1 107 (by decide)).trans u_880
                          have u_908 : G_899.1 108 = (G.1 108) := (hfr_905.1 108 (by decide)).trans u_881
                          have u_909 : G_899.1 117 = xl_829 := (hfr_905.1 117 (by decide)).trans u_882
                          have w_910 : G_899.2.1 (g.2.2 130) = f_838 := (hfr_905.2.1 (g.2.2 130) trivial).trans w_883
                          have w_911 : G_899.2.1 (g.2.2 116) = f_828 := (hfr_905.2.1 (g.2.2 116) trivial).trans w_884
                          have u_912 : G_899.2.2 106 = some (g.2.2 101) := (hfr_905.2.2 106 (by decide)).trans u_885
                          obtain ⟨xw_913, exw_913⟩ : ∃ z : Int32, G_899.1 110 = z := ⟨_, rfl⟩
                          have e9_914 := pq_900.1
                          rw [exw_913] at pq_900
                          have hH : HT g Ty G_899 H := by rw [← ht, ← eTx_898, eG_899]; exact hB
                          exact W.vret hx hb hr (fun t ht hWm => ⟨⟨(Ty, G_899), rfl, ⟨rfl, ⟨fr_906, (by rw [w_911, w_910, u_909, e9_914, exw_913]; exact ⟨by have z0 := hlm.1; have z1 := hlm.2; have z2 := qx_781; have z3 := t_833; have z4 := t_834; have z5 := t_835; have z6 := t_862; have z7 := t_870; have z8 := t_894; omega, rp_832.1.1, ac_848, by have z0 := hlm.1; have z1 := hlm.2; have z2 := qx_781; have z3 := t_833; have z4 := t_834; have z5 := t_835; have z6 := t_862; have z7 := t_870; have z8 := t_894; omega, (rg_w r9_888 (by decide) (by decide)), (pq_900.2.2 (by rw [pq_873.1]; exact rp_832.2.1)), by have z0 := hlm.1; have z1 := hlm.2; have z2 := qx_781; have z3 := t_833; have z4 := t_834; have z5 := t_835; have z6 := t_862; have z7 := t_870; have z8 := t_894; omega, (fun q => absurd q pq_900.2.1)⟩)⟩⟩, by show HT g Ty G_899 t.heap; rw [ht]; exact hH⟩, hS.F ht⟩) hS.2.2 dX12_readAct_194
                    · exact rg_noE r_780 rl_118 c_865 (by decide)
            · have r_915 : rgI (0) (0) x_814 := rg_w (rg_eq rl_0 c_815) (by decide) (by decide)
              exact W.vret hx hb hr (fun t ht hWm => ⟨⟨(Ty, G_797), rfl, ⟨rfl, ⟨fr_799, (by rw [w_805, w_806, u_803, u_804, u_802]; exact ⟨by have z0 := hlm.1; have z1 := hlm.2; have z2 := qx_781; omega, (fun _ _ => rfl), ac_808, by have z0 := hlm.1; have z1 := hlm.2; have z2 := qx_781; omega, (rg_w r9_782 (by decide) (by decide)), w0, by have z0 := hlm.1; have z1 := hlm.2; have z2 := qx_781; omega, (fun q => absurd q (fin_0 hx_814.2 c_815))⟩)⟩⟩, by show HT g Ty G_797 t.heap; rw [ht]; exact hH⟩, hS.F ht⟩) hS.2.2 dX12_readAct_95
          · exact rg_noE r_780 rl_107 c_810 (by decide)
        · refine lv_iload_n hx hb dX12_readAct_29 rfl (lv_at hl 0 rfl) ?_
          refine lv_bipush (v := 118) hx hb dX12_readAct_30 (by decide) ?_
          refine lv_icmp_eq (tgt := 50) hx hb dX12_readAct_32 (by decide) (fun c_916 => ?_) (fun c_916 => ?_)
          · have r_917 : rgI (118) (118) x_4 := rg_w (rg_eq rl_118 c_916) (by decide) (by decide)
            refine lv_aload_n hx hb dX12_readAct_50 rfl (lv_at hl 1 rfl) ?_
            refine lv_dup hx hb dX12_readAct_51 rfl ?_
            refine hg_get hx hb hG igX12 hown hK o_c_1 rfl 9 (by decide) (hG _ mw_1293) rfl dX12_readAct_52 ?_
            refine lv_iconst (v := 1) hx hb dX12_readAct_55 (by decide) ?_
            refine lv_iadd hx hb dX12_readAct_56 ?_
            refine lv_topi (fun x_918 ex_918 => ?_)
            have rx_918 : rgI (1) (81) x_918 := by rw [ex_918]; exact rg_w (rg_add r9 rl_1 (by decide) (by decide)) (by decide) (by decide)
            have qx_918 : x_918.toInt = ((G.1 109) : Int32).toInt + 1 := by rw [ex_918]; exact rg_addE r9 rl_1 (by decide) (by decide)
            have r9_919 : rgI 1 80 x_918 := at_up (h := 0) (here_lt (nh_eq hx_4.2 c_916 (by decide))) r7 r9 qx_918
            refine hg_put (ty := .int) hx hb hG igX12 tyX12 tyX12_ok nmX12 hown hK hS o_c_1 (AF.of k_h0) rfl 9 (by decide) (hG _ mw_1293) rfl (by decide +kernel) rfl rfl (Nat.le_of_ble_eq_true rfl) dX12_readAct_57 (fun H locs o_c_1 hz oq hS => ?_)
            obtain ⟨G_920, eG_920⟩ : ∃ z : Gh, z = gset G 109 x_918 := ⟨_, rfl⟩
            have hH : HT g Ty G_920 H := by rw [eG_920]; exact HT.putN 109 x_918 hH k_h0 ⟨rfl, t_2, hk_3⟩ o_c_1 oq (Or.inr (Or.inr (Or.inr (Or.inr (Or.inr ⟨by decide, t_2⟩)))))
            have fr_921 : FR [109, 110, 117] [(g.2.2 116), (g.2.2 130)] [] G G_920 := FR.n FR.rf eG_920 (by decide)
            have u_922 : G_920.1 107 = (G.1 107) := by rw [eG_920]; exact (gs_ne (by decide))
            have u_923 : G_920.1 108 = (G.1 108) := by rw [eG_920]; exact (gs_ne (by decide))
            have u_924 : G_920.1 110 = (G.1 110) := by rw [eG_920]; exact (gs_ne (by decide))
            have u_925 : G_920.1 117 = (G.1 117) := by rw [eG_920]; exact (gs_ne (by decide))
            have u_926 : G_920.1 109 = x_918 := by rw [eG_920]; exact gs_eq
            have w_927 : G_920.2.1 (g.2.2 116) = (G.2.1 (g.2.2 116)) := by rw [eG_920]; exact rfl
            have w_928 : G_920.2.1 (g.2.2 130) = (G.2.1 (g.2.2 130)) := by rw [eG_920]; exact rfl
            have u_929 : G_920.2.2 106 = some (g.2.2 101) := by rw [eG_920]; exact r6
            clear oq hz
            refine lv_aload_n hx hb dX12_readAct_60 rfl (lv_at hl 1 rfl) ?_
            obtain ⟨_, ⟨rfl, t_931, hk_932⟩, o_c_930⟩ := hH h0 _ k_h0
            refine hg_get hx hb hG igX12 hown hK o_c_930 rfl 30 (by decide) (hG _ mw_1314) rfl dX12_readAct_61 ?_
            refine lv_iload_n hx hb dX12_readAct_64 rfl (lv_at hl 2 rfl) ?_
            refine lv_iload_n hx hb dX12_readAct_65 rfl (lv_at hl 0 rfl) ?_
            obtain ⟨_, rfl, o_c_933⟩ := hH (g.2.2 130) _ hk_932.2.2.2.2.2.2.2.2.2.2.2.1
            have o_c_933 : va_at g.1 vwCl ((g.2.2 130), .inl (g.2.1 1, 320, .inl (G_920.2.1 (g.2.2 130)))) H := o_c_933
            refine hg_iast hx hb hK hS o_c_933 (AF.of hk_932.2.2.2.2.2.2.2.2.2.2.2.1) (rg_in (n := 320) pr0 (by decide) (by decide)) dX12_readAct_66 (fun H locs o_c_933 hz oq hS => ?_)
            obtain ⟨G_934, eG_934⟩ : ∃ z : Gh, z = aset G_920 (g.2.2 130) (upd (G_920.2.1 (g.2.2 130)) (a0 : Int32).toNatClampNeg x_4) := ⟨_, rfl⟩
            have hH : HT g Ty G_934 H := by rw [eG_934]; exact HT.putA (upd (G_920.2.1 (g.2.2 130)) (a0 : Int32).toNatClampNeg x_4) hH hk_932.2.2.2.2.2.2.2.2.2.2.2.1 cf30 o_c_933 oq
            obtain ⟨f_935, ef_935⟩ : ∃ z : Nat → Int32, z = (upd (G.2.1 (g.2.2 130)) (a0 : Int32).toNatClampNeg x_4) := ⟨_, rfl⟩
            have eaf_935 : G_934 = aset G_920 (g.2.2 130) f_935 := by rw [eG_934, ef_935, w_928]
            have fr_936 : FR [109, 110, 117] [(g.2.2 116), (g.2.2 130)] [] G G_934 := FR.a fr_921 eaf_935 (fun b h => h.2.1)
            have u_937 : G_934.1 107 = (G.1 107) := by rw [eaf_935]; exact u_922
            have u_938 : G_934.1 108 = (G.1 108) := by rw [eaf_935]; exact u_923
            have u_939 : G_934.1 110 = (G.1 110) := by rw [eaf_935]; exact u_924
            have u_940 : G_934.1 117 = (G.1 117) := by rw [eaf_935]; exact u_925
            have u_941 : G_934.1 109 = x_918 := by rw [eaf_935]; exact u_926
            have w_942 : G_934.2.1 (g.2.2 116) = (G.2.1 (g.2.2 116)) := by rw [eaf_935]; exact (aset_ne (ne_kd hmk.2.2.2.2.1 hmk.2.2.2.2.2.2.2.2.2.2.2.1 (by decide))).trans w_927
            have w_943 : G_934.2.1 (g.2.2 130) = f_935 := by rw [eaf_935]; exact aset_eq
            have u_944 : G_934.2.2 106 = some (g.2.2 101) := by rw [eaf_935]; exact u_929
            clear oq hz
            have ac_945 := ac_s (fun _ _ => rfl) ef_935 (show a0.toNatClampNeg = a0.toNatClampNeg + 0 from rfl) (by decide)
            have av_946 : f_935 (a0.toNatClampNeg + 0) = x_4 := ac_v ef_935 (show a0.toNatClampNeg = a0.toNatClampNeg + 0 from rfl)
            refine lv_iload_n hx hb dX12_readAct_67 rfl (lv_at hl 0 rfl) ?_
            refine lv_bipush (v := 107) hx hb dX12_readAct_68 (by decide) ?_
            refine lv_icmp_ne (tgt := 88) hx hb dX12_readAct_70 (by decide) (fun c_947 => ?_) (fun c_947 => ?_)
            · refine lv_aload_n hx hb dX12_readAct_88 rfl (lv_at hl 1 rfl) ?_
              obtain ⟨_, ⟨rfl, t_949, hk_950⟩, o_c_948⟩ := hH h0 _ k_h0
              refine vp_callSi (W.runV (As := []) (rest := []) ⟨hx, hb, hml, hown, hts⟩ (c_X12_fine_p l g Ty G_934 h0 k_h0 (g.2.2 101) 80 (G_934.2.1 (g.2.2 101)) (G_934.2.1 (g.2.2 115)) (G.1 107) (G.1 108) (G_934.1 114) 80 x_918 (G.1 110) ⟨u_944, hmk.2.1, rfl, (fun _ _ => rfl), u_937, u_938, rfl, u_941, u_939, (rg_w r7 (by decide) (by decide)), by decide, Or.inl (show ((G.1 107) : Int32).toInt ≤ 80 from (rg_w (a2 := 0) (b2 := 80) r7 (by decide) (by decide)).2), by decide, by decide, (rg_w r9_919 (by decide) (by decide))⟩) (cwV 0 hts (gwV mw_1463 mw_1465 mw_39 mw_88 mw_1466) rfl rfl rfl hv_X12_fine ⟨Nat.le_of_ble_eq_true rfl, Nat.le_of_ble_eq_true rfl⟩) ⟨PcH_blind, hg_recv hK o_c_948 rfl, PcH_pre hK hH⟩ rfl rfl hl.1 rfl (lv_room (Nat.le_of_ble_eq_true rfl)) dX12_readAct_89 ⟨Nat.zero_le _, Nat.zero_le _⟩) (fun x_951 hx_951 => ?_)
              have rx_951 : rgI (0) (1) x_951 := hx_951.1
              refine lv_if_ne (tgt := 96) hx hb dX12_readAct_92 (by decide) (fun c_952 => ?_) (fun c_952 => ?_)
              · have r_953 : rgI (1) (1) x_951 := rg_w (rg_neL rx_951 rl_0 c_952) (by decide) (by decide)
                refine lv_aload_n hx hb dX12_readAct_96 rfl (lv_at hl 1 rfl) ?_
                refine hg_get hx hb hG igX12 hown hK o_c_948 rfl 30 (by decide) (hG _ mw_1314) rfl dX12_readAct_97 ?_
                refine lv_iload_n hx hb dX12_readAct_100 rfl (lv_at hl 2 rfl) ?_
                refine lv_iconst (v := 1) hx hb dX12_readAct_101 (by decide) ?_
                refine lv_iadd hx hb dX12_readAct_102 ?_
                refine lv_topi (fun x_954 ex_954 => ?_)
                have rx_954 : rgI (1) (317) x_954 := by rw [ex_954]; exact rg_w (rg_add pr0 rl_1 (by decide) (by decide)) (by decide) (by decide)
                have qx_954 : x_954.toInt = (a0 : Int32).toInt + 1 := by rw [ex_954]; exact rg_addE pr0 rl_1 (by decide) (by decide)
                refine lv_aload_n hx hb dX12_readAct_103 rfl (lv_at hl 1 rfl) ?_
                have hlm_955 : 0 ≤ ((G.1 117) : Int32).toInt ∧ ((G.1 117) : Int32).toInt ≤ (x_918 : Int32).toInt + 1 := ⟨by have z0 := hlm.1; have z1 := hlm.2; have z2 := qx_918; omega, by have z0 := hlm.1; have z1 := hlm.2; have z2 := qx_918; omega⟩
                refine va_calli (va_runV (As := []) (rest := [.int x_954, .ref (g.2.2 130)]) ⟨hx, hb, hml, hown, hts⟩ (c_X12_readPath l g Ty G_934 H.size h0 k_h0 u_944 (by rw [u_937]; exact (rg_w r7 (by decide) (by decide))) (by rw [u_941]; exact (rg_w r9_919 (by decide) (by decide))) (by rw [u_939]; exact w0) hLD (by rw [u_940, u_941]; exact hlm_955)) (cwV 0 hts (gwV mw_1498 mw_1500 mw_46 mw_88 mw_1501) rfl rfl rfl hv_X12_readPath ⟨Nat.le_of_ble_eq_true rfl, Nat.le_of_ble_eq_true rfl⟩) ⟨PcT_blind, hg_recv hK o_c_948 rfl, PcT_pre hK hH⟩ rfl rfl hl.1 rfl (lv_room (Nat.le_of_ble_eq_true rfl)) dX12_readAct_104 ⟨Nat.zero_le _, Nat.zero_le _⟩) hS (fun q _ h => AF.mono hS.1 h) (fun q h => AF.mono hS.1 h) (fun x_956 ux_956 t H locs ht hvm hx_956 hB hz hk hS => ?_)
                obtain ⟨eTx_956, eGx_956⟩ := hx_956
                obtain ⟨G_957, eG_957⟩ : ∃ z, z = ux_956.2 := ⟨_, rfl⟩
                rw [← eG_957] at eGx_956
                obtain ⟨hfr_958, hex_959⟩ := eGx_956
                have fr_960 : FR [109, 110, 117] [(g.2.2 116), (g.2.2 130)] [] G G_957 := FR.tr fr_936 hfr_958 (by decide) (fun b h => ⟨h.1, trivial⟩) (by decide)
                have u_961 : G_957.1 107 = (G.1 107) := (hfr_958.1 107 (by decide)).trans u_937
                have u_962 : G_957.1 108 = (G.1 108) := (hfr_958.1 108 (by decide)).trans u_938
                have w_963 : G_957.2.1 (g.2.2 130) = f_935 := (hfr_958.2.1 (g.2.2 130) ⟨(ne_kd hmk.2.2.2.2.2.2.2.2.2.2.2.1 hmk.2.2.2.2.1 (by decide)), trivial⟩).trans w_943
                have u_964 : G_957.2.2 106 = some (g.2.2 101) := (hfr_958.2.2 106 (by decide)).trans u_944
                obtain ⟨f_965, ef_965⟩ : ∃ z : Nat → Int32, G_957.2.1 (g.2.2 116) = z := ⟨_, rfl⟩
                obtain ⟨xl_966, exl_966⟩ : ∃ z : Int32, G_957.1 117 = z := ⟨_, rfl⟩
                obtain ⟨xa_967, exa_967⟩ : ∃ z : Int32, G_957.1 109 = z := ⟨_, rfl⟩
                obtain ⟨xw_968, exw_968⟩ : ∃ z : Int32, G_957.1 110 = z := ⟨_, rfl⟩
                have rp_969 := hex_959
                rw [ef_965, exl_966, exa_967, exw_968, w_942, u_940, u_941] at rp_969
                have hH : HT g Ty G_957 H := by rw [← ht, ← eTx_956, eG_957]; exact hB
                have t_970 := rp_969.1.2.2.1
                have t_971 := rp_969.1.2.2.2.1
                have t_972 := rp_969.2.2.2.1
                obtain ⟨_, rfl, o_c_973⟩ := hH (g.2.2 130) _ hk_950.2.2.2.2.2.2.2.2.2.2.2.1
                have o_c_973 : va_at g.1 vwCl ((g.2.2 130), .inl (g.2.1 1, 320, .inl (G_957.2.1 (g.2.2 130)))) H := o_c_973
                refine hg_iast hx hb hK hS o_c_973 (AF.of hk_950.2.2.2.2.2.2.2.2.2.2.2.1) (rg_in (n := 320) rx_954 (by decide) (by decide)) dX12_readAct_107 (fun H locs o_c_973 hz oq hS => ?_)
                obtain ⟨G_974, eG_974⟩ : ∃ z : Gh, z = aset G_957 (g.2.2 130) (upd (G_957.2.1 (g.2.2 130)) (x_954 : Int32).toNatClampNeg x_956) := ⟨_, rfl⟩
                have hH : HT g Ty G_974 H := by rw [eG_974]; exact HT.putA (upd (G_957.2.1 (g.2.2 130)) (x_954 : Int32).toNatClampNeg x_956) hH hk_950.2.2.2.2.2.2.2.2.2.2.2.1 cf30 o_c_973 oq
                obtain ⟨f_975, ef_975⟩ : ∃ z : Nat → Int32, z = (upd f_935 (x_954 : Int32).toNatClampNeg x_956) := ⟨_, rfl⟩
                have eaf_975 : G_974 = aset G_957 (g.2.2 130) f_975 := by rw [eG_974, ef_975, w_963]
                have fr_976 : FR [109, 110, 117] [(g.2.2 116), (g.2.2 130)] [] G G_974 := FR.a fr_960 eaf_975 (fun b h => h.2.1)
                have u_977 : G_974.1 107 = (G.1 107) := by rw [eaf_975]; exact u_961
                have u_978 : G_974.1 108 = (G.1 108) := by rw [eaf_975]; exact u_962
                have u_979 : G_974.1 109 = xa_967 := by rw [eaf_975]; exact exa_967
                have u_980 : G_974.1 110 = xw_968 := by rw [eaf_975]; exact exw_968
                have u_981 : G_974.1 117 = xl_966 := by rw [eaf_975]; exact exl_966
                have w_982 : G_974.2.1 (g.2.2 130) = f_975 := by rw [eaf_975]; exact aset_eq
                have w_983 : G_974.2.1 (g.2.2 116) = f_965 := by rw [eaf_975]; exact (aset_ne (ne_kd hmk.2.2.2.2.1 hmk.2.2.2.2.2.2.2.2.2.2.2.1 (by decide))).trans ef_965
                have u_984 : G_974.2.2 106 = some (g.2.2 101) := by rw [eaf_975]; exact u_964
                clear oq hz
                have ac_985 := ac_s ac_945 ef_975 (ai_d ex_954 pr0 rfl (by decide)) (by decide)
                have av_986 : f_975 (a0.toNatClampNeg + 0) = x_4 := ac_k av_946 ef_975 (ai_d ex_954 pr0 rfl (by decide)) (by decide)
                have av_987 : f_975 (a0.toNatClampNeg + 1) = x_956 := ac_v ef_975 (ai_d ex_954 pr0 rfl (by decide))
                refine lv_aload_n hx hb dX12_readAct_108 rfl (lv_at hl 1 rfl) ?_
                obtain ⟨_, ⟨rfl, t_989, hk_990⟩, o_c_988⟩ := hH h0 _ k_h0
                refine vp_callSi (W.runV (As := []) (rest := []) ⟨hx, hb, hml, hown, hts⟩ (c_X12_fine_p l g Ty G_974 h0 k_h0 (g.2.2 101) 80 (G_974.2.1 (g.2.2 101)) (G_974.2.1 (g.2.2 115)) (G.1 107) (G.1 108) (G_974.1 114) 80 xa_967 xw_968 ⟨u_984, hmk.2.1, rfl, (fun _ _ => rfl), u_977, u_978, rfl, u_979, u_980, (rg_w r7 (by decide) (by decide)), by decide, Or.inl (show ((G.1 107) : Int32).toInt ≤ 80 from (rg_w (a2 := 0) (b2 := 80) r7 (by decide) (by decide)).2), by decide, by decide, (rg_w rp_969.2.2.1 (by decide) (by decide))⟩) (cwV 0 hts (gwV mw_1463 mw_1465 mw_39 mw_88 mw_1466) rfl rfl rfl hv_X12_fine ⟨Nat.le_of_ble_eq_true rfl, Nat.le_of_ble_eq_true rfl⟩) ⟨PcH_blind, hg_recv hK o_c_988 rfl, PcH_pre hK hH⟩ rfl rfl hl.1 rfl (lv_room (Nat.le_of_ble_eq_true rfl)) dX12_readAct_109 ⟨Nat.zero_le _, Nat.zero_le _⟩) (fun x_991 hx_991 => ?_)
                have rx_991 : rgI (0) (1) x_991 := hx_991.1
                refine lv_if_eq (tgt := 170) hx hb dX12_readAct_112 (by decide) (fun c_992 => ?_) (fun c_992 => ?_)
                · have r_993 : rgI (0) (0) x_991 := rg_w (rg_eq rl_0 c_992) (by decide) (by decide)
                  refine lv_aload_n hx hb dX12_readAct_170 rfl (lv_at hl 1 rfl) ?_
                  refine vp_callSi (W.runV (As := []) (rest := []) ⟨hx, hb, hml, hown, hts⟩ (c_X12_fine_p l g Ty G_974 h0 k_h0 (g.2.2 101) 80 (G_974.2.1 (g.2.2 101)) (G_974.2.1 (g.2.2 115)) (G.1 107) (G.1 108) (G_974.1 114) 80 xa_967 xw_968 ⟨u_984, hmk.2.1, rfl, (fun _ _ => rfl), u_977, u_978, rfl, u_979, u_980, (rg_w r7 (by decide) (by decide)), by decide, Or.inl (show ((G.1 107) : Int32).toInt ≤ 80 from (rg_w (a2 := 0) (b2 := 80) r7 (by decide) (by decide)).2), by decide, by decide, (rg_w rp_969.2.2.1 (by decide) (by decide))⟩) (cwV 0 hts (gwV mw_1463 mw_1465 mw_39 mw_88 mw_1466) rfl rfl rfl hv_X12_fine ⟨Nat.le_of_ble_eq_true rfl, Nat.le_of_ble_eq_true rfl⟩) ⟨PcH_blind, hg_recv hK o_c_988 rfl, PcH_pre hK hH⟩ rfl rfl hl.1 rfl (lv_room (Nat.le_of_ble_eq_true rfl)) dX12_readAct_171 ⟨Nat.zero_le _, Nat.zero_le _⟩) (fun x_994 hx_994 => ?_)
                  have rx_994 : rgI (0) (1) x_994 := hx_994.1
                  refine lv_if_eq (tgt := 194) hx hb dX12_readAct_174 (by decide) (fun c_995 => ?_) (fun c_995 => ?_)
                  · have r_996 : rgI (0) (0) x_994 := rg_w (rg_eq rl_0 c_995) (by decide) (by decide)
                    exact W.vret hx hb hr (fun t ht hWm => ⟨⟨(Ty, G_974), rfl, ⟨rfl, ⟨fr_976, (by rw [w_983, w_982, u_981, u_979, u_980]; exact ⟨by have z0 := hlm.1; have z1 := hlm.2; have z2 := qx_918; have z3 := t_970; have z4 := t_971; have z5 := t_972; omega, rp_969.1.1, ac_985, by have z0 := hlm.1; have z1 := hlm.2; have z2 := qx_918; have z3 := t_970; have z4 := t_971; have z5 := t_972; omega, (rg_w rp_969.2.2.1 (by decide) (by decide)), rp_969.2.1, by have z0 := hlm.1; have z1 := hlm.2; have z2 := qx_918; have z3 := t_970; have z4 := t_971; have z5 := t_972; omega, (fun q => absurd q (fin_0 hx_994.2 c_995))⟩)⟩⟩, by show HT g Ty G_974 t.heap; rw [ht]; exact hH⟩, hS.F ht⟩) hS.2.2 dX12_readAct_194
                  · have r_997 : rgI (1) (1) x_994 := rg_w (rg_neL rx_994 rl_0 c_995) (by decide) (by decide)
                    exact absurd (fin_1 hx_994.2 c_995) (fin_0 hx_991.2 c_992)
                · have r_998 : rgI (1) (1) x_991 := rg_w (rg_neL rx_991 rl_0 c_992) (by decide) (by decide)
                  have t_999 := rp_969.1.2.2.2.2 (fin_1 hx_991.2 c_992)
                  refine lv_iload_n hx hb dX12_readAct_115 rfl (lv_at hl 0 rfl) ?_
                  refine lv_bipush (v := 98) hx hb dX12_readAct_116 (by decide) ?_
                  refine lv_icmp_eq (tgt := 133) hx hb dX12_readAct_118 (by decide) (fun c_1000 => ?_) (fun c_1000 => ?_)
                  · exact rg_noE r_917 rl_98 c_1000 (by decide)
                  · refine lv_iload_n hx hb dX12_readAct_121 rfl (lv_at hl 0 rfl) ?_
                    refine lv_bipush (v := 114) hx hb dX12_readAct_122 (by decide) ?_
                    refine lv_icmp_eq (tgt := 133) hx hb dX12_readAct_124 (by decide) (fun c_1001 => ?_) (fun c_1001 => ?_)
                    · exact rg_noE r_917 rl_114 c_1001 (by decide)
                    · refine lv_iload_n hx hb dX12_readAct_127 rfl (lv_at hl 0 rfl) ?_
                      refine lv_bipush (v := 118) hx hb dX12_readAct_128 (by decide) ?_
                      refine lv_icmp_ne (tgt := 170) hx hb dX12_readAct_130 (by decide) (fun c_1002 => ?_) (fun c_1002 => ?_)
                      · exact rg_clash (rg_neL r_917 rl_118 c_1002) (r_917) (by decide)
                      · refine lv_aload_n hx hb dX12_readAct_133 rfl (lv_at hl 1 rfl) ?_
                        refine lv_bipush (v := 58) hx hb dX12_readAct_134 (by decide) ?_
                        refine va_calli (va_runV (As := [.int 58]) (rest := []) ⟨hx, hb, hml, hown, hts⟩ (c_X12_passes l g Ty G_974 H.size h0 58 k_h0 (rg_w rl_58 (by decide) (by decide)) (g.2.2 101) 80 (G_974.2.1 (g.2.2 101)) (G_974.2.1 (g.2.2 115)) (G.1 107) (G.1 108) (G_974.1 114) 80 xa_967 xw_968 ⟨u_984, hmk.2.1, rfl, (fun _ _ => rfl), u_977, u_978, rfl, u_979, u_980, (rg_w r7 (by decide) (by decide)), by decide, Or.inl (show ((G.1 107) : Int32).toInt ≤ 80 from (rg_w (a2 := 0) (b2 := 80) r7 (by decide) (by decide)).2), by decide, by decide, (rg_w rp_969.2.2.1 (by decide) (by decide))⟩) (cwV 1 hts (gwV mw_1459 mw_1461 mw_38 mw_88 mw_1462) rfl rfl rfl hv_X12_passes ⟨Nat.le_of_ble_eq_true rfl, Nat.le_of_ble_eq_true rfl⟩) ⟨PcT_blind, hg_recv hK o_c_988 rfl, PcT_pre hK hH⟩ rfl rfl hl.1 rfl (lv_room (Nat.le_of_ble_eq_true rfl)) dX12_readAct_136 ⟨Nat.zero_le _, Nat.zero_le _⟩) hS (fun q _ h => AF.mono hS.1 h) (fun q h => AF.mono hS.1 h) (fun x_1003 ux_1003 t H locs ht hvm hx_1003 hB hz hk hS => ?_)
                        obtain ⟨hx_1003, fx_1003⟩ := hx_1003
                        obtain ⟨eTx_1003, eGx_1003⟩ := fx_1003
                        obtain ⟨G_1004, eG_1004⟩ : ∃ z, z = ux_1003.2 := ⟨_, rfl⟩
                        rw [← eG_1004] at eGx_1003
                        have pq_1005 := pas_pr eGx_1003 (rg_w rp_969.2.2.1 (by decide) (by decide))
                        obtain ⟨hr_1006, hg_1007, hm_1008, hq_1009⟩ := eGx_1003
                        have hfr_1010 : FR [109, 110] [] [] G_974 G_1004 := FR.ps FR.rf hg_1007 (by decide) (by decide)
                        have fr_1011 : FR [109, 110, 117] [(g.2.2 116), (g.2.2 130)] [] G G_1004 := FR.tr fr_976 hfr_1010 (by decide) (fun _ _ => trivial) (by decide)
                        have u_1012 : G_1004.1 107 = (G.1 107) := (hfr_1010.1 107 (by decide)).trans u_977
                        have u_1013 : G_1004.1 108 = (G.1 108) := (hfr_1010.1 108 (by decide)).trans u_978
                        have u_1014 : G_1004.1 117 = xl_966 := (hfr_1010.1 117 (by decide)).trans u_981
                        have w_1015 : G_1004.2.1 (g.2.2 130) = f_975 := (hfr_1010.2.1 (g.2.2 130) trivial).trans w_982
                        have w_1016 : G_1004.2.1 (g.2.2 116) = f_965 := (hfr_1010.2.1 (g.2.2 116) trivial).trans w_983
                        have u_1017 : G_1004.2.2 106 = some (g.2.2 101) := (hfr_1010.2.2 106 (by decide)).trans u_984
                        obtain ⟨xw_1018, exw_1018⟩ : ∃ z : Int32, G_1004.1 110 = z := ⟨_, rfl⟩
                        obtain ⟨xa_1019, exa_1019⟩ : ∃ z : Int32, G_1004.1 109 = z := ⟨_, rfl⟩
                        have r9_1020 : rgI 0 80 xa_1019 := by rw [← exa_1019, pst109 hg_1007]; exact hq_1009
                        rw [exa_1019, exw_1018] at pq_1005
                        have hH : HT g Ty G_1004 H := by rw [← ht, ← eTx_1003, eG_1004]; exact hB
                        have rx_1003 : rgI (0) (1) x_1003 := hx_1003.1
                        refine lv_if_ne (tgt := 150) hx hb dX12_readAct_139 (by decide) (fun c_1021 => ?_) (fun c_1021 => ?_)
                        · have r_1022 : rgI (1) (1) x_1003 := rg_w (rg_neL rx_1003 rl_0 c_1021) (by decide) (by decide)
                          have t_1023 := (pq_1005.2.resolve_left (fun z => c_1021 z.1)).2.1
                          refine lv_aload_n hx hb dX12_readAct_150 rfl (lv_at hl 1 rfl) ?_
                          obtain ⟨_, ⟨rfl, t_1025, hk_1026⟩, o_c_1024⟩ := hH h0 _ k_h0
                          refine vp_callSi (W.runV (As := []) (rest := []) ⟨hx, hb, hml, hown, hts⟩ (c_X12_fine_p l g Ty G_1004 h0 k_h0 (g.2.2 101) 80 (G_1004.2.1 (g.2.2 101)) (G_1004.2.1 (g.2.2 115)) (G.1 107) (G.1 108) (G_1004.1 114) 80 xa_1019 xw_1018 ⟨u_1017, hmk.2.1, rfl, (fun _ _ => rfl), u_1012, u_1013, rfl, exa_1019, exw_1018, (rg_w r7 (by decide) (by decide)), by decide, Or.inl (show ((G.1 107) : Int32).toInt ≤ 80 from (rg_w (a2 := 0) (b2 := 80) r7 (by decide) (by decide)).2), by decide, by decide, (rg_w r9_1020 (by decide) (by decide))⟩) (cwV 0 hts (gwV mw_1463 mw_1465 mw_39 mw_88 mw_1466) rfl rfl rfl hv_X12_fine ⟨Nat.le_of_ble_eq_true rfl, Nat.le_of_ble_eq_true rfl⟩) ⟨PcH_blind, hg_recv hK o_c_1024 rfl, PcH_pre hK hH⟩ rfl rfl hl.1 rfl (lv_room (Nat.le_of_ble_eq_true rfl)) dX12_readAct_151 ⟨Nat.zero_le _, Nat.zero_le _⟩) (fun x_1027 hx_1027 => ?_)
                          have rx_1027 : rgI (0) (1) x_1027 := hx_1027.1
                          refine lv_if_ne (tgt := 158) hx hb dX12_readAct_154 (by decide) (fun c_1028 => ?_) (fun c_1028 => ?_)
                          · have r_1029 : rgI (1) (1) x_1027 := rg_w (rg_neL rx_1027 rl_0 c_1028) (by decide) (by decide)
                            refine lv_aload_n hx hb dX12_readAct_158 rfl (lv_at hl 1 rfl) ?_
                            refine hg_get hx hb hG igX12 hown hK o_c_1024 rfl 30 (by decide) (hG _ mw_1314) rfl dX12_readAct_159 ?_
                            refine lv_iload_n hx hb dX12_readAct_162 rfl (lv_at hl 2 rfl) ?_
                            refine lv_iconst (v := 2) hx hb dX12_readAct_163 (by decide) ?_
                            refine lv_iadd hx hb dX12_readAct_164 ?_
                            refine lv_topi (fun x_1030 ex_1030 => ?_)
                            have rx_1030 : rgI (2) (318) x_1030 := by rw [ex_1030]; exact rg_w (rg_add pr0 rl_2 (by decide) (by decide)) (by decide) (by decide)
                            have qx_1030 : x_1030.toInt = (a0 : Int32).toInt + 2 := by rw [ex_1030]; exact rg_addE pr0 rl_2 (by decide) (by decide)
                            refine lv_aload_n hx hb dX12_readAct_165 rfl (lv_at hl 1 rfl) ?_
                            have hlm_1031 : 0 ≤ (xl_966 : Int32).toInt ∧ (xl_966 : Int32).toInt ≤ (xa_1019 : Int32).toInt + 1 := ⟨by have z0 := hlm.1; have z1 := hlm.2; have z2 := qx_918; have z3 := t_970; have z4 := t_971; have z5 := t_972; have z6 := t_999; have z7 := t_1023; omega, by have z0 := hlm.1; have z1 := hlm.2; have z2 := qx_918; have z3 := t_970; have z4 := t_971; have z5 := t_972; have z6 := t_999; have z7 := t_1023; omega⟩
                            refine va_calli (va_runV (As := []) (rest := [.int x_1030, .ref (g.2.2 130)]) ⟨hx, hb, hml, hown, hts⟩ (c_X12_readPath l g Ty G_1004 H.size h0 k_h0 u_1017 (by rw [u_1012]; exact (rg_w r7 (by decide) (by decide))) (by rw [exa_1019]; exact (rg_w r9_1020 (by decide) (by decide))) (by rw [exw_1018]; exact (by rw [pq_1005.1]; exact rp_969.2.1)) hLD (by rw [u_1014, exa_1019]; exact hlm_1031)) (cwV 0 hts (gwV mw_1498 mw_1500 mw_46 mw_88 mw_1501) rfl rfl rfl hv_X12_readPath ⟨Nat.le_of_ble_eq_true rfl, Nat.le_of_ble_eq_true rfl⟩) ⟨PcT_blind, hg_recv hK o_c_1024 rfl, PcT_pre hK hH⟩ rfl rfl hl.1 rfl (lv_room (Nat.le_of_ble_eq_true rfl)) dX12_readAct_166 ⟨Nat.zero_le _, Nat.zero_le _⟩) hS (fun q _ h => AF.mono hS.1 h) (fun q h => AF.mono hS.1 h) (fun x_1032 ux_1032 t H locs ht hvm hx_1032 hB hz hk hS => ?_)
                            obtain ⟨eTx_1032, eGx_1032⟩ := hx_1032
                            obtain ⟨G_1033, eG_1033⟩ : ∃ z, z = ux_1032.2 := ⟨_, rfl⟩
                            rw [← eG_1033] at eGx_1032
                            obtain ⟨hfr_1034, hex_1035⟩ := eGx_1032
                            have fr_1036 : FR [109, 110, 117] [(g.2.2 116), (g.2.2 130)] [] G G_1033 := FR.tr fr_1011 hfr_1034 (by decide) (fun b h => ⟨h.1, trivial⟩) (by decide)
                            have u_1037 : G_1033.1 107 = (G.1 107) := (hfr_1034.1 107 (by decide)).trans u_1012
                            have u_1038 : G_1033.1 108 = (G.1 108) := (hfr_1034.1 108 (by decide)).trans u_1013
                            have w_1039 : G_1033.2.1 (g.2.2 130) = f_975 := (hfr_1034.2.1 (g.2.2 130) ⟨(ne_kd hmk.2.2.2.2.2.2.2.2.2.2.2.1 hmk.2.2.2.2.1 (by decide)), trivial⟩).trans w_1015
                            have u_1040 : G_1033.2.2 106 = some (g.2.2 101) := (hfr_1034.2.2 106 (by decide)).trans u_1017
                            obtain ⟨f_1041, ef_1041⟩ : ∃ z : Nat → Int32, G_1033.2.1 (g.2.2 116) = z := ⟨_, rfl⟩
                            obtain ⟨xl_1042, exl_1042⟩ : ∃ z : Int32, G_1033.1 117 = z := ⟨_, rfl⟩
                            obtain ⟨xa_1043, exa_1043⟩ : ∃ z : Int32, G_1033.1 109 = z := ⟨_, rfl⟩
                            obtain ⟨xw_1044, exw_1044⟩ : ∃ z : Int32, G_1033.1 110 = z := ⟨_, rfl⟩
                            have rp_1045 := hex_1035
                            rw [ef_1041, exl_1042, exa_1043, exw_1044, w_1016, u_1014, exa_1019] at rp_1045
                            have hH : HT g Ty G_1033 H := by rw [← ht, ← eTx_1032, eG_1033]; exact hB
                            have t_1046 := rp_1045.1.2.2.1
                            have t_1047 := rp_1045.1.2.2.2.1
                            have t_1048 := rp_1045.2.2.2.1
                            obtain ⟨_, rfl, o_c_1049⟩ := hH (g.2.2 130) _ hk_1026.2.2.2.2.2.2.2.2.2.2.2.1
                            have o_c_1049 : va_at g.1 vwCl ((g.2.2 130), .inl (g.2.1 1, 320, .inl (G_1033.2.1 (g.2.2 130)))) H := o_c_1049
                            refine hg_iast hx hb hK hS o_c_1049 (AF.of hk_1026.2.2.2.2.2.2.2.2.2.2.2.1) (rg_in (n := 320) rx_1030 (by decide) (by decide)) dX12_readAct_169 (fun H locs o_c_1049 hz oq hS => ?_)
                            obtain ⟨G_1050, eG_1050⟩ : ∃ z : Gh, z = aset G_1033 (g.2.2 130) (upd (G_1033.2.1 (g.2.2 130)) (x_1030 : Int32).toNatClampNeg x_1032) := ⟨_, rfl⟩
                            have hH : HT g Ty G_1050 H := by rw [eG_1050]; exact HT.putA (upd (G_1033.2.1 (g.2.2 130)) (x_1030 : Int32).toNatClampNeg x_1032) hH hk_1026.2.2.2.2.2.2.2.2.2.2.2.1 cf30 o_c_1049 oq
                            obtain ⟨f_1051, ef_1051⟩ : ∃ z : Nat → Int32, z = (upd f_975 (x_1030 : Int32).toNatClampNeg x_1032) := ⟨_, rfl⟩
                            have eaf_1051 : G_1050 = aset G_1033 (g.2.2 130) f_1051 := by rw [eG_1050, ef_1051, w_1039]
                            have fr_1052 : FR [109, 110, 117] [(g.2.2 116), (g.2.2 130)] [] G G_1050 := FR.a fr_1036 eaf_1051 (fun b h => h.2.1)
                            have u_1053 : G_1050.1 107 = (G.1 107) := by rw [eaf_1051]; exact u_1037
                            have u_1054 : G_1050.1 108 = (G.1 108) := by rw [eaf_1051]; exact u_1038
                            have u_1055 : G_1050.1 109 = xa_1043 := by rw [eaf_1051]; exact exa_1043
                            have u_1056 : G_1050.1 110 = xw_1044 := by rw [eaf_1051]; exact exw_1044
                            have u_1057 : G_1050.1 117 = xl_1042 := by rw [eaf_1051]; exact exl_1042
                            have w_1058 : G_1050.2.1 (g.2.2 130) = f_1051 := by rw [eaf_1051]; exact aset_eq
                            have w_1059 : G_1050.2.1 (g.2.2 116) = f_1041 := by rw [eaf_1051]; exact (aset_ne (ne_kd hmk.2.2.2.2.1 hmk.2.2.2.2.2.2.2.2.2.2.2.1 (by decide))).trans ef_1041
                            have u_1060 : G_1050.2.2 106 = some (g.2.2 101) := by rw [eaf_1051]; exact u_1040
                            clear oq hz
                            have ac_1061 := ac_s ac_985 ef_1051 (ai_d ex_1030 pr0 rfl (by decide)) (by decide)
                            have av_1062 : f_1051 (a0.toNatClampNeg + 0) = x_4 := ac_k av_986 ef_1051 (ai_d ex_1030 pr0 rfl (by decide)) (by decide)
                            have av_1063 : f_1051 (a0.toNatClampNeg + 1) = x_956 := ac_k av_987 ef_1051 (ai_d ex_1030 pr0 rfl (by decide)) (by decide)
                            have av_1064 : f_1051 (a0.toNatClampNeg + 2) = x_1032 := ac_v ef_1051 (ai_d ex_1030 pr0 rfl (by decide))
                            refine lv_aload_n hx hb dX12_readAct_170 rfl (lv_at hl 1 rfl) ?_
                            obtain ⟨_, ⟨rfl, t_1066, hk_1067⟩, o_c_1065⟩ := hH h0 _ k_h0
                            refine vp_callSi (W.runV (As := []) (rest := []) ⟨hx, hb, hml, hown, hts⟩ (c_X12_fine_p l g Ty G_1050 h0 k_h0 (g.2.2 101) 80 (G_1050.2.1 (g.2.2 101)) (G_1050.2.1 (g.2.2 115)) (G.1 107) (G.1 108) (G_1050.1 114) 80 xa_1043 xw_1044 ⟨u_1060, hmk.2.1, rfl, (fun _ _ => rfl), u_1053, u_1054, rfl, u_1055, u_1056, (rg_w r7 (by decide) (by decide)), by decide, Or.inl (show ((G.1 107) : Int32).toInt ≤ 80 from (rg_w (a2 := 0) (b2 := 80) r7 (by decide) (by decide)).2), by decide, by decide, (rg_w rp_1045.2.2.1 (by decide) (by decide))⟩) (cwV 0 hts (gwV mw_1463 mw_1465 mw_39 mw_88 mw_1466) rfl rfl rfl hv_X12_fine ⟨Nat.le_of_ble_eq_true rfl, Nat.le_of_ble_eq_true rfl⟩) ⟨PcH_blind, hg_recv hK o_c_1065 rfl, PcH_pre hK hH⟩ rfl rfl hl.1 rfl (lv_room (Nat.le_of_ble_eq_true rfl)) dX12_readAct_171 ⟨Nat.zero_le _, Nat.zero_le _⟩) (fun x_1068 hx_1068 => ?_)
                            have rx_1068 : rgI (0) (1) x_1068 := hx_1068.1
                            refine lv_if_eq (tgt := 194) hx hb dX12_readAct_174 (by decide) (fun c_1069 => ?_) (fun c_1069 => ?_)
                            · have r_1070 : rgI (0) (0) x_1068 := rg_w (rg_eq rl_0 c_1069) (by decide) (by decide)
                              exact W.vret hx hb hr (fun t ht hWm => ⟨⟨(Ty, G_1050), rfl, ⟨rfl, ⟨fr_1052, (by rw [w_1059, w_1058, u_1057, u_1055, u_1056]; exact ⟨by have z0 := hlm.1; have z1 := hlm.2; have z2 := qx_918; have z3 := t_970; have z4 := t_971; have z5 := t_972; have z6 := t_999; have z7 := t_1023; have z8 := t_1046; have z9 := t_1047; have z10 := t_1048; omega, (fun j hj => (rp_1045.1.1 j (by have z0 := hlm.1; have z1 := hlm.2; have z2 := qx_918; have z3 := t_970; have z4 := t_971; have z5 := t_972; have z6 := t_999; have z7 := t_1023; have z8 := t_1046; have z9 := t_1047; have z10 := t_1048; have z11 := hj; omega)).trans (rp_969.1.1 j hj)), ac_1061, by have z0 := hlm.1; have z1 := hlm.2; have z2 := qx_918; have z3 := t_970; have z4 := t_971; have z5 := t_972; have z6 := t_999; have z7 := t_1023; have z8 := t_1046; have z9 := t_1047; have z10 := t_1048; omega, (rg_w rp_1045.2.2.1 (by decide) (by decide)), rp_1045.2.1, by have z0 := hlm.1; have z1 := hlm.2; have z2 := qx_918; have z3 := t_970; have z4 := t_971; have z5 := t_972; have z6 := t_999; have z7 := t_1023; have z8 := t_1046; have z9 := t_1047; have z10 := t_1048; omega, (fun q => absurd q (fin_0 hx_1068.2 c_1069))⟩)⟩⟩, by show HT g Ty G_1050 t.heap; rw [ht]; exact hH⟩, hS.F ht⟩) hS.2.2 dX12_readAct_194
                            · have r_1071 : rgI (1) (1) x_1068 := rg_w (rg_neL rx_1068 rl_0 c_1069) (by decide) (by decide)
                              have t_1072 := rp_1045.1.2.2.2.2 (fin_1 hx_1068.2 c_1069)
                              refine lv_aload_n hx hb dX12_readAct_177 rfl (lv_at hl 1 rfl) ?_
                              refine lv_bipush (v := 46) hx hb dX12_readAct_178 (by decide) ?_
                              refine va_calli (va_runV (As := [.int 46]) (rest := []) ⟨hx, hb, hml, hown, hts⟩ (c_X12_passes l g Ty G_1050 H.size h0 46 k_h0 (rg_w rl_46 (by decide) (by decide)) (g.2.2 101) 80 (G_1050.2.1 (g.2.2 101)) (G_1050.2.1 (g.2.2 115)) (G.1 107) (G.1 108) (G_1050.1 114) 80 xa_1043 xw_1044 ⟨u_1060, hmk.2.1, rfl, (fun _ _ => rfl), u_1053, u_1054, rfl, u_1055, u_1056, (rg_w r7 (by decide) (by decide)), by decide, Or.inl (show ((G.1 107) : Int32).toInt ≤ 80 from (rg_w (a2 := 0) (b2 := 80) r7 (by decide) (by decide)).2), by decide, by decide, (rg_w rp_1045.2.2.1 (by decide) (by decide))⟩) (cwV 1 hts (gwV mw_1459 mw_1461 mw_38 mw_88 mw_1462) rfl rfl rfl hv_X12_passes ⟨Nat.le_of_ble_eq_true rfl, Nat.le_of_ble_eq_true rfl⟩) ⟨PcT_blind, hg_recv hK o_c_1065 rfl, PcT_pre hK hH⟩ rfl rfl hl.1 rfl (lv_room (Nat.le_of_ble_eq_true rfl)) dX12_readAct_180 ⟨Nat.zero_le _, Nat.zero_le _⟩) hS (fun q _ h => AF.mono hS.1 h) (fun q h => AF.mono hS.1 h) (fun x_1073 ux_1073 t H locs ht hvm hx_1073 hB hz hk hS => ?_)
                              obtain ⟨hx_1073, fx_1073⟩ := hx_1073
                              obtain ⟨eTx_1073, eGx_1073⟩ := fx_1073
                              obtain ⟨G_1074, eG_1074⟩ : ∃ z, z = ux_1073.2 := ⟨_, rfl⟩
                              rw [← eG_1074] at eGx_1073
                              have pq_1075 := pas_pr eGx_1073 (rg_w rp_1045.2.2.1 (by decide) (by decide))
                              obtain ⟨hr_1076, hg_1077, hm_1078, hq_1079⟩ := eGx_1073
                              have hfr_1080 : FR [109, 110] [] [] G_1050 G_1074 := FR.ps FR.rf hg_1077 (by decide) (by decide)
                              have fr_1081 : FR [109, 110, 117] [(g.2.2 116), (g.2.2 130)] [] G G_1074 := FR.tr fr_1052 hfr_1080 (by decide) (fun _ _ => trivial) (by decide)
                              have u_1082 : G_1074.1 107 = (G.1 107) := (hfr_1080.1 107 (by decide)).trans u_1053
                              have u_1083 : G_1074.1 108 = (G.1 108) := (hfr_1080.1 108 (by decide)).trans u_1054
                              have u_1084 : G_1074.1 117 = xl_1042 := (hfr_1080.1 117 (by decide)).trans u_1057
                              have w_1085 : G_1074.2.1 (g.2.2 130) = f_1051 := (hfr_1080.2.1 (g.2.2 130) trivial).trans w_1058
                              have w_1086 : G_1074.2.1 (g.2.2 116) = f_1041 := (hfr_1080.2.1 (g.2.2 116) trivial).trans w_1059
                              have u_1087 : G_1074.2.2 106 = some (g.2.2 101) := (hfr_1080.2.2 106 (by decide)).trans u_1060
                              obtain ⟨xw_1088, exw_1088⟩ : ∃ z : Int32, G_1074.1 110 = z := ⟨_, rfl⟩
                              obtain ⟨xa_1089, exa_1089⟩ : ∃ z : Int32, G_1074.1 109 = z := ⟨_, rfl⟩
                              have r9_1090 : rgI 0 80 xa_1089 := by rw [← exa_1089, pst109 hg_1077]; exact hq_1079
                              rw [exa_1089, exw_1088] at pq_1075
                              have hH : HT g Ty G_1074 H := by rw [← ht, ← eTx_1073, eG_1074]; exact hB
                              have rx_1073 : rgI (0) (1) x_1073 := hx_1073.1
                              refine lv_if_ne (tgt := 194) hx hb dX12_readAct_183 (by decide) (fun c_1091 => ?_) (fun c_1091 => ?_)
                              · have r_1092 : rgI (1) (1) x_1073 := rg_w (rg_neL rx_1073 rl_0 c_1091) (by decide) (by decide)
                                have t_1093 := (pq_1075.2.resolve_left (fun z => c_1091 z.1)).2.1
                                exact W.vret hx hb hr (fun t ht hWm => ⟨⟨(Ty, G_1074), rfl, ⟨rfl, ⟨fr_1081, (by rw [w_1086, w_1085, u_1084, exa_1089, exw_1088]; exact ⟨by have z0 := hlm.1; have z1 := hlm.2; have z2 := qx_918; have z3 := t_970; have z4 := t_971; have z5 := t_972; have z6 := t_999; have z7 := t_1023; have z8 := t_1046; have z9 := t_1047; have z10 := t_1048; have z11 := t_1072; have z12 := t_1093; omega, (fun j hj => (rp_1045.1.1 j (by have z0 := hlm.1; have z1 := hlm.2; have z2 := qx_918; have z3 := t_970; have z4 := t_971; have z5 := t_972; have z6 := t_999; have z7 := t_1023; have z8 := t_1046; have z9 := t_1047; have z10 := t_1048; have z11 := t_1072; have z12 := t_1093; have z13 := hj; omega)).trans (rp_969.1.1 j hj)), ac_1061, by have z0 := hlm.1; have z1 := hlm.2; have z2 := qx_918; have z3 := t_970; have z4 := t_971; have z5 := t_972; have z6 := t_999; have z7 := t_1023; have z8 := t_1046; have z9 := t_1047; have z10 := t_1048; have z11 := t_1072; have z12 := t_1093; omega, (rg_w r9_1090 (by decide) (by decide)), (by rw [pq_1075.1]; exact rp_1045.2.1), by have z0 := hlm.1; have z1 := hlm.2; have z2 := qx_918; have z3 := t_970; have z4 := t_971; have z5 := t_972; have z6 := t_999; have z7 := t_1023; have z8 := t_1046; have z9 := t_1047; have z10 := t_1048; have z11 := t_1072; have z12 := t_1093; omega, (fun q => ⟨by have z0 := hlm.1; have z1 := hlm.2; have z2 := qx_918; have z3 := t_970; have z4 := t_971; have z5 := t_972; have z6 := t_999; have z7 := t_1023; have z8 := t_1046; have z9 := t_1047; have z10 := t_1048; have z11 := t_1072; have z12 := t_1093; omega, by have z0 := hlm.1; have z1 := hlm.2; have z2 := qx_918; have z3 := t_970; have z4 := t_971; have z5 := t_972; have z6 := t_999; have z7 := t_1023; have z8 := t_1046; have z9 := t_1047; have z10 := t_1048; have z11 := t_1072; have z12 := t_1093; omega, ⟨(PSt.up (ps_eq rp_969.1.2.1 (av_1063.trans rp_969.2.2.2.2)) (by have z0 := hlm.1; have z1 := hlm.2; have z2 := qx_918; have z3 := t_970; have z4 := t_971; have z5 := t_972; have z6 := t_999; have z7 := t_1023; have z8 := t_1046; have z9 := t_1047; have z10 := t_1048; have z11 := t_1072; have z12 := t_1093; omega) rp_1045.1.1), Or.inr (Or.inr (Or.inr (ps_eq rp_1045.1.2.1 (av_1064.trans rp_1045.2.2.2.2))))⟩⟩)⟩)⟩⟩, by show HT g Ty G_1074 t.heap; rw [ht]; exact hH⟩, hS.F ht⟩) hS.2.2 dX12_readAct_194
                              · have r_1094 : rgI (0) (0) x_1073 := rg_w (rg_eq rl_0 c_1091) (by decide) (by decide)
                                have t_1095 : xa_1089 = xa_1043 := (pq_1075.2.resolve_right (fun z => z.1 c_1091)).2
                                have t_1096 : (xa_1089 : Int32).toInt = (xa_1043 : Int32).toInt := by rw [t_1095]
                                refine lv_aload_n hx hb dX12_readAct_186 rfl (lv_at hl 1 rfl) ?_
                                refine lv_aload_n hx hb dX12_readAct_187 rfl (lv_at hl 1 rfl) ?_
                                obtain ⟨_, ⟨rfl, t_1098, hk_1099⟩, o_c_1097⟩ := hH h0 _ k_h0
                                refine hg_get hx hb hG igX12 hown hK o_c_1097 rfl 9 (by decide) (hG _ mw_1293) rfl dX12_readAct_188 ?_
                                rw [exa_1089]
                                refine va_callv (va_runV (As := [.int xa_1089]) (rest := []) ⟨hx, hb, hml, hown, hts⟩ (c_X12_fault_p l g Ty G_1074 H.size h0 xa_1089 k_h0 (g.2.2 101) 80 (G_1074.2.1 (g.2.2 101)) (G_1074.2.1 (g.2.2 115)) (G.1 107) (G.1 108) (G_1074.1 114) 80 xa_1089 xw_1088 ⟨u_1087, hmk.2.1, rfl, (fun _ _ => rfl), u_1082, u_1083, rfl, exa_1089, exw_1088, (rg_w r7 (by decide) (by decide)), by decide, Or.inl (show ((G.1 107) : Int32).toInt ≤ 80 from (rg_w (a2 := 0) (b2 := 80) r7 (by decide) (by decide)).2), by decide, by decide, (rg_w r9_1090 (by decide) (by decide))⟩) (cwV 1 hts (gwV mw_1475 mw_1477 mw_42 mw_88 mw_1478) rfl rfl rfl hv_X12_fault ⟨Nat.le_of_ble_eq_true rfl, Nat.le_of_ble_eq_true rfl⟩) ⟨PcT_blind, hg_recv hK o_c_1097 rfl, PcT_pre hK hH⟩ rfl rfl hl.1 rfl (lv_room (Nat.le_of_ble_eq_true rfl)) dX12_readAct_191 ⟨Nat.zero_le _, Nat.zero_le _⟩) hS (fun q _ h => AF.mono hS.1 h) (fun q h => AF.mono hS.1 h) (fun ux_1100 t H locs ht hvm hx_1100 hB hz hk hS => ?_)
                                obtain ⟨eTx_1100, eGx_1100⟩ := hx_1100
                                obtain ⟨G_1101, eG_1101⟩ : ∃ z, z = ux_1100.2 := ⟨_, rfl⟩
                                rw [← eG_1101] at eGx_1100
                                have pq_1102 := flt_pr eGx_1100 (rg_w r9_1090 (by decide) (by decide))
                                obtain ⟨hg_1104, hm_1105, hq_1106⟩ := eGx_1100
                                have hfr_1107 : FR [109, 110] [] [] G_1074 G_1101 := FR.ps FR.rf hg_1104 (by decide) (by decide)
                                have fr_1108 : FR [109, 110, 117] [(g.2.2 116), (g.2.2 130)] [] G G_1101 := FR.tr fr_1081 hfr_1107 (by decide) (fun _ _ => trivial) (by decide)
                                have u_1109 : G_1101.1 107 = (G.1 107) := (hfr_1107.1 107 (by decide)).trans u_1082
                                have u_1110 : G_1101.1 108 = (G.1 108) := (hfr_1107.1 108 (by decide)).trans u_1083
                                have u_1111 : G_1101.1 117 = xl_1042 := (hfr_1107.1 117 (by decide)).trans u_1084
                                have w_1112 : G_1101.2.1 (g.2.2 130) = f_1051 := (hfr_1107.2.1 (g.2.2 130) trivial).trans w_1085
                                have w_1113 : G_1101.2.1 (g.2.2 116) = f_1041 := (hfr_1107.2.1 (g.2.2 116) trivial).trans w_1086
                                have u_1114 : G_1101.2.2 106 = some (g.2.2 101) := (hfr_1107.2.2 106 (by decide)).trans u_1087
                                obtain ⟨xw_1115, exw_1115⟩ : ∃ z : Int32, G_1101.1 110 = z := ⟨_, rfl⟩
                                have e9_1116 := pq_1102.1
                                rw [exw_1115] at pq_1102
                                have hH : HT g Ty G_1101 H := by rw [← ht, ← eTx_1100, eG_1101]; exact hB
                                exact W.vret hx hb hr (fun t ht hWm => ⟨⟨(Ty, G_1101), rfl, ⟨rfl, ⟨fr_1108, (by rw [w_1113, w_1112, u_1111, e9_1116, exw_1115]; exact ⟨by have z0 := hlm.1; have z1 := hlm.2; have z2 := qx_918; have z3 := t_970; have z4 := t_971; have z5 := t_972; have z6 := t_999; have z7 := t_1023; have z8 := t_1046; have z9 := t_1047; have z10 := t_1048; have z11 := t_1072; have z12 := t_1096; omega, (fun j hj => (rp_1045.1.1 j (by have z0 := hlm.1; have z1 := hlm.2; have z2 := qx_918; have z3 := t_970; have z4 := t_971; have z5 := t_972; have z6 := t_999; have z7 := t_1023; have z8 := t_1046; have z9 := t_1047; have z10 := t_1048; have z11 := t_1072; have z12 := t_1096; have z13 := hj; omega)).trans (rp_969.1.1 j hj)), ac_1061, by have z0 := hlm.1; have z1 := hlm.2; have z2 := qx_918; have z3 := t_970; have z4 := t_971; have z5 := t_972; have z6 := t_999; have z7 := t_1023; have z8 := t_1046; have z9 := t_1047; have z10 := t_1048; have z11 := t_1072; have z12 := t_1096; omega, (rg_w r9_1090 (by decide) (by decide)), (pq_1102.2.2 (by rw [pq_1075.1]; exact rp_1045.2.1)), by have z0 := hlm.1; have z1 := hlm.2; have z2 := qx_918; have z3 := t_970; have z4 := t_971; have z5 := t_972; have z6 := t_999; have z7 := t_1023; have z8 := t_1046; have z9 := t_1047; have z10 := t_1048; have z11 := t_1072; have z12 := t_1096; omega, (fun q => absurd q pq_1102.2.1)⟩)⟩⟩, by show HT g Ty G_1101 t.heap; rw [ht]; exact hH⟩, hS.F ht⟩) hS.2.2 dX12_readAct_194
                          · have r_1117 : rgI (0) (0) x_1027 := rg_w (rg_eq rl_0 c_1028) (by decide) (by decide)
                            exact W.vret hx hb hr (fun t ht hWm => ⟨⟨(Ty, G_1004), rfl, ⟨rfl, ⟨fr_1011, (by rw [w_1016, w_1015, u_1014, exa_1019, exw_1018]; exact ⟨by have z0 := hlm.1; have z1 := hlm.2; have z2 := qx_918; have z3 := t_970; have z4 := t_971; have z5 := t_972; have z6 := t_999; have z7 := t_1023; omega, rp_969.1.1, ac_985, by have z0 := hlm.1; have z1 := hlm.2; have z2 := qx_918; have z3 := t_970; have z4 := t_971; have z5 := t_972; have z6 := t_999; have z7 := t_1023; omega, (rg_w r9_1020 (by decide) (by decide)), (by rw [pq_1005.1]; exact rp_969.2.1), by have z0 := hlm.1; have z1 := hlm.2; have z2 := qx_918; have z3 := t_970; have z4 := t_971; have z5 := t_972; have z6 := t_999; have z7 := t_1023; omega, (fun q => absurd q (fin_0 hx_1027.2 c_1028))⟩)⟩⟩, by show HT g Ty G_1004 t.heap; rw [ht]; exact hH⟩, hS.F ht⟩) hS.2.2 dX12_readAct_157
                        · have r_1118 : rgI (0) (0) x_1003 := rg_w (rg_eq rl_0 c_1021) (by decide) (by decide)
                          have t_1119 : xa_1019 = xa_967 := (pq_1005.2.resolve_right (fun z => z.1 c_1021)).2
                          have t_1120 : (xa_1019 : Int32).toInt = (xa_967 : Int32).toInt := by rw [t_1119]
                          refine lv_aload_n hx hb dX12_readAct_142 rfl (lv_at hl 1 rfl) ?_
                          refine lv_aload_n hx hb dX12_readAct_143 rfl (lv_at hl 1 rfl) ?_
                          obtain ⟨_, ⟨rfl, t_1122, hk_1123⟩, o_c_1121⟩ := hH h0 _ k_h0
                          refine hg_get hx hb hG igX12 hown hK o_c_1121 rfl 9 (by decide) (hG _ mw_1293) rfl dX12_readAct_144 ?_
                          rw [exa_1019]
                          refine va_callv (va_runV (As := [.int xa_1019]) (rest := []) ⟨hx, hb, hml, hown, hts⟩ (c_X12_fault_p l g Ty G_1004 H.size h0 xa_1019 k_h0 (g.2.2 101) 80 (G_1004.2.1 (g.2.2 101)) (G_1004.2.1 (g.2.2 115)) (G.1 107) (G.1 108) (G_1004.1 114) 80 xa_1019 xw_1018 ⟨u_1017, hmk.2.1, rfl, (fun _ _ => rfl), u_1012, u_1013, rfl, exa_1019, exw_1018, (rg_w r7 (by decide) (by decide)), by decide, Or.inl (show ((G.1 107) : Int32).toInt ≤ 80 from (rg_w (a2 := 0) (b2 := 80) r7 (by decide) (by decide)).2), by decide, by decide, (rg_w r9_1020 (by decide) (by decide))⟩) (cwV 1 hts (gwV mw_1475 mw_1477 mw_42 mw_88 mw_1478) rfl rfl rfl hv_X12_fault ⟨Nat.le_of_ble_eq_true rfl, Nat.le_of_ble_eq_true rfl⟩) ⟨PcT_blind, hg_recv hK o_c_1121 rfl, PcT_pre hK hH⟩ rfl rfl hl.1 rfl (lv_room (Nat.le_of_ble_eq_true rfl)) dX12_readAct_147 ⟨Nat.zero_le _, Nat.zero_le _⟩) hS (fun q _ h => AF.mono hS.1 h) (fun q h => AF.mono hS.1 h) (fun ux_1124 t H locs ht hvm hx_1124 hB hz hk hS => ?_)
                          obtain ⟨eTx_1124, eGx_1124⟩ := hx_1124
                          obtain ⟨G_1125, eG_1125⟩ : ∃ z, z = ux_1124.2 := ⟨_, rfl⟩
                          rw [← eG_1125] at eGx_1124
                          have pq_1126 := flt_pr eGx_1124 (rg_w r9_1020 (by decide) (by decide))
                          obtain ⟨hg_1128, hm_1129, hq_1130⟩ := eGx_1124
                          have hfr_1131 : FR [109, 110] [] [] G_1004 G_1125 := FR.ps FR.rf hg_1128 (by decide) (by decide)
                          have fr_1132 : FR [109, 110, 117] [(g.2.2 116), (g.2.2 130)] [] G G_1125 := FR.tr fr_1011 hfr_1131 (by decide) (fun _ _ => trivial) (by decide)
                          have u_1133 : G_1125.1 107 = (G.1 107) := (hfr_1131.1 107 (by decide)).trans u_1012
                          have u_1134 : G_1125.1 108 = (G.1 108) := (hfr_1131.1 108 (by decide)).trans u_1013
                          have u_1135 : G_1125.1 117 = xl_966 := (hfr_1131.1 117 (by decide)).trans u_1014
                          have w_1136 : G_1125.2.1 (g.2.2 130) = f_975 := (hfr_1131.2.1 (g.2.2 130) trivial).trans w_1015
                          have w_1137 : G_1125.2.1 (g.2.2 116) = f_965 := (hfr_1131.2.1 (g.2.2 116) trivial).trans w_1016
                          have u_1138 : G_1125.2.2 106 = some (g.2.2 101) := (hfr_1131.2.2 106 (by decide)).trans u_1017
                          obtain ⟨xw_1139, exw_1139⟩ : ∃ z : Int32, G_1125.1 110 = z := ⟨_, rfl⟩
                          have e9_1140 := pq_1126.1
                          rw [exw_1139] at pq_1126
                          have hH : HT g Ty G_1125 H := by rw [← ht, ← eTx_1124, eG_1125]; exact hB
                          refine lv_aload_n hx hb dX12_readAct_150 rfl (lv_at hl 1 rfl) ?_
                          obtain ⟨_, ⟨rfl, t_1142, hk_1143⟩, o_c_1141⟩ := hH h0 _ k_h0
                          refine vp_callSi (W.runV (As := []) (rest := []) ⟨hx, hb, hml, hown, hts⟩ (c_X12_fine_p l g Ty G_1125 h0 k_h0 (g.2.2 101) 80 (G_1125.2.1 (g.2.2 101)) (G_1125.2.1 (g.2.2 115)) (G.1 107) (G.1 108) (G_1125.1 114) 80 xa_1019 xw_1139 ⟨u_1138, hmk.2.1, rfl, (fun _ _ => rfl), u_1133, u_1134, rfl, e9_1140, exw_1139, (rg_w r7 (by decide) (by decide)), by decide, Or.inl (show ((G.1 107) : Int32).toInt ≤ 80 from (rg_w (a2 := 0) (b2 := 80) r7 (by decide) (by decide)).2), by decide, by decide, (rg_w r9_1020 (by decide) (by decide))⟩) (cwV 0 hts (gwV mw_1463 mw_1465 mw_39 mw_88 mw_1466) rfl rfl rfl hv_X12_fine ⟨Nat.le_of_ble_eq_true rfl, Nat.le_of_ble_eq_true rfl⟩) ⟨PcH_blind, hg_recv hK o_c_1141 rfl, PcH_pre hK hH⟩ rfl rfl hl.1 rfl (lv_room (Nat.le_of_ble_eq_true rfl)) dX12_readAct_151 ⟨Nat.zero_le _, Nat.zero_le _⟩) (fun x_1144 hx_1144 => ?_)
                          have rx_1144 : rgI (0) (1) x_1144 := hx_1144.1
                          refine lv_if_ne (tgt := 158) hx hb dX12_readAct_154 (by decide) (fun c_1145 => ?_) (fun c_1145 => ?_)
                          · have r_1146 : rgI (1) (1) x_1144 := rg_w (rg_neL rx_1144 rl_0 c_1145) (by decide) (by decide)
                            refine lv_aload_n hx hb dX12_readAct_158 rfl (lv_at hl 1 rfl) ?_
                            refine hg_get hx hb hG igX12 hown hK o_c_1141 rfl 30 (by decide) (hG _ mw_1314) rfl dX12_readAct_159 ?_
                            refine lv_iload_n hx hb dX12_readAct_162 rfl (lv_at hl 2 rfl) ?_
                            refine lv_iconst (v := 2) hx hb dX12_readAct_163 (by decide) ?_
                            refine lv_iadd hx hb dX12_readAct_164 ?_
                            refine lv_topi (fun x_1147 ex_1147 => ?_)
                            have rx_1147 : rgI (2) (318) x_1147 := by rw [ex_1147]; exact rg_w (rg_add pr0 rl_2 (by decide) (by decide)) (by decide) (by decide)
                            have qx_1147 : x_1147.toInt = (a0 : Int32).toInt + 2 := by rw [ex_1147]; exact rg_addE pr0 rl_2 (by decide) (by decide)
                            refine lv_aload_n hx hb dX12_readAct_165 rfl (lv_at hl 1 rfl) ?_
                            have hlm_1148 : 0 ≤ (xl_966 : Int32).toInt ∧ (xl_966 : Int32).toInt ≤ (xa_1019 : Int32).toInt + 1 := ⟨by have z0 := hlm.1; have z1 := hlm.2; have z2 := qx_918; have z3 := t_970; have z4 := t_971; have z5 := t_972; have z6 := t_999; have z7 := t_1120; omega, by have z0 := hlm.1; have z1 := hlm.2; have z2 := qx_918; have z3 := t_970; have z4 := t_971; have z5 := t_972; have z6 := t_999; have z7 := t_1120; omega⟩
                            refine va_calli (va_runV (As := []) (rest := [.int x_1147, .ref (g.2.2 130)]) ⟨hx, hb, hml, hown, hts⟩ (c_X12_readPath l g Ty G_1125 H.size h0 k_h0 u_1138 (by rw [u_1133]; exact (rg_w r7 (by decide) (by decide))) (by rw [e9_1140]; exact (rg_w r9_1020 (by decide) (by decide))) (by rw [exw_1139]; exact (pq_1126.2.2 (by rw [pq_1005.1]; exact rp_969.2.1))) hLD (by rw [u_1135, e9_1140]; exact hlm_1148)) (cwV 0 hts (gwV mw_1498 mw_1500 mw_46 mw_88 mw_1501) rfl rfl rfl hv_X12_readPath ⟨Nat.le_of_ble_eq_true rfl, Nat.le_of_ble_eq_true rfl⟩) ⟨PcT_blind, hg_recv hK o_c_1141 rfl, PcT_pre hK hH⟩ rfl rfl hl.1 rfl (lv_room (Nat.le_of_ble_eq_true rfl)) dX12_readAct_166 ⟨Nat.zero_le _, Nat.zero_le _⟩) hS (fun q _ h => AF.mono hS.1 h) (fun q h => AF.mono hS.1 h) (fun x_1149 ux_1149 t H locs ht hvm hx_1149 hB hz hk hS => ?_)
                            obtain ⟨eTx_1149, eGx_1149⟩ := hx_1149
                            obtain ⟨G_1150, eG_1150⟩ : ∃ z, z = ux_1149.2 := ⟨_, rfl⟩
                            rw [← eG_1150] at eGx_1149
                            obtain ⟨hfr_1151, hex_1152⟩ := eGx_1149
                            have fr_1153 : FR [109, 110, 117] [(g.2.2 116), (g.2.2 130)] [] G G_1150 := FR.tr fr_1132 hfr_1151 (by decide) (fun b h => ⟨h.1, trivial⟩) (by decide)
                            have u_1154 : G_1150.1 107 = (G.1 107) := (hfr_1151.1 107 (by decide)).trans u_1133
                            have u_1155 : G_1150.1 108 = (G.1 108) := (hfr_1151.1 108 (by decide)).trans u_1134
                            have w_1156 : G_1150.2.1 (g.2.2 130) = f_975 := (hfr_1151.2.1 (g.2.2 130) ⟨(ne_kd hmk.2.2.2.2.2.2.2.2.2.2.2.1 hmk.2.2.2.2.1 (by decide)), trivial⟩).trans w_1136
                            have u_1157 : G_1150.2.2 106 = some (g.2.2 101) := (hfr_1151.2.2 106 (by decide)).trans u_1138
                            obtain ⟨f_1158, ef_1158⟩ : ∃ z : Nat → Int32, G_1150.2.1 (g.2.2 116) = z := ⟨_, rfl⟩
                            obtain ⟨xl_1159, exl_1159⟩ : ∃ z : Int32, G_1150.1 117 = z := ⟨_, rfl⟩
                            obtain ⟨xa_1160, exa_1160⟩ : ∃ z : Int32, G_1150.1 109 = z := ⟨_, rfl⟩
                            obtain ⟨xw_1161, exw_1161⟩ : ∃ z : Int32, G_1150.1 110 = z := ⟨_, rfl⟩
                            have rp_1162 := hex_1152
                            rw [ef_1158, exl_1159, exa_1160, exw_1161, w_1137, u_1135, e9_1140] at rp_1162
                            have hH : HT g Ty G_1150 H := by rw [← ht, ← eTx_1149, eG_1150]; exact hB
                            have t_1163 := rp_1162.1.2.2.1
                            have t_1164 := rp_1162.1.2.2.2.1
                            have t_1165 := rp_1162.2.2.2.1
                            obtain ⟨_, rfl, o_c_1166⟩ := hH (g.2.2 130) _ hk_1143.2.2.2.2.2.2.2.2.2.2.2.1
                            have o_c_1166 : va_at g.1 vwCl ((g.2.2 130), .inl (g.2.1 1, 320, .inl (G_1150.2.1 (g.2.2 130)))) H := o_c_1166
                            refine hg_iast hx hb hK hS o_c_1166 (AF.of hk_1143.2.2.2.2.2.2.2.2.2.2.2.1) (rg_in (n := 320) rx_1147 (by decide) (by decide)) dX12_readAct_169 (fun H locs o_c_1166 hz oq hS => ?_)
                            obtain ⟨G_1167, eG_1167⟩ : ∃ z : Gh, z = aset G_1150 (g.2.2 130) (upd (G_1150.2.1 (g.2.2 130)) (x_1147 : Int32).toNatClampNeg x_1149) := ⟨_, rfl⟩
                            have hH : HT g Ty G_1167 H := by rw [eG_1167]; exact HT.putA (upd (G_1150.2.1 (g.2.2 130)) (x_1147 : Int32).toNatClampNeg x_1149) hH hk_1143.2.2.2.2.2.2.2.2.2.2.2.1 cf30 o_c_1166 oq
                            obtain ⟨f_1168, ef_1168⟩ : ∃ z : Nat → Int32, z = (upd f_975 (x_1147 : Int32).toNatClampNeg x_1149) := ⟨_, rfl⟩
                            have eaf_1168 : G_1167 = aset G_1150 (g.2.2 130) f_1168 := by rw [eG_1167, ef_1168, w_1156]
                            have fr_1169 : FR [109, 110, 117] [(g.2.2 116), (g.2.2 130)] [] G G_1167 := FR.a fr_1153 eaf_1168 (fun b h => h.2.1)
                            have u_1170 : G_1167.1 107 = (G.1 107) := by rw [eaf_1168]; exact u_1154
                            have u_1171 : G_1167.1 108 = (G.1 108) := by rw [eaf_1168]; exact u_1155
                            have u_1172 : G_1167.1 109 = xa_1160 := by rw [eaf_1168]; exact exa_1160
                            have u_1173 : G_1167.1 110 = xw_1161 := by rw [eaf_1168]; exact exw_1161
                            have u_1174 : G_1167.1 117 = xl_1159 := by rw [eaf_1168]; exact exl_1159
                            have w_1175 : G_1167.2.1 (g.2.2 130) = f_1168 := by rw [eaf_1168]; exact aset_eq
                            have w_1176 : G_1167.2.1 (g.2.2 116) = f_1158 := by rw [eaf_1168]; exact (aset_ne (ne_kd hmk.2.2.2.2.1 hmk.2.2.2.2.2.2.2.2.2.2.2.1 (by decide))).trans ef_1158
                            have u_1177 : G_1167.2.2 106 = some (g.2.2 101) := by rw [eaf_1168]; exact u_1157
                            clear oq hz
                            have ac_1178 := ac_s ac_985 ef_1168 (ai_d ex_1147 pr0 rfl (by decide)) (by decide)
                            have av_1179 : f_1168 (a0.toNatClampNeg + 0) = x_4 := ac_k av_986 ef_1168 (ai_d ex_1147 pr0 rfl (by decide)) (by decide)
                            have av_1180 : f_1168 (a0.toNatClampNeg + 1) = x_956 := ac_k av_987 ef_1168 (ai_d ex_1147 pr0 rfl (by decide)) (by decide)
                            have av_1181 : f_1168 (a0.toNatClampNeg + 2) = x_1149 := ac_v ef_1168 (ai_d ex_1147 pr0 rfl (by decide))
                            refine lv_aload_n hx hb dX12_readAct_170 rfl (lv_at hl 1 rfl) ?_
                            obtain ⟨_, ⟨rfl, t_1183, hk_1184⟩, o_c_1182⟩ := hH h0 _ k_h0
                            refine vp_callSi (W.runV (As := []) (rest := []) ⟨hx, hb, hml, hown, hts⟩ (c_X12_fine_p l g Ty G_1167 h0 k_h0 (g.2.2 101) 80 (G_1167.2.1 (g.2.2 101)) (G_1167.2.1 (g.2.2 115)) (G.1 107) (G.1 108) (G_1167.1 114) 80 xa_1160 xw_1161 ⟨u_1177, hmk.2.1, rfl, (fun _ _ => rfl), u_1170, u_1171, rfl, u_1172, u_1173, (rg_w r7 (by decide) (by decide)), by decide, Or.inl (show ((G.1 107) : Int32).toInt ≤ 80 from (rg_w (a2 := 0) (b2 := 80) r7 (by decide) (by decide)).2), by decide, by decide, (rg_w rp_1162.2.2.1 (by decide) (by decide))⟩) (cwV 0 hts (gwV mw_1463 mw_1465 mw_39 mw_88 mw_1466) rfl rfl rfl hv_X12_fine ⟨Nat.le_of_ble_eq_true rfl, Nat.le_of_ble_eq_true rfl⟩) ⟨PcH_blind, hg_recv hK o_c_1182 rfl, PcH_pre hK hH⟩ rfl rfl hl.1 rfl (lv_room (Nat.le_of_ble_eq_true rfl)) dX12_readAct_171 ⟨Nat.zero_le _, Nat.zero_le _⟩) (fun x_1185 hx_1185 => ?_)
                            have rx_1185 : rgI (0) (1) x_1185 := hx_1185.1
                            refine lv_if_eq (tgt := 194) hx hb dX12_readAct_174 (by decide) (fun c_1186 => ?_) (fun c_1186 => ?_)
                            · have r_1187 : rgI (0) (0) x_1185 := rg_w (rg_eq rl_0 c_1186) (by decide) (by decide)
                              exact W.vret hx hb hr (fun t ht hWm => ⟨⟨(Ty, G_1167), rfl, ⟨rfl, ⟨fr_1169, (by rw [w_1176, w_1175, u_1174, u_1172, u_1173]; exact ⟨by have z0 := hlm.1; have z1 := hlm.2; have z2 := qx_918; have z3 := t_970; have z4 := t_971; have z5 := t_972; have z6 := t_999; have z7 := t_1120; have z8 := t_1163; have z9 := t_1164; have z10 := t_1165; omega, (fun j hj => (rp_1162.1.1 j (by have z0 := hlm.1; have z1 := hlm.2; have z2 := qx_918; have z3 := t_970; have z4 := t_971; have z5 := t_972; have z6 := t_999; have z7 := t_1120; have z8 := t_1163; have z9 := t_1164; have z10 := t_1165; have z11 := hj; omega)).trans (rp_969.1.1 j hj)), ac_1178, by have z0 := hlm.1; have z1 := hlm.2; have z2 := qx_918; have z3 := t_970; have z4 := t_971; have z5 := t_972; have z6 := t_999; have z7 := t_1120; have z8 := t_1163; have z9 := t_1164; have z10 := t_1165; omega, (rg_w rp_1162.2.2.1 (by decide) (by decide)), rp_1162.2.1, by have z0 := hlm.1; have z1 := hlm.2; have z2 := qx_918; have z3 := t_970; have z4 := t_971; have z5 := t_972; have z6 := t_999; have z7 := t_1120; have z8 := t_1163; have z9 := t_1164; have z10 := t_1165; omega, (fun q => absurd q (fin_0 hx_1185.2 c_1186))⟩)⟩⟩, by show HT g Ty G_1167 t.heap; rw [ht]; exact hH⟩, hS.F ht⟩) hS.2.2 dX12_readAct_194
                            · have r_1188 : rgI (1) (1) x_1185 := rg_w (rg_neL rx_1185 rl_0 c_1186) (by decide) (by decide)
                              have t_1189 := rp_1162.1.2.2.2.2 (fin_1 hx_1185.2 c_1186)
                              refine lv_aload_n hx hb dX12_readAct_177 rfl (lv_at hl 1 rfl) ?_
                              refine lv_bipush (v := 46) hx hb dX12_readAct_178 (by decide) ?_
                              refine va_calli (va_runV (As := [.int 46]) (rest := []) ⟨hx, hb, hml, hown, hts⟩ (c_X12_passes l g Ty G_1167 H.size h0 46 k_h0 (rg_w rl_46 (by decide) (by decide)) (g.2.2 101) 80 (G_1167.2.1 (g.2.2 101)) (G_1167.2.1 (g.2.2 115)) (G.1 107) (G.1 108) (G_1167.1 114) 80 xa_1160 xw_1161 ⟨u_1177, hmk.2.1, rfl, (fun _ _ => rfl), u_1170, u_1171, rfl, u_1172, u_1173, (rg_w r7 (by decide) (by decide)), by decide, Or.inl (show ((G.1 107) : Int32).toInt ≤ 80 from (rg_w (a2 := 0) (b2 := 80) r7 (by decide) (by decide)).2), by decide, by decide, (rg_w rp_1162.2.2.1 (by decide) (by decide))⟩) (cwV 1 hts (gwV mw_1459 mw_1461 mw_38 mw_88 mw_1462) rfl rfl rfl hv_X12_passes ⟨Nat.le_of_ble_eq_true rfl, Nat.le_of_ble_eq_true rfl⟩) ⟨PcT_blind, hg_recv hK o_c_1182 rfl, PcT_pre hK hH⟩ rfl rfl hl.1 rfl (lv_room (Nat.le_of_ble_eq_true rfl)) dX12_readAct_180 ⟨Nat.zero_le _, Nat.zero_le _⟩) hS (fun q _ h => AF.mono hS.1 h) (fun q h => AF.mono hS.1 h) (fun x_1190 ux_1190 t H locs ht hvm hx_1190 hB hz hk hS => ?_)
                              obtain ⟨hx_1190, fx_1190⟩ := hx_1190
                              obtain ⟨eTx_1190, eGx_1190⟩ := fx_1190
                              obtain ⟨G_1191, eG_1191⟩ : ∃ z, z = ux_1190.2 := ⟨_, rfl⟩
                              rw [← eG_1191] at eGx_1190
                              have pq_1192 := pas_pr eGx_1190 (rg_w rp_1162.2.2.1 (by decide) (by decide))
                              obtain ⟨hr_1193, hg_1194, hm_1195, hq_1196⟩ := eGx_1190
                              have hfr_1197 : FR [109, 110] [] [] G_1167 G_1191 := FR.ps FR.rf hg_1194 (by decide) (by decide)
                              have fr_1198 : FR [109, 110, 117] [(g.2.2 116), (g.2.2 130)] [] G G_1191 := FR.tr fr_1169 hfr_1197 (by decide) (fun _ _ => trivial) (by decide)
                              have u_1199 : G_1191.1 107 = (G.1 107) := (hfr_1197.1 107 (by decide)).trans u_1170
                              have u_1200 : G_1191.1 108 = (G.1 108) := (hfr_1197.1 108 (by decide)).trans u_1171
                              have u_1201 : G_1191.1 117 = xl_1159 := (hfr_1197.1 117 (by decide)).trans u_1174
                              have w_1202 : G_1191.2.1 (g.2.2 130) = f_1168 := (hfr_1197.2.1 (g.2.2 130) trivial).trans w_1175
                              have w_1203 : G_1191.2.1 (g.2.2 116) = f_1158 := (hfr_1197.2.1 (g.2.2 116) trivial).trans w_1176
                              have u_1204 : G_1191.2.2 106 = some (g.2.2 101) := (hfr_1197.2.2 106 (by decide)).trans u_1177
                              obtain ⟨xw_1205, exw_1205⟩ : ∃ z : Int32, G_1191.1 110 = z := ⟨_, rfl⟩
                              obtain ⟨xa_1206, exa_1206⟩ : ∃ z : Int32, G_1191.1 109 = z := ⟨_, rfl⟩
                              have r9_1207 : rgI 0 80 xa_1206 := by rw [← exa_1206, pst109 hg_1194]; exact hq_1196
                              rw [exa_1206, exw_1205] at pq_1192
                              have hH : HT g Ty G_1191 H := by rw [← ht, ← eTx_1190, eG_1191]; exact hB
                              have rx_1190 : rgI (0) (1) x_1190 := hx_1190.1
                              refine lv_if_ne (tgt := 194) hx hb dX12_readAct_183 (by decide) (fun c_1208 => ?_) (fun c_1208 => ?_)
                              · have r_1209 : rgI (1) (1) x_1190 := rg_w (rg_neL rx_1190 rl_0 c_1208) (by decide) (by decide)
                                have t_1210 := (pq_1192.2.resolve_left (fun z => c_1208 z.1)).2.1
                                exact W.vret hx hb hr (fun t ht hWm => ⟨⟨(Ty, G_1191), rfl, ⟨rfl, ⟨fr_1198, (by rw [w_1203, w_1202, u_1201, exa_1206, exw_1205]; exact ⟨by have z0 := hlm.1; have z1 := hlm.2; have z2 := qx_918; have z3 := t_970; have z4 := t_971; have z5 := t_972; have z6 := t_999; have z7 := t_1120; have z8 := t_1163; have z9 := t_1164; have z10 := t_1165; have z11 := t_1189; have z12 := t_1210; omega, (fun j hj => (rp_1162.1.1 j (by have z0 := hlm.1; have z1 := hlm.2; have z2 := qx_918; have z3 := t_970; have z4 := t_971; have z5 := t_972; have z6 := t_999; have z7 := t_1120; have z8 := t_1163; have z9 := t_1164; have z10 := t_1165; have z11 := t_1189; have z12 := t_1210; have z13 := hj; omega)).trans (rp_969.1.1 j hj)), ac_1178, by have z0 := hlm.1; have z1 := hlm.2; have z2 := qx_918; have z3 := t_970; have z4 := t_971; have z5 := t_972; have z6 := t_999; have z7 := t_1120; have z8 := t_1163; have z9 := t_1164; have z10 := t_1165; have z11 := t_1189; have z12 := t_1210; omega, (rg_w r9_1207 (by decide) (by decide)), (by rw [pq_1192.1]; exact rp_1162.2.1), by have z0 := hlm.1; have z1 := hlm.2; have z2 := qx_918; have z3 := t_970; have z4 := t_971; have z5 := t_972; have z6 := t_999; have z7 := t_1120; have z8 := t_1163; have z9 := t_1164; have z10 := t_1165; have z11 := t_1189; have z12 := t_1210; omega, (fun q => ⟨by have z0 := hlm.1; have z1 := hlm.2; have z2 := qx_918; have z3 := t_970; have z4 := t_971; have z5 := t_972; have z6 := t_999; have z7 := t_1120; have z8 := t_1163; have z9 := t_1164; have z10 := t_1165; have z11 := t_1189; have z12 := t_1210; omega, by have z0 := hlm.1; have z1 := hlm.2; have z2 := qx_918; have z3 := t_970; have z4 := t_971; have z5 := t_972; have z6 := t_999; have z7 := t_1120; have z8 := t_1163; have z9 := t_1164; have z10 := t_1165; have z11 := t_1189; have z12 := t_1210; omega, ⟨(PSt.up (ps_eq rp_969.1.2.1 (av_1180.trans rp_969.2.2.2.2)) (by have z0 := hlm.1; have z1 := hlm.2; have z2 := qx_918; have z3 := t_970; have z4 := t_971; have z5 := t_972; have z6 := t_999; have z7 := t_1120; have z8 := t_1163; have z9 := t_1164; have z10 := t_1165; have z11 := t_1189; have z12 := t_1210; omega) rp_1162.1.1), Or.inr (Or.inr (Or.inr (ps_eq rp_1162.1.2.1 (av_1181.trans rp_1162.2.2.2.2))))⟩⟩)⟩)⟩⟩, by show HT g Ty G_1191 t.heap; rw [ht]; exact hH⟩, hS.F ht⟩) hS.2.2 dX12_readAct_194
                              · have r_1211 : rgI (0) (0) x_1190 := rg_w (rg_eq rl_0 c_1208) (by decide) (by decide)
                                have t_1212 : xa_1206 = xa_1160 := (pq_1192.2.resolve_right (fun z => z.1 c_1208)).2
                                have t_1213 : (xa_1206 : Int32).toInt = (xa_1160 : Int32).toInt := by rw [t_1212]
                                refine lv_aload_n hx hb dX12_readAct_186 rfl (lv_at hl 1 rfl) ?_
                                refine lv_aload_n hx hb dX12_readAct_187 rfl (lv_at hl 1 rfl) ?_
                                obtain ⟨_, ⟨rfl, t_1215, hk_1216⟩, o_c_1214⟩ := hH h0 _ k_h0
                                refine hg_get hx hb hG igX12 hown hK o_c_1214 rfl 9 (by decide) (hG _ mw_1293) rfl dX12_readAct_188 ?_
                                rw [exa_1206]
                                refine va_callv (va_runV (As := [.int xa_1206]) (rest := []) ⟨hx, hb, hml, hown, hts⟩ (c_X12_fault_p l g Ty G_1191 H.size h0 xa_1206 k_h0 (g.2.2 101) 80 (G_1191.2.1 (g.2.2 101)) (G_1191.2.1 (g.2.2 115)) (G.1 107) (G.1 108) (G_1191.1 114) 80 xa_1206 xw_1205 ⟨u_1204, hmk.2.1, rfl, (fun _ _ => rfl), u_1199, u_1200, rfl, exa_1206, exw_1205, (rg_w r7 (by decide) (by decide)), by decide, Or.inl (show ((G.1 107) : Int32).toInt ≤ 80 from (rg_w (a2 := 0) (b2 := 80) r7 (by decide) (by decide)).2), by decide, by decide, (rg_w r9_1207 (by decide) (by decide))⟩) (cwV 1 hts (gwV mw_1475 mw_1477 mw_42 mw_88 mw_1478) rfl rfl rfl hv_X12_fault ⟨Nat.le_of_ble_eq_true rfl, Nat.le_of_ble_eq_true rfl⟩) ⟨PcT_blind, hg_recv hK o_c_1214 rfl, PcT_pre hK hH⟩ rfl rfl hl.1 rfl (lv_room (Nat.le_of_ble_eq_true rfl)) dX12_readAct_191 ⟨Nat.zero_le _, Nat.zero_le _⟩) hS (fun q _ h => AF.mono hS.1 h) (fun q h => AF.mono hS.1 h) (fun ux_1217 t H locs ht hvm hx_1217 hB hz hk hS => ?_)
                                obtain ⟨eTx_1217, eGx_1217⟩ := hx_1217
                                obtain ⟨G_1218, eG_1218⟩ : ∃ z, z = ux_1217.2 := ⟨_, rfl⟩
                                rw [← eG_1218] at eGx_1217
                                have pq_1219 := flt_pr eGx_1217 (rg_w r9_1207 (by decide) (by decide))
                                obtain ⟨hg_1221, hm_1222, hq_1223⟩ := eGx_1217
                                have hfr_1224 : FR [109, 110] [] [] G_1191 G_1218 := FR.ps FR.rf hg_1221 (by decide) (by decide)
                                have fr_1225 : FR [109, 110, 117] [(g.2.2 116), (g.2.2 130)] [] G G_1218 := FR.tr fr_1198 hfr_1224 (by decide) (fun _ _ => trivial) (by decide)
                                have u_1226 : G_1218.1 107 = (G.1 107) := (hfr_1224.1 107 (by decide)).trans u_1199
                                have u_1227 : G_1218.1 108 = (G.1 108) := (hfr_1224.1 108 (by decide)).trans u_1200
                                have u_1228 : G_1218.1 117 = xl_1159 := (hfr_1224.1 117 (by decide)).trans u_1201
                                have w_1229 : G_1218.2.1 (g.2.2 130) = f_1168 := (hfr_1224.2.1 (g.2.2 130) trivial).trans w_1202
                                have w_1230 : G_1218.2.1 (g.2.2 116) = f_1158 := (hfr_1224.2.1 (g.2.2 116) trivial).trans w_1203
                                have u_1231 : G_1218.2.2 106 = some (g.2.2 101) := (hfr_1224.2.2 106 (by decide)).trans u_1204
                                obtain ⟨xw_1232, exw_1232⟩ : ∃ z : Int32, G_1218.1 110 = z := ⟨_, rfl⟩
                                have e9_1233 := pq_1219.1
                                rw [exw_1232] at pq_1219
                                have hH : HT g Ty G_1218 H := by rw [← ht, ← eTx_1217, eG_1218]; exact hB
                                exact W.vret hx hb hr (fun t ht hWm => ⟨⟨(Ty, G_1218), rfl, ⟨rfl, ⟨fr_1225, (by rw [w_1230, w_1229, u_1228, e9_1233, exw_1232]; exact ⟨by have z0 := hlm.1; have z1 := hlm.2; have z2 := qx_918; have z3 := t_970; have z4 := t_971; have z5 := t_972; have z6 := t_999; have z7 := t_1120; have z8 := t_1163; have z9 := t_1164; have z10 := t_1165; have z11 := t_1189; have z12 := t_1213; omega, (fun j hj => (rp_1162.1.1 j (by have z0 := hlm.1; have z1 := hlm.2; have z2 := qx_918; have z3 := t_970; have z4 := t_971; have z5 := t_972; have z6 := t_999; have z7 := t_1120; have z8 := t_1163; have z9 := t_1164; have z10 := t_1165; have z11 := t_1189; have z12 := t_1213; have z13 := hj; omega)).trans (rp_969.1.1 j hj)), ac_1178, by have z0 := hlm.1; have z1 := hlm.2; have z2 := qx_918; have z3 := t_970; have z4 := t_971; have z5 := t_972; have z6 := t_999; have z7 := t_1120; have z8 := t_1163; have z9 := t_1164; have z10 := t_1165; have z11 := t_1189; have z12 := t_1213; omega, (rg_w r9_1207 (by decide) (by decide)), (pq_1219.2.2 (by rw [pq_1192.1]; exact rp_1162.2.1)), by have z0 := hlm.1; have z1 := hlm.2; have z2 := qx_918; have z3 := t_970; have z4 := t_971; have z5 := t_972; have z6 := t_999; have z7 := t_1120; have z8 := t_1163; have z9 := t_1164; have z10 := t_1165; have z11 := t_1189; have z12 := t_1213; omega, (fun q => absurd q pq_1219.2.1)⟩)⟩⟩, by show HT g Ty G_1218 t.heap; rw [ht]; exact hH⟩, hS.F ht⟩) hS.2.2 dX12_readAct_194
                          · have r_1234 : rgI (0) (0) x_1144 := rg_w (rg_eq rl_0 c_1145) (by decide) (by decide)
                            exact W.vret hx hb hr (fun t ht hWm => ⟨⟨(Ty, G_1125), rfl, ⟨rfl, ⟨fr_1132, (by rw [w_1137, w_1136, u_1135, e9_1140, exw_1139]; exact ⟨by have z0 := hlm.1; have z1 := hlm.2; have z2 := qx_918; have z3 := t_970; have z4 := t_971; have z5 := t_972; have z6 := t_999; have z7 := t_1120; omega, rp_969.1.1, ac_985, by have z0 := hlm.1; have z1 := hlm.2; have z2 := qx_918; have z3 := t_970; have z4 := t_971; have z5 := t_972; have z6 := t_999; have z7 := t_1120; omega, (rg_w r9_1020 (by decide) (by decide)), (pq_1126.2.2 (by rw [pq_1005.1]; exact rp_969.2.1)), by have z0 := hlm.1; have z1 := hlm.2; have z2 := qx_918; have z3 := t_970; have z4 := t_971; have z5 := t_972; have z6 := t_999; have z7 := t_1120; omega, (fun q => absurd q (fin_0 hx_1144.2 c_1145))⟩)⟩⟩, by show HT g Ty G_1125 t.heap; rw [ht]; exact hH⟩, hS.F ht⟩) hS.2.2 dX12_readAct_157
              · have r_1235 : rgI (0) (0) x_951 := rg_w (rg_eq rl_0 c_952) (by decide) (by decide)
                exact W.vret hx hb hr (fun t ht hWm => ⟨⟨(Ty, G_934), rfl, ⟨rfl, ⟨fr_936, (by rw [w_942, w_943, u_940, u_941, u_939]; exact ⟨by have z0 := hlm.1; have z1 := hlm.2; have z2 := qx_918; omega, (fun _ _ => rfl), ac_945, by have z0 := hlm.1; have z1 := hlm.2; have z2 := qx_918; omega, (rg_w r9_919 (by decide) (by decide)), w0, by have z0 := hlm.1; have z1 := hlm.2; have z2 := qx_918; omega, (fun q => absurd q (fin_0 hx_951.2 c_952))⟩)⟩⟩, by show HT g Ty G_934 t.heap; rw [ht]; exact hH⟩, hS.F ht⟩) hS.2.2 dX12_readAct_95
            · exact rg_noE r_917 rl_107 c_947 (by decide)
          · refine lv_iload_n hx hb dX12_readAct_35 rfl (lv_at hl 0 rfl) ?_
            refine lv_bipush (v := 107) hx hb dX12_readAct_36 (by decide) ?_
            refine lv_icmp_eq (tgt := 50) hx hb dX12_readAct_38 (by decide) (fun c_1236 => ?_) (fun c_1236 => ?_)
            · have r_1237 : rgI (107) (107) x_4 := rg_w (rg_eq rl_107 c_1236) (by decide) (by decide)
              refine lv_aload_n hx hb dX12_readAct_50 rfl (lv_at hl 1 rfl) ?_
              refine lv_dup hx hb dX12_readAct_51 rfl ?_
              refine hg_get hx hb hG igX12 hown hK o_c_1 rfl 9 (by decide) (hG _ mw_1293) rfl dX12_readAct_52 ?_
              refine lv_iconst (v := 1) hx hb dX12_readAct_55 (by decide) ?_
              refine lv_iadd hx hb dX12_readAct_56 ?_
              refine lv_topi (fun x_1238 ex_1238 => ?_)
              have rx_1238 : rgI (1) (81) x_1238 := by rw [ex_1238]; exact rg_w (rg_add r9 rl_1 (by decide) (by decide)) (by decide) (by decide)
              have qx_1238 : x_1238.toInt = ((G.1 109) : Int32).toInt + 1 := by rw [ex_1238]; exact rg_addE r9 rl_1 (by decide) (by decide)
              have r9_1239 : rgI 1 80 x_1238 := at_up (h := 0) (here_lt (nh_eq hx_4.2 c_1236 (by decide))) r7 r9 qx_1238
              refine hg_put (ty := .int) hx hb hG igX12 tyX12 tyX12_ok nmX12 hown hK hS o_c_1 (AF.of k_h0) rfl 9 (by decide) (hG _ mw_1293) rfl (by decide +kernel) rfl rfl (Nat.le_of_ble_eq_true rfl) dX12_readAct_57 (fun H locs o_c_1 hz oq hS => ?_)
              obtain ⟨G_1240, eG_1240⟩ : ∃ z : Gh, z = gset G 109 x_1238 := ⟨_, rfl⟩
              have hH : HT g Ty G_1240 H := by rw [eG_1240]; exact HT.putN 109 x_1238 hH k_h0 ⟨rfl, t_2, hk_3⟩ o_c_1 oq (Or.inr (Or.inr (Or.inr (Or.inr (Or.inr ⟨by decide, t_2⟩)))))
              have fr_1241 : FR [109, 110, 117] [(g.2.2 116), (g.2.2 130)] [] G G_1240 := FR.n FR.rf eG_1240 (by decide)
              have u_1242 : G_1240.1 107 = (G.1 107) := by rw [eG_1240]; exact (gs_ne (by decide))
              have u_1243 : G_1240.1 108 = (G.1 108) := by rw [eG_1240]; exact (gs_ne (by decide))
              have u_1244 : G_1240.1 110 = (G.1 110) := by rw [eG_1240]; exact (gs_ne (by decide))
              have u_1245 : G_1240.1 117 = (G.1 117) := by rw [eG_1240]; exact (gs_ne (by decide))
              have u_1246 : G_1240.1 109 = x_1238 := by rw [eG_1240]; exact gs_eq
              have w_1247 : G_1240.2.1 (g.2.2 116) = (G.2.1 (g.2.2 116)) := by rw [eG_1240]; exact rfl
              have w_1248 : G_1240.2.1 (g.2.2 130) = (G.2.1 (g.2.2 130)) := by rw [eG_1240]; exact rfl
              have u_1249 : G_1240.2.2 106 = some (g.2.2 101) := by rw [eG_1240]; exact r6
              clear oq hz
              refine lv_aload_n hx hb dX12_readAct_60 rfl (lv_at hl 1 rfl) ?_
              obtain ⟨_, ⟨rfl, t_1251, hk_1252⟩, o_c_1250⟩ := hH h0 _ k_h0
              refine hg_get hx hb hG igX12 hown hK o_c_1250 rfl 30 (by decide) (hG _ mw_1314) rfl dX12_readAct_61 ?_
              refine lv_iload_n hx hb dX12_readAct_64 rfl (lv_at hl 2 rfl) ?_
              refine lv_iload_n hx hb dX12_readAct_65 rfl (lv_at hl 0 rfl) ?_
              obtain ⟨_, rfl, o_c_1253⟩ := hH (g.2.2 130) _ hk_1252.2.2.2.2.2.2.2.2.2.2.2.1
              have o_c_1253 : va_at g.1 vwCl ((g.2.2 130), .inl (g.2.1 1, 320, .inl (G_1240.2.1 (g.2.2 130)))) H := o_c_1253
              refine hg_iast hx hb hK hS o_c_1253 (AF.of hk_1252.2.2.2.2.2.2.2.2.2.2.2.1) (rg_in (n := 320) pr0 (by decide) (by decide)) dX12_readAct_66 (fun H locs o_c_1253 hz oq hS => ?_)
              obtain ⟨G_1254, eG_1254⟩ : ∃ z : Gh, z = aset G_1240 (g.2.2 130) (upd (G_1240.2.1 (g.2.2 130)) (a0 : Int32).toNatClampNeg x_4) := ⟨_, rfl⟩
              have hH : HT g Ty G_1254 H := by rw [eG_1254]; exact HT.putA (upd (G_1240.2.1 (g.2.2 130)) (a0 : Int32).toNatClampNeg x_4) hH hk_1252.2.2.2.2.2.2.2.2.2.2.2.1 cf30 o_c_1253 oq
              obtain ⟨f_1255, ef_1255⟩ : ∃ z : Nat → Int32, z = (upd (G.2.1 (g.2.2 130)) (a0 : Int32).toNatClampNeg x_4) := ⟨_, rfl⟩
              have eaf_1255 : G_1254 = aset G_1240 (g.2.2 130) f_1255 := by rw [eG_1254, ef_1255, w_1248]
              have fr_1256 : FR [109, 110, 117] [(g.2.2 116), (g.2.2 130)] [] G G_1254 := FR.a fr_1241 eaf_1255 (fun b h => h.2.1)
              have u_1257 : G_1254.1 107 = (G.1 107) := by rw [eaf_1255]; exact u_1242
              have u_1258 : G_1254.1 108 = (G.1 108) := by rw [eaf_1255]; exact u_1243
              have u_1259 : G_1254.1 110 = (G.1 110) := by rw [eaf_1255]; exact u_1244
              have u_1260 : G_1254.1 117 = (G.1 117) := by rw [eaf_1255]; exact u_1245
              have u_1261 : G_1254.1 109 = x_1238 := by rw [eaf_1255]; exact u_1246
              have w_1262 : G_1254.2.1 (g.2.2 116) = (G.2.1 (g.2.2 116)) := by rw [eaf_1255]; exact (aset_ne (ne_kd hmk.2.2.2.2.1 hmk.2.2.2.2.2.2.2.2.2.2.2.1 (by decide))).trans w_1247
              have w_1263 : G_1254.2.1 (g.2.2 130) = f_1255 := by rw [eaf_1255]; exact aset_eq
              have u_1264 : G_1254.2.2 106 = some (g.2.2 101) := by rw [eaf_1255]; exact u_1249
              clear oq hz
              have ac_1265 := ac_s (fun _ _ => rfl) ef_1255 (show a0.toNatClampNeg = a0.toNatClampNeg + 0 from rfl) (by decide)
              have av_1266 : f_1255 (a0.toNatClampNeg + 0) = x_4 := ac_v ef_1255 (show a0.toNatClampNeg = a0.toNatClampNeg + 0 from rfl)
              refine lv_iload_n hx hb dX12_readAct_67 rfl (lv_at hl 0 rfl) ?_
              refine lv_bipush (v := 107) hx hb dX12_readAct_68 (by decide) ?_
              refine lv_icmp_ne (tgt := 88) hx hb dX12_readAct_70 (by decide) (fun c_1267 => ?_) (fun c_1267 => ?_)
              · exact rg_clash (rg_neL r_1237 rl_107 c_1267) (r_1237) (by decide)
              · refine lv_aload_n hx hb dX12_readAct_73 rfl (lv_at hl 1 rfl) ?_
                obtain ⟨_, ⟨rfl, t_1269, hk_1270⟩, o_c_1268⟩ := hH h0 _ k_h0
                refine hg_get hx hb hG igX12 hown hK o_c_1268 rfl 30 (by decide) (hG _ mw_1314) rfl dX12_readAct_74 ?_
                refine lv_iload_n hx hb dX12_readAct_77 rfl (lv_at hl 2 rfl) ?_
                refine lv_iconst (v := 3) hx hb dX12_readAct_78 (by decide) ?_
                refine lv_iadd hx hb dX12_readAct_79 ?_
                refine lv_topi (fun x_1271 ex_1271 => ?_)
                have rx_1271 : rgI (3) (319) x_1271 := by rw [ex_1271]; exact rg_w (rg_add pr0 rl_3 (by decide) (by decide)) (by decide) (by decide)
                have qx_1271 : x_1271.toInt = (a0 : Int32).toInt + 3 := by rw [ex_1271]; exact rg_addE pr0 rl_3 (by decide) (by decide)
                refine lv_aload_n hx hb dX12_readAct_80 rfl (lv_at hl 1 rfl) ?_
                refine lv_bipush (v := 48) hx hb dX12_readAct_81 (by decide) ?_
                refine lv_iconst (v := 4) hx hb dX12_readAct_83 (by decide) ?_
                refine va_calli (va_runV (As := [.int 48, .int 4]) (rest := [.int x_1271, .ref (g.2.2 130)]) ⟨hx, hb, hml, hown, hts⟩ (c_X12_oneOf l g Ty G_1254 H.size h0 48 4 k_h0 (rg_w rl_48 (by decide) (by decide)) (rg_w rl_4 (by decide) (by decide)) (g.2.2 101) 80 (G_1254.2.1 (g.2.2 101)) (G_1254.2.1 (g.2.2 115)) (G.1 107) (G.1 108) (G_1254.1 114) 80 x_1238 (G.1 110) ⟨u_1264, hmk.2.1, rfl, (fun _ _ => rfl), u_1257, u_1258, rfl, u_1261, u_1259, (rg_w r7 (by decide) (by decide)), by decide, Or.inl (show ((G.1 107) : Int32).toInt ≤ 80 from (rg_w (a2 := 0) (b2 := 80) r7 (by decide) (by decide)).2), by decide, by decide, (rg_w r9_1239 (by decide) (by decide))⟩) (cwV 2 hts (gwV mw_1483 mw_1485 mw_44 mw_88 mw_1486) rfl rfl rfl hv_X12_oneOf ⟨Nat.le_of_ble_eq_true rfl, Nat.le_of_ble_eq_true rfl⟩) ⟨PcT_blind, hg_recv hK o_c_1268 rfl, PcT_pre hK hH⟩ rfl rfl hl.1 rfl (lv_room (Nat.le_of_ble_eq_true rfl)) dX12_readAct_84 ⟨Nat.zero_le _, Nat.zero_le _⟩) hS (fun q _ h => AF.mono hS.1 h) (fun q h => AF.mono hS.1 h) (fun x_1272 ux_1272 t H locs ht hvm hx_1272 hB hz hk hS => ?_)
                obtain ⟨eTx_1272, eGx_1272⟩ := hx_1272
                obtain ⟨G_1273, eG_1273⟩ : ∃ z, z = ux_1272.2 := ⟨_, rfl⟩
                rw [← eG_1273] at eGx_1272
                have pq_1274 := one_pr eGx_1272 (rg_w r9_1239 (by decide) (by decide))
                obtain ⟨hr_1275, hg_1276, hm_1277, hq_1278⟩ := eGx_1272
                have hfr_1279 : FR [109, 110] [] [] G_1254 G_1273 := FR.ps FR.rf hg_1276 (by decide) (by decide)
                have fr_1280 : FR [109, 110, 117] [(g.2.2 116), (g.2.2 130)] [] G G_1273 := FR.tr fr_1256 hfr_1279 (by decide) (fun _ _ => trivial) (by decide)
                have u_1281 : G_1273.1 107 = (G.1 107) := (hfr_1279.1 107 (by decide)).trans u_1257
                have u_1282 : G_1273.1 108 = (G.1 108) := (hfr_1279.1 108 (by decide)).trans u_1258
                have u_1283 : G_1273.1 117 = (G.1 117) := (hfr_1279.1 117 (by decide)).trans u_1260
                have w_1284 : G_1273.2.1 (g.2.2 116) = (G.2.1 (g.2.2 116)) := (hfr_1279.2.1 (g.2.2 116) trivial).trans w_1262
                have w_1285 : G_1273.2.1 (g.2.2 130) = f_1255 := (hfr_1279.2.1 (g.2.2 130) trivial).trans w_1263
                have u_1286 : G_1273.2.2 106 = some (g.2.2 101) := (hfr_1279.2.2 106 (by decide)).trans u_1264
                obtain ⟨xw_1287, exw_1287⟩ : ∃ z : Int32, G_1273.1 110 = z := ⟨_, rfl⟩
                obtain ⟨xa_1288, exa_1288⟩ : ∃ z : Int32, G_1273.1 109 = z := ⟨_, rfl⟩
                have r9_1289 : rgI 0 80 xa_1288 := by rw [← exa_1288, pst109 hg_1276]; exact hq_1278
                rw [exa_1288, exw_1287] at pq_1274
                have hH : HT g Ty G_1273 H := by rw [← ht, ← eTx_1272, eG_1273]; exact hB
                obtain ⟨_, rfl, o_c_1290⟩ := hH (g.2.2 130) _ hk_1270.2.2.2.2.2.2.2.2.2.2.2.1
                have o_c_1290 : va_at g.1 vwCl ((g.2.2 130), .inl (g.2.1 1, 320, .inl (G_1273.2.1 (g.2.2 130)))) H := o_c_1290
                refine hg_iast hx hb hK hS o_c_1290 (AF.of hk_1270.2.2.2.2.2.2.2.2.2.2.2.1) (rg_in (n := 320) rx_1271 (by decide) (by decide)) dX12_readAct_87 (fun H locs o_c_1290 hz oq hS => ?_)
                obtain ⟨G_1291, eG_1291⟩ : ∃ z : Gh, z = aset G_1273 (g.2.2 130) (upd (G_1273.2.1 (g.2.2 130)) (x_1271 : Int32).toNatClampNeg x_1272) := ⟨_, rfl⟩
                have hH : HT g Ty G_1291 H := by rw [eG_1291]; exact HT.putA (upd (G_1273.2.1 (g.2.2 130)) (x_1271 : Int32).toNatClampNeg x_1272) hH hk_1270.2.2.2.2.2.2.2.2.2.2.2.1 cf30 o_c_1290 oq
                obtain ⟨f_1292, ef_1292⟩ : ∃ z : Nat → Int32, z = (upd f_1255 (x_1271 : Int32).toNatClampNeg x_1272) := ⟨_, rfl⟩
                have eaf_1292 : G_1291 = aset G_1273 (g.2.2 130) f_1292 := by rw [eG_1291, ef_1292, w_1285]
                have fr_1293 : FR [109, 110, 117] [(g.2.2 116), (g.2.2 130)] [] G G_1291 := FR.a fr_1280 eaf_1292 (fun b h => h.2.1)
                have u_1294 : G_1291.1 107 = (G.1 107) := by rw [eaf_1292]; exact u_1281
                have u_1295 : G_1291.1 108 = (G.1 108) := by rw [eaf_1292]; exact u_1282
                have u_1296 : G_1291.1 117 = (G.1 117) := by rw [eaf_1292]; exact u_1283
                have u_1297 : G_1291.1 110 = xw_1287 := by rw [eaf_1292]; exact exw_1287
                have u_1298 : G_1291.1 109 = xa_1288 := by rw [eaf_1292]; exact exa_1288
                have w_1299 : G_1291.2.1 (g.2.2 116) = (G.2.1 (g.2.2 116)) := by rw [eaf_1292]; exact (aset_ne (ne_kd hmk.2.2.2.2.1 hmk.2.2.2.2.2.2.2.2.2.2.2.1 (by decide))).trans w_1284
                have w_1300 : G_1291.2.1 (g.2.2 130) = f_1292 := by rw [eaf_1292]; exact aset_eq
                have u_1301 : G_1291.2.2 106 = some (g.2.2 101) := by rw [eaf_1292]; exact u_1286
                clear oq hz
                have ac_1302 := ac_s ac_1265 ef_1292 (ai_d ex_1271 pr0 rfl (by decide)) (by decide)
                have av_1303 : f_1292 (a0.toNatClampNeg + 0) = x_4 := ac_k av_1266 ef_1292 (ai_d ex_1271 pr0 rfl (by decide)) (by decide)
                have av_1304 : f_1292 (a0.toNatClampNeg + 3) = x_1272 := ac_v ef_1292 (ai_d ex_1271 pr0 rfl (by decide))
                refine lv_aload_n hx hb dX12_readAct_88 rfl (lv_at hl 1 rfl) ?_
                obtain ⟨_, ⟨rfl, t_1306, hk_1307⟩, o_c_1305⟩ := hH h0 _ k_h0
                refine vp_callSi (W.runV (As := []) (rest := []) ⟨hx, hb, hml, hown, hts⟩ (c_X12_fine_p l g Ty G_1291 h0 k_h0 (g.2.2 101) 80 (G_1291.2.1 (g.2.2 101)) (G_1291.2.1 (g.2.2 115)) (G.1 107) (G.1 108) (G_1291.1 114) 80 xa_1288 xw_1287 ⟨u_1301, hmk.2.1, rfl, (fun _ _ => rfl), u_1294, u_1295, rfl, u_1298, u_1297, (rg_w r7 (by decide) (by decide)), by decide, Or.inl (show ((G.1 107) : Int32).toInt ≤ 80 from (rg_w (a2 := 0) (b2 := 80) r7 (by decide) (by decide)).2), by decide, by decide, (rg_w r9_1289 (by decide) (by decide))⟩) (cwV 0 hts (gwV mw_1463 mw_1465 mw_39 mw_88 mw_1466) rfl rfl rfl hv_X12_fine ⟨Nat.le_of_ble_eq_true rfl, Nat.le_of_ble_eq_true rfl⟩) ⟨PcH_blind, hg_recv hK o_c_1305 rfl, PcH_pre hK hH⟩ rfl rfl hl.1 rfl (lv_room (Nat.le_of_ble_eq_true rfl)) dX12_readAct_89 ⟨Nat.zero_le _, Nat.zero_le _⟩) (fun x_1308 hx_1308 => ?_)
                have rx_1308 : rgI (0) (1) x_1308 := hx_1308.1
                refine lv_if_ne (tgt := 96) hx hb dX12_readAct_92 (by decide) (fun c_1309 => ?_) (fun c_1309 => ?_)
                · have r_1310 : rgI (1) (1) x_1308 := rg_w (rg_neL rx_1308 rl_0 c_1309) (by decide) (by decide)
                  refine lv_aload_n hx hb dX12_readAct_96 rfl (lv_at hl 1 rfl) ?_
                  refine hg_get hx hb hG igX12 hown hK o_c_1305 rfl 30 (by decide) (hG _ mw_1314) rfl dX12_readAct_97 ?_
                  refine lv_iload_n hx hb dX12_readAct_100 rfl (lv_at hl 2 rfl) ?_
                  refine lv_iconst (v := 1) hx hb dX12_readAct_101 (by decide) ?_
                  refine lv_iadd hx hb dX12_readAct_102 ?_
                  refine lv_topi (fun x_1311 ex_1311 => ?_)
                  have rx_1311 : rgI (1) (317) x_1311 := by rw [ex_1311]; exact rg_w (rg_add pr0 rl_1 (by decide) (by decide)) (by decide) (by decide)
                  have qx_1311 : x_1311.toInt = (a0 : Int32).toInt + 1 := by rw [ex_1311]; exact rg_addE pr0 rl_1 (by decide) (by decide)
                  refine lv_aload_n hx hb dX12_readAct_103 rfl (lv_at hl 1 rfl) ?_
                  have hlm_1312 : 0 ≤ ((G.1 117) : Int32).toInt ∧ ((G.1 117) : Int32).toInt ≤ (xa_1288 : Int32).toInt + 1 := ⟨by have z0 := hlm.1; have z1 := hlm.2; have z2 := qx_1238; have z3 := pq_1274.2.1; omega, by have z0 := hlm.1; have z1 := hlm.2; have z2 := qx_1238; have z3 := pq_1274.2.1; omega⟩
                  refine va_calli (va_runV (As := []) (rest := [.int x_1311, .ref (g.2.2 130)]) ⟨hx, hb, hml, hown, hts⟩ (c_X12_readPath l g Ty G_1291 H.size h0 k_h0 u_1301 (by rw [u_1294]; exact (rg_w r7 (by decide) (by decide))) (by rw [u_1298]; exact (rg_w r9_1289 (by decide) (by decide))) (by rw [u_1297]; exact (pq_1274.2.2.2 w0)) hLD (by rw [u_1296, u_1298]; exact hlm_1312)) (cwV 0 hts (gwV mw_1498 mw_1500 mw_46 mw_88 mw_1501) rfl rfl rfl hv_X12_readPath ⟨Nat.le_of_ble_eq_true rfl, Nat.le_of_ble_eq_true rfl⟩) ⟨PcT_blind, hg_recv hK o_c_1305 rfl, PcT_pre hK hH⟩ rfl rfl hl.1 rfl (lv_room (Nat.le_of_ble_eq_true rfl)) dX12_readAct_104 ⟨Nat.zero_le _, Nat.zero_le _⟩) hS (fun q _ h => AF.mono hS.1 h) (fun q h => AF.mono hS.1 h) (fun x_1313 ux_1313 t H locs ht hvm hx_1313 hB hz hk hS => ?_)
                  obtain ⟨eTx_1313, eGx_1313⟩ := hx_1313
                  obtain ⟨G_1314, eG_1314⟩ : ∃ z, z = ux_1313.2 := ⟨_, rfl⟩
                  rw [← eG_1314] at eGx_1313
                  obtain ⟨hfr_1315, hex_1316⟩ := eGx_1313
                  have fr_1317 : FR [109, 110, 117] [(g.2.2 116), (g.2.2 130)] [] G G_1314 := FR.tr fr_1293 hfr_1315 (by decide) (fun b h => ⟨h.1, trivial⟩) (by decide)
                  have u_1318 : G_1314.1 107 = (G.1 107) := (hfr_1315.1 107 (by decide)).trans u_1294
                  have u_1319 : G_1314.1 108 = (G.1 108) := (hfr_1315.1 108 (by decide)).trans u_1295
                  have w_1320 : G_1314.2.1 (g.2.2 130) = f_1292 := (hfr_1315.2.1 (g.2.2 130) ⟨(ne_kd hmk.2.2.2.2.2.2.2.2.2.2.2.1 hmk.2.2.2.2.1 (by decide)), trivial⟩).trans w_1300
                  have u_1321 : G_1314.2.2 106 = some (g.2.2 101) := (hfr_1315.2.2 106 (by decide)).trans u_1301
                  obtain ⟨f_1322, ef_1322⟩ : ∃ z : Nat → Int32, G_1314.2.1 (g.2.2 116) = z := ⟨_, rfl⟩
                  obtain ⟨xl_1323, exl_1323⟩ : ∃ z : Int32, G_1314.1 117 = z := ⟨_, rfl⟩
                  obtain ⟨xa_1324, exa_1324⟩ : ∃ z : Int32, G_1314.1 109 = z := ⟨_, rfl⟩
                  obtain ⟨xw_1325, exw_1325⟩ : ∃ z : Int32, G_1314.1 110 = z := ⟨_, rfl⟩
                  have rp_1326 := hex_1316
                  rw [ef_1322, exl_1323, exa_1324, exw_1325, w_1299, u_1296, u_1298] at rp_1326
                  have hH : HT g Ty G_1314 H := by rw [← ht, ← eTx_1313, eG_1314]; exact hB
                  have t_1327 := rp_1326.1.2.2.1
                  have t_1328 := rp_1326.1.2.2.2.1
                  have t_1329 := rp_1326.2.2.2.1
                  obtain ⟨_, rfl, o_c_1330⟩ := hH (g.2.2 130) _ hk_1307.2.2.2.2.2.2.2.2.2.2.2.1
                  have o_c_1330 : va_at g.1 vwCl ((g.2.2 130), .inl (g.2.1 1, 320, .inl (G_1314.2.1 (g.2.2 130)))) H := o_c_1330
                  refine hg_iast hx hb hK hS o_c_1330 (AF.of hk_1307.2.2.2.2.2.2.2.2.2.2.2.1) (rg_in (n := 320) rx_1311 (by decide) (by decide)) dX12_readAct_107 (fun H locs o_c_1330 hz oq hS => ?_)
                  obtain ⟨G_1331, eG_1331⟩ : ∃ z : Gh, z = aset G_1314 (g.2.2 130) (upd (G_1314.2.1 (g.2.2 130)) (x_1311 : Int32).toNatClampNeg x_1313) := ⟨_, rfl⟩
                  have hH : HT g Ty G_1331 H := by rw [eG_1331]; exact HT.putA (upd (G_1314.2.1 (g.2.2 130)) (x_1311 : Int32).toNatClampNeg x_1313) hH hk_1307.2.2.2.2.2.2.2.2.2.2.2.1 cf30 o_c_1330 oq
                  obtain ⟨f_1332, ef_1332⟩ : ∃ z : Nat → Int32, z = (upd f_1292 (x_1311 : Int32).toNatClampNeg x_1313) := ⟨_, rfl⟩
                  have eaf_1332 : G_1331 = aset G_1314 (g.2.2 130) f_1332 := by rw [eG_1331, ef_1332, w_1320]
                  have fr_1333 : FR [109, 110, 117] [(g.2.2 116), (g.2.2 130)] [] G G_1331 := FR.a fr_1317 eaf_1332 (fun b h => h.2.1)
                  have u_1334 : G_1331.1 107 = (G.1 107) := by rw [eaf_1332]; exact u_1318
                  have u_1335 : G_1331.1 108 = (G.1 108) := by rw [eaf_1332]; exact u_1319
                  have u_1336 : G_1331.1 109 = xa_1324 := by rw [eaf_1332]; exact exa_1324
                  have u_1337 : G_1331.1 110 = xw_1325 := by rw [eaf_1332]; exact exw_1325
                  have u_1338 : G_1331.1 117 = xl_1323 := by rw [eaf_1332]; exact exl_1323
                  have w_1339 : G_1331.2.1 (g.2.2 130) = f_1332 := by rw [eaf_1332]; exact aset_eq
                  have w_1340 : G_1331.2.1 (g.2.2 116) = f_1322 := by rw [eaf_1332]; exact (aset_ne (ne_kd hmk.2.2.2.2.1 hmk.2.2.2.2.2.2.2.2.2.2.2.1 (by decide))).trans ef_1322
                  have u_1341 : G_1331.2.2 106 = some (g.2.2 101) := by rw [eaf_1332]; exact u_1321
                  clear oq hz
                  have ac_1342 := ac_s ac_1302 ef_1332 (ai_d ex_1311 pr0 rfl (by decide)) (by decide)
                  have av_1343 : f_1332 (a0.toNatClampNeg + 0) = x_4 := ac_k av_1303 ef_1332 (ai_d ex_1311 pr0 rfl (by decide)) (by decide)
                  have av_1344 : f_1332 (a0.toNatClampNeg + 3) = x_1272 := ac_k av_1304 ef_1332 (ai_d ex_1311 pr0 rfl (by decide)) (by decide)
                  have av_1345 : f_1332 (a0.toNatClampNeg + 1) = x_1313 := ac_v ef_1332 (ai_d ex_1311 pr0 rfl (by decide))
                  refine lv_aload_n hx hb dX12_readAct_108 rfl (lv_at hl 1 rfl) ?_
                  obtain ⟨_, ⟨rfl, t_1347, hk_1348⟩, o_c_1346⟩ := hH h0 _ k_h0
                  refine vp_callSi (W.runV (As := []) (rest := []) ⟨hx, hb, hml, hown, hts⟩ (c_X12_fine_p l g Ty G_1331 h0 k_h0 (g.2.2 101) 80 (G_1331.2.1 (g.2.2 101)) (G_1331.2.1 (g.2.2 115)) (G.1 107) (G.1 108) (G_1331.1 114) 80 xa_1324 xw_1325 ⟨u_1341, hmk.2.1, rfl, (fun _ _ => rfl), u_1334, u_1335, rfl, u_1336, u_1337, (rg_w r7 (by decide) (by decide)), by decide, Or.inl (show ((G.1 107) : Int32).toInt ≤ 80 from (rg_w (a2 := 0) (b2 := 80) r7 (by decide) (by decide)).2), by decide, by decide, (rg_w rp_1326.2.2.1 (by decide) (by decide))⟩) (cwV 0 hts (gwV mw_1463 mw_1465 mw_39 mw_88 mw_1466) rfl rfl rfl hv_X12_fine ⟨Nat.le_of_ble_eq_true rfl, Nat.le_of_ble_eq_true rfl⟩) ⟨PcH_blind, hg_recv hK o_c_1346 rfl, PcH_pre hK hH⟩ rfl rfl hl.1 rfl (lv_room (Nat.le_of_ble_eq_true rfl)) dX12_readAct_109 ⟨Nat.zero_le _, Nat.zero_le _⟩) (fun x_1349 hx_1349 => ?_)
                  have rx_1349 : rgI (0) (1) x_1349 := hx_1349.1
                  refine lv_if_eq (tgt := 170) hx hb dX12_readAct_112 (by decide) (fun c_1350 => ?_) (fun c_1350 => ?_)
                  · have r_1351 : rgI (0) (0) x_1349 := rg_w (rg_eq rl_0 c_1350) (by decide) (by decide)
                    refine lv_aload_n hx hb dX12_readAct_170 rfl (lv_at hl 1 rfl) ?_
                    refine vp_callSi (W.runV (As := []) (rest := []) ⟨hx, hb, hml, hown, hts⟩ (c_X12_fine_p l g Ty G_1331 h0 k_h0 (g.2.2 101) 80 (G_1331.2.1 (g.2.2 101)) (G_1331.2.1 (g.2.2 115)) (G.1 107) (G.1 108) (G_1331.1 114) 80 xa_1324 xw_1325 ⟨u_1341, hmk.2.1, rfl, (fun _ _ => rfl), u_1334, u_1335, rfl, u_1336, u_1337, (rg_w r7 (by decide) (by decide)), by decide, Or.inl (show ((G.1 107) : Int32).toInt ≤ 80 from (rg_w (a2 := 0) (b2 := 80) r7 (by decide) (by decide)).2), by decide, by decide, (rg_w rp_1326.2.2.1 (by decide) (by decide))⟩) (cwV 0 hts (gwV mw_1463 mw_1465 mw_39 mw_88 mw_1466) rfl rfl rfl hv_X12_fine ⟨Nat.le_of_ble_eq_true rfl, Nat.le_of_ble_eq_true rfl⟩) ⟨PcH_blind, hg_recv hK o_c_1346 rfl, PcH_pre hK hH⟩ rfl rfl hl.1 rfl (lv_room (Nat.le_of_ble_eq_true rfl)) dX12_readAct_171 ⟨Nat.zero_le _, Nat.zero_le _⟩) (fun x_1352 hx_1352 => ?_)
                    have rx_1352 : rgI (0) (1) x_1352 := hx_1352.1
                    refine lv_if_eq (tgt := 194) hx hb dX12_readAct_174 (by decide) (fun c_1353 => ?_) (fun c_1353 => ?_)
                    · have r_1354 : rgI (0) (0) x_1352 := rg_w (rg_eq rl_0 c_1353) (by decide) (by decide)
                      exact W.vret hx hb hr (fun t ht hWm => ⟨⟨(Ty, G_1331), rfl, ⟨rfl, ⟨fr_1333, (by rw [w_1340, w_1339, u_1338, u_1336, u_1337]; exact ⟨by have z0 := hlm.1; have z1 := hlm.2; have z2 := qx_1238; have z3 := pq_1274.2.1; have z4 := t_1327; have z5 := t_1328; have z6 := t_1329; omega, rp_1326.1.1, ac_1342, by have z0 := hlm.1; have z1 := hlm.2; have z2 := qx_1238; have z3 := pq_1274.2.1; have z4 := t_1327; have z5 := t_1328; have z6 := t_1329; omega, (rg_w rp_1326.2.2.1 (by decide) (by decide)), rp_1326.2.1, by have z0 := hlm.1; have z1 := hlm.2; have z2 := qx_1238; have z3 := pq_1274.2.1; have z4 := t_1327; have z5 := t_1328; have z6 := t_1329; omega, (fun q => absurd q (fin_0 hx_1352.2 c_1353))⟩)⟩⟩, by show HT g Ty G_1331 t.heap; rw [ht]; exact hH⟩, hS.F ht⟩) hS.2.2 dX12_readAct_194
                    · have r_1355 : rgI (1) (1) x_1352 := rg_w (rg_neL rx_1352 rl_0 c_1353) (by decide) (by decide)
                      exact absurd (fin_1 hx_1352.2 c_1353) (fin_0 hx_1349.2 c_1350)
                  · have r_1356 : rgI (1) (1) x_1349 := rg_w (rg_neL rx_1349 rl_0 c_1350) (by decide) (by decide)
                    have t_1357 := rp_1326.1.2.2.2.2 (fin_1 hx_1349.2 c_1350)
                    refine lv_iload_n hx hb dX12_readAct_115 rfl (lv_at hl 0 rfl) ?_
                    refine lv_bipush (v := 98) hx hb dX12_readAct_116 (by decide) ?_
                    refine lv_icmp_eq (tgt := 133) hx hb dX12_readAct_118 (by decide) (fun c_1358 => ?_) (fun c_1358 => ?_)
                    · exact rg_noE r_1237 rl_98 c_1358 (by decide)
                    · refine lv_iload_n hx hb dX12_readAct_121 rfl (lv_at hl 0 rfl) ?_
                      refine lv_bipush (v := 114) hx hb dX12_readAct_122 (by decide) ?_
                      refine lv_icmp_eq (tgt := 133) hx hb dX12_readAct_124 (by decide) (fun c_1359 => ?_) (fun c_1359 => ?_)
                      · exact rg_noE r_1237 rl_114 c_1359 (by decide)
                      · refine lv_iload_n hx hb dX12_readAct_127 rfl (lv_at hl 0 rfl) ?_
                        refine lv_bipush (v := 118) hx hb dX12_readAct_128 (by decide) ?_
                        refine lv_icmp_ne (tgt := 170) hx hb dX12_readAct_130 (by decide) (fun c_1360 => ?_) (fun c_1360 => ?_)
                        · refine lv_aload_n hx hb dX12_readAct_170 rfl (lv_at hl 1 rfl) ?_
                          refine vp_callSi (W.runV (As := []) (rest := []) ⟨hx, hb, hml, hown, hts⟩ (c_X12_fine_p l g Ty G_1331 h0 k_h0 (g.2.2 101) 80 (G_1331.2.1 (g.2.2 101)) (G_1331.2.1 (g.2.2 115)) (G.1 107) (G.1 108) (G_1331.1 114) 80 xa_1324 xw_1325 ⟨u_1341, hmk.2.1, rfl, (fun _ _ => rfl), u_1334, u_1335, rfl, u_1336, u_1337, (rg_w r7 (by decide) (by decide)), by decide, Or.inl (show ((G.1 107) : Int32).toInt ≤ 80 from (rg_w (a2 := 0) (b2 := 80) r7 (by decide) (by decide)).2), by decide, by decide, (rg_w rp_1326.2.2.1 (by decide) (by decide))⟩) (cwV 0 hts (gwV mw_1463 mw_1465 mw_39 mw_88 mw_1466) rfl rfl rfl hv_X12_fine ⟨Nat.le_of_ble_eq_true rfl, Nat.le_of_ble_eq_true rfl⟩) ⟨PcH_blind, hg_recv hK o_c_1346 rfl, PcH_pre hK hH⟩ rfl rfl hl.1 rfl (lv_room (Nat.le_of_ble_eq_true rfl)) dX12_readAct_171 ⟨Nat.zero_le _, Nat.zero_le _⟩) (fun x_1361 hx_1361 => ?_)
                          have rx_1361 : rgI (0) (1) x_1361 := hx_1361.1
                          refine lv_if_eq (tgt := 194) hx hb dX12_readAct_174 (by decide) (fun c_1362 => ?_) (fun c_1362 => ?_)
                          · have r_1363 : rgI (0) (0) x_1361 := rg_w (rg_eq rl_0 c_1362) (by decide) (by decide)
                            exact W.vret hx hb hr (fun t ht hWm => ⟨⟨(Ty, G_1331), rfl, ⟨rfl, ⟨fr_1333, (by rw [w_1340, w_1339, u_1338, u_1336, u_1337]; exact ⟨by have z0 := hlm.1; have z1 := hlm.2; have z2 := qx_1238; have z3 := pq_1274.2.1; have z4 := t_1327; have z5 := t_1328; have z6 := t_1329; have z7 := t_1357; omega, rp_1326.1.1, ac_1342, by have z0 := hlm.1; have z1 := hlm.2; have z2 := qx_1238; have z3 := pq_1274.2.1; have z4 := t_1327; have z5 := t_1328; have z6 := t_1329; have z7 := t_1357; omega, (rg_w rp_1326.2.2.1 (by decide) (by decide)), rp_1326.2.1, by have z0 := hlm.1; have z1 := hlm.2; have z2 := qx_1238; have z3 := pq_1274.2.1; have z4 := t_1327; have z5 := t_1328; have z6 := t_1329; have z7 := t_1357; omega, (fun q => absurd q (fin_0 hx_1361.2 c_1362))⟩)⟩⟩, by show HT g Ty G_1331 t.heap; rw [ht]; exact hH⟩, hS.F ht⟩) hS.2.2 dX12_readAct_194
                          · have r_1364 : rgI (1) (1) x_1361 := rg_w (rg_neL rx_1361 rl_0 c_1362) (by decide) (by decide)
                            have t_1365 := rp_1326.1.2.2.2.2 (fin_1 hx_1361.2 c_1362)
                            refine lv_aload_n hx hb dX12_readAct_177 rfl (lv_at hl 1 rfl) ?_
                            refine lv_bipush (v := 46) hx hb dX12_readAct_178 (by decide) ?_
                            refine va_calli (va_runV (As := [.int 46]) (rest := []) ⟨hx, hb, hml, hown, hts⟩ (c_X12_passes l g Ty G_1331 H.size h0 46 k_h0 (rg_w rl_46 (by decide) (by decide)) (g.2.2 101) 80 (G_1331.2.1 (g.2.2 101)) (G_1331.2.1 (g.2.2 115)) (G.1 107) (G.1 108) (G_1331.1 114) 80 xa_1324 xw_1325 ⟨u_1341, hmk.2.1, rfl, (fun _ _ => rfl), u_1334, u_1335, rfl, u_1336, u_1337, (rg_w r7 (by decide) (by decide)), by decide, Or.inl (show ((G.1 107) : Int32).toInt ≤ 80 from (rg_w (a2 := 0) (b2 := 80) r7 (by decide) (by decide)).2), by decide, by decide, (rg_w rp_1326.2.2.1 (by decide) (by decide))⟩) (cwV 1 hts (gwV mw_1459 mw_1461 mw_38 mw_88 mw_1462) rfl rfl rfl hv_X12_passes ⟨Nat.le_of_ble_eq_true rfl, Nat.le_of_ble_eq_true rfl⟩) ⟨PcT_blind, hg_recv hK o_c_1346 rfl, PcT_pre hK hH⟩ rfl rfl hl.1 rfl (lv_room (Nat.le_of_ble_eq_true rfl)) dX12_readAct_180 ⟨Nat.zero_le _, Nat.zero_le _⟩) hS (fun q _ h => AF.mono hS.1 h) (fun q h => AF.mono hS.1 h) (fun x_1366 ux_1366 t H locs ht hvm hx_1366 hB hz hk hS => ?_)
                            obtain ⟨hx_1366, fx_1366⟩ := hx_1366
                            obtain ⟨eTx_1366, eGx_1366⟩ := fx_1366
                            obtain ⟨G_1367, eG_1367⟩ : ∃ z, z = ux_1366.2 := ⟨_, rfl⟩
                            rw [← eG_1367] at eGx_1366
                            have pq_1368 := pas_pr eGx_1366 (rg_w rp_1326.2.2.1 (by decide) (by decide))
                            obtain ⟨hr_1369, hg_1370, hm_1371, hq_1372⟩ := eGx_1366
                            have hfr_1373 : FR [109, 110] [] [] G_1331 G_1367 := FR.ps FR.rf hg_1370 (by decide) (by decide)
                            have fr_1374 : FR [109, 110, 117] [(g.2.2 116), (g.2.2 130)] [] G G_1367 := FR.tr fr_1333 hfr_1373 (by decide) (fun _ _ => trivial) (by decide)
                            have u_1375 : G_1367.1 107 = (G.1 107) := (hfr_1373.1 107 (by decide)).trans u_1334
                            have u_1376 : G_1367.1 108 = (G.1 108) := (hfr_1373.1 108 (by decide)).trans u_1335
                            have u_1377 : G_1367.1 117 = xl_1323 := (hfr_1373.1 117 (by decide)).trans u_1338
                            have w_1378 : G_1367.2.1 (g.2.2 130) = f_1332 := (hfr_1373.2.1 (g.2.2 130) trivial).trans w_1339
                            have w_1379 : G_1367.2.1 (g.2.2 116) = f_1322 := (hfr_1373.2.1 (g.2.2 116) trivial).trans w_1340
                            have u_1380 : G_1367.2.2 106 = some (g.2.2 101) := (hfr_1373.2.2 106 (by decide)).trans u_1341
                            obtain ⟨xw_1381, exw_1381⟩ : ∃ z : Int32, G_1367.1 110 = z := ⟨_, rfl⟩
                            obtain ⟨xa_1382, exa_1382⟩ : ∃ z : Int32, G_1367.1 109 = z := ⟨_, rfl⟩
                            have r9_1383 : rgI 0 80 xa_1382 := by rw [← exa_1382, pst109 hg_1370]; exact hq_1372
                            rw [exa_1382, exw_1381] at pq_1368
                            have hH : HT g Ty G_1367 H := by rw [← ht, ← eTx_1366, eG_1367]; exact hB
                            have rx_1366 : rgI (0) (1) x_1366 := hx_1366.1
                            refine lv_if_ne (tgt := 194) hx hb dX12_readAct_183 (by decide) (fun c_1384 => ?_) (fun c_1384 => ?_)
                            · have r_1385 : rgI (1) (1) x_1366 := rg_w (rg_neL rx_1366 rl_0 c_1384) (by decide) (by decide)
                              have t_1386 := (pq_1368.2.resolve_left (fun z => c_1384 z.1)).2.1
                              exact W.vret hx hb hr (fun t ht hWm => ⟨⟨(Ty, G_1367), rfl, ⟨rfl, ⟨fr_1374, (by rw [w_1379, w_1378, u_1377, exa_1382, exw_1381]; exact ⟨by have z0 := hlm.1; have z1 := hlm.2; have z2 := qx_1238; have z3 := pq_1274.2.1; have z4 := t_1327; have z5 := t_1328; have z6 := t_1329; have z7 := t_1357; have z8 := t_1365; have z9 := t_1386; omega, rp_1326.1.1, ac_1342, by have z0 := hlm.1; have z1 := hlm.2; have z2 := qx_1238; have z3 := pq_1274.2.1; have z4 := t_1327; have z5 := t_1328; have z6 := t_1329; have z7 := t_1357; have z8 := t_1365; have z9 := t_1386; omega, (rg_w r9_1383 (by decide) (by decide)), (by rw [pq_1368.1]; exact rp_1326.2.1), by have z0 := hlm.1; have z1 := hlm.2; have z2 := qx_1238; have z3 := pq_1274.2.1; have z4 := t_1327; have z5 := t_1328; have z6 := t_1329; have z7 := t_1357; have z8 := t_1365; have z9 := t_1386; omega, (fun q => ⟨by have z0 := hlm.1; have z1 := hlm.2; have z2 := qx_1238; have z3 := pq_1274.2.1; have z4 := t_1327; have z5 := t_1328; have z6 := t_1329; have z7 := t_1357; have z8 := t_1365; have z9 := t_1386; omega, by have z0 := hlm.1; have z1 := hlm.2; have z2 := qx_1238; have z3 := pq_1274.2.1; have z4 := t_1327; have z5 := t_1328; have z6 := t_1329; have z7 := t_1357; have z8 := t_1365; have z9 := t_1386; omega, ⟨(ps_eq rp_1326.1.2.1 (av_1345.trans rp_1326.2.2.2.2)), Or.inr (Or.inr (Or.inl (av_1343.trans c_1236)))⟩⟩)⟩)⟩⟩, by show HT g Ty G_1367 t.heap; rw [ht]; exact hH⟩, hS.F ht⟩) hS.2.2 dX12_readAct_194
                            · have r_1387 : rgI (0) (0) x_1366 := rg_w (rg_eq rl_0 c_1384) (by decide) (by decide)
                              have t_1388 : xa_1382 = xa_1324 := (pq_1368.2.resolve_right (fun z => z.1 c_1384)).2
                              have t_1389 : (xa_1382 : Int32).toInt = (xa_1324 : Int32).toInt := by rw [t_1388]
                              refine lv_aload_n hx hb dX12_readAct_186 rfl (lv_at hl 1 rfl) ?_
                              refine lv_aload_n hx hb dX12_readAct_187 rfl (lv_at hl 1 rfl) ?_
                              obtain ⟨_, ⟨rfl, t_1391, hk_1392⟩, o_c_1390⟩ := hH h0 _ k_h0
                              refine hg_get hx hb hG igX12 hown hK o_c_1390 rfl 9 (by decide) (hG _ mw_1293) rfl dX12_readAct_188 ?_
                              rw [exa_1382]
                              refine va_callv (va_runV (As := [.int xa_1382]) (rest := []) ⟨hx, hb, hml, hown, hts⟩ (c_X12_fault_p l g Ty G_1367 H.size h0 xa_1382 k_h0 (g.2.2 101) 80 (G_1367.2.1 (g.2.2 101)) (G_1367.2.1 (g.2.2 115)) (G.1 107) (G.1 108) (G_1367.1 114) 80 xa_1382 xw_1381 ⟨u_1380, hmk.2.1, rfl, (fun _ _ => rfl), u_1375, u_1376, rfl, exa_1382, exw_1381, (rg_w r7 (by decide) (by decide)), by decide, Or.inl (show ((G.1 107) : Int32).toInt ≤ 80 from (rg_w (a2 := 0) (b2 := 80) r7 (by decide) (by decide)).2), by decide, by decide, (rg_w r9_1383 (by decide) (by decide))⟩) (cwV 1 hts (gwV mw_1475 mw_1477 mw_42 mw_88 mw_1478) rfl rfl rfl hv_X12_fault ⟨Nat.le_of_ble_eq_true rfl, Nat.le_of_ble_eq_true rfl⟩) ⟨PcT_blind, hg_recv hK o_c_1390 rfl, PcT_pre hK hH⟩ rfl rfl hl.1 rfl (lv_room (Nat.le_of_ble_eq_true rfl)) dX12_readAct_191 ⟨Nat.zero_le _, Nat.zero_le _⟩) hS (fun q _ h => AF.mono hS.1 h) (fun q h => AF.mono hS.1 h) (fun ux_1393 t H locs ht hvm hx_1393 hB hz hk hS => ?_)
                              obtain ⟨eTx_1393, eGx_1393⟩ := hx_1393
                              obtain ⟨G_1394, eG_1394⟩ : ∃ z, z = ux_1393.2 := ⟨_, rfl⟩
                              rw [← eG_1394] at eGx_1393
                              have pq_1395 := flt_pr eGx_1393 (rg_w r9_1383 (by decide) (by decide))
                              obtain ⟨hg_1397, hm_1398, hq_1399⟩ := eGx_1393
                              have hfr_1400 : FR [109, 110] [] [] G_1367 G_1394 := FR.ps FR.rf hg_1397 (by decide) (by decide)
                              have fr_1401 : FR [109, 110, 117] [(g.2.2 116), (g.2.2 130)] [] G G_1394 := FR.tr fr_1374 hfr_1400 (by decide) (fun _ _ => trivial) (by decide)
                              have u_1402 : G_1394.1 107 = (G.1 107) := (hfr_1400.1 107 (by decide)).trans u_1375
                              have u_1403 : G_1394.1 108 = (G.1 108) := (hfr_1400.1 108 (by decide)).trans u_1376
                              have u_1404 : G_1394.1 117 = xl_1323 := (hfr_1400.1 117 (by decide)).trans u_1377
                              have w_1405 : G_1394.2.1 (g.2.2 130) = f_1332 := (hfr_1400.2.1 (g.2.2 130) trivial).trans w_1378
                              have w_1406 : G_1394.2.1 (g.2.2 116) = f_1322 := (hfr_1400.2.1 (g.2.2 116) trivial).trans w_1379
                              have u_1407 : G_1394.2.2 106 = some (g.2.2 101) := (hfr_1400.2.2 106 (by decide)).trans u_1380
                              obtain ⟨xw_1408, exw_1408⟩ : ∃ z : Int32, G_1394.1 110 = z := ⟨_, rfl⟩
                              have e9_1409 := pq_1395.1
                              rw [exw_1408] at pq_1395
                              have hH : HT g Ty G_1394 H := by rw [← ht, ← eTx_1393, eG_1394]; exact hB
                              exact W.vret hx hb hr (fun t ht hWm => ⟨⟨(Ty, G_1394), rfl, ⟨rfl, ⟨fr_1401, (by rw [w_1406, w_1405, u_1404, e9_1409, exw_1408]; exact ⟨by have z0 := hlm.1; have z1 := hlm.2; have z2 := qx_1238; have z3 := pq_1274.2.1; have z4 := t_1327; have z5 := t_1328; have z6 := t_1329; have z7 := t_1357; have z8 := t_1365; have z9 := t_1389; omega, rp_1326.1.1, ac_1342, by have z0 := hlm.1; have z1 := hlm.2; have z2 := qx_1238; have z3 := pq_1274.2.1; have z4 := t_1327; have z5 := t_1328; have z6 := t_1329; have z7 := t_1357; have z8 := t_1365; have z9 := t_1389; omega, (rg_w r9_1383 (by decide) (by decide)), (pq_1395.2.2 (by rw [pq_1368.1]; exact rp_1326.2.1)), by have z0 := hlm.1; have z1 := hlm.2; have z2 := qx_1238; have z3 := pq_1274.2.1; have z4 := t_1327; have z5 := t_1328; have z6 := t_1329; have z7 := t_1357; have z8 := t_1365; have z9 := t_1389; omega, (fun q => absurd q pq_1395.2.1)⟩)⟩⟩, by show HT g Ty G_1394 t.heap; rw [ht]; exact hH⟩, hS.F ht⟩) hS.2.2 dX12_readAct_194
                        · exact rg_noE r_1237 rl_118 c_1360 (by decide)
                · have r_1410 : rgI (0) (0) x_1308 := rg_w (rg_eq rl_0 c_1309) (by decide) (by decide)
                  exact W.vret hx hb hr (fun t ht hWm => ⟨⟨(Ty, G_1291), rfl, ⟨rfl, ⟨fr_1293, (by rw [w_1299, w_1300, u_1296, u_1298, u_1297]; exact ⟨by have z0 := hlm.1; have z1 := hlm.2; have z2 := qx_1238; have z3 := pq_1274.2.1; omega, (fun _ _ => rfl), ac_1302, by have z0 := hlm.1; have z1 := hlm.2; have z2 := qx_1238; have z3 := pq_1274.2.1; omega, (rg_w r9_1289 (by decide) (by decide)), (pq_1274.2.2.2 w0), by have z0 := hlm.1; have z1 := hlm.2; have z2 := qx_1238; have z3 := pq_1274.2.1; omega, (fun q => absurd q (fin_0 hx_1308.2 c_1309))⟩)⟩⟩, by show HT g Ty G_1291 t.heap; rw [ht]; exact hH⟩, hS.F ht⟩) hS.2.2 dX12_readAct_95
            · refine lv_aload_n hx hb dX12_readAct_41 rfl (lv_at hl 1 rfl) ?_
              refine lv_aload_n hx hb dX12_readAct_42 rfl (lv_at hl 1 rfl) ?_
              refine hg_get hx hb hG igX12 hown hK o_c_1 rfl 9 (by decide) (hG _ mw_1293) rfl dX12_readAct_43 ?_
              refine va_callv (va_runV (As := [.int (G.1 109)]) (rest := []) ⟨hx, hb, hml, hown, hts⟩ (c_X12_fault_p l g Ty G s.heap.size h0 (G.1 109) k_h0 (g.2.2 101) 80 (G.2.1 (g.2.2 101)) (G.2.1 (g.2.2 115)) (G.1 107) (G.1 108) (G.1 114) 80 (G.1 109) (G.1 110) ⟨r6, hmk.2.1, rfl, (fun _ _ => rfl), rfl, rfl, rfl, rfl, rfl, (rg_w r7 (by decide) (by decide)), by decide, Or.inl (show ((G.1 107) : Int32).toInt ≤ 80 from (rg_w (a2 := 0) (b2 := 80) r7 (by decide) (by decide)).2), by decide, by decide, (rg_w r9 (by decide) (by decide))⟩) (cwV 1 hts (gwV mw_1475 mw_1477 mw_42 mw_88 mw_1478) rfl rfl rfl hv_X12_fault ⟨Nat.le_of_ble_eq_true rfl, Nat.le_of_ble_eq_true rfl⟩) ⟨PcT_blind, hg_recv hK o_c_1 rfl, PcT_pre hK hH⟩ rfl rfl hl.1 rfl (lv_room (Nat.le_of_ble_eq_true rfl)) dX12_readAct_46 ⟨Nat.zero_le _, Nat.zero_le _⟩) hS (fun q _ h => AF.mono hS.1 h) (fun q h => AF.mono hS.1 h) (fun ux_1411 t H locs ht hvm hx_1411 hB hz hk hS => ?_)
              obtain ⟨eTx_1411, eGx_1411⟩ := hx_1411
              obtain ⟨G_1412, eG_1412⟩ : ∃ z, z = ux_1411.2 := ⟨_, rfl⟩
              rw [← eG_1412] at eGx_1411
              have pq_1413 := flt_pr eGx_1411 (rg_w r9 (by decide) (by decide))
              obtain ⟨hg_1415, hm_1416, hq_1417⟩ := eGx_1411
              have hfr_1418 : FR [109, 110] [] [] G G_1412 := FR.ps FR.rf hg_1415 (by decide) (by decide)
              have fr_1419 : FR [109, 110, 117] [(g.2.2 116), (g.2.2 130)] [] G G_1412 := FR.tr FR.rf hfr_1418 (by decide) (fun _ _ => trivial) (by decide)
              have u_1420 : G_1412.1 107 = (G.1 107) := (hfr_1418.1 107 (by decide))
              have u_1421 : G_1412.1 108 = (G.1 108) := (hfr_1418.1 108 (by decide))
              have u_1422 : G_1412.1 117 = (G.1 117) := (hfr_1418.1 117 (by decide))
              have w_1423 : G_1412.2.1 (g.2.2 116) = (G.2.1 (g.2.2 116)) := (hfr_1418.2.1 (g.2.2 116) trivial)
              have w_1424 : G_1412.2.1 (g.2.2 130) = (G.2.1 (g.2.2 130)) := (hfr_1418.2.1 (g.2.2 130) trivial)
              have u_1425 : G_1412.2.2 106 = some (g.2.2 101) := (hfr_1418.2.2 106 (by decide)).trans r6
              obtain ⟨xw_1426, exw_1426⟩ : ∃ z : Int32, G_1412.1 110 = z := ⟨_, rfl⟩
              have e9_1427 := pq_1413.1
              rw [exw_1426] at pq_1413
              have hH : HT g Ty G_1412 H := by rw [← ht, ← eTx_1411, eG_1412]; exact hB
              exact W.vret hx hb hr (fun t ht hWm => ⟨⟨(Ty, G_1412), rfl, ⟨rfl, ⟨fr_1419, (by rw [w_1423, w_1424, u_1422, e9_1427, exw_1426]; exact ⟨by have z0 := hlm.1; have z1 := hlm.2; omega, (fun _ _ => rfl), (fun _ _ => rfl), by have z0 := hlm.1; have z1 := hlm.2; omega, (rg_w r9 (by decide) (by decide)), (pq_1413.2.2 w0), by have z0 := hlm.1; have z1 := hlm.2; omega, (fun q => absurd q pq_1413.2.1)⟩)⟩⟩, by show HT g Ty G_1412 t.heap; rw [ht]; exact hH⟩, hS.F ht⟩) hS.2.2 dX12_readAct_49
