theorem rg_00 {x : Int32} {a : Int} (h : rgI a 0 x) (c : 0 ≤ x) : x = 0 := by
  have h1 : 0 ≤ x.toInt := fz_le.mp c
  have h2 := h.2
  exact Int32.toInt_inj.mp (by have z : (0 : Int32).toInt = 0 := rfl; omega)

set_option maxHeartbeats 4000000 in
set_option maxRecDepth 100000 in
theorem c_X12_peers (l : Launch) (g : Gx) (Ty : TyM) (G : Gh) (sz : Nat) (h0 : Nat) (a0 : Int32) (k_h0 : Ty h0 = some (22, 0)) (Bd : Int) (hI : OI g Bd G) (hBd : Bd ≤ 1900000) (hLD : LD g) : Met l yX12_peers (wsG yX12_peers cX12_peers 4 (some .int)) ({ frames := 3, cells := 0, slots := 0, locals := 66 }) (PcT g Ty G sz [.ref h0, .int a0]) (QwI g Ty sz (fun r u => u.1 = Ty ∧ FR [104, 105] [] [] G u.2 ∧ OI g (Bd + 1000) u.2)) 0 0 (AF Ty sz) := by
  refine Met.ofW (cc := cX12_peers) (maxL := 4) (ret := (some .int)) (by decide) rfl ?_
  intro p e s m args below meth c s₁ B hml hv
  obtain ⟨rfl, hsz, hK, hH⟩ := hv
  subst hsz
  have hx := B.exec
  have hb := B.bytes
  have hr := B.returns
  have hts := atoms_spec (ws := (wsG yX12_peers cX12_peers 4 (some .int))) B.pre
  have hG : ∀ w ∈ GW, w.before ([.ref h0, .int a0] : List Value).toArray s = true := fun w h => hts w (List.mem_cons_of_mem _ h)
  have hown : s.vm.findClass RX12 = some m.cls := findClass_of_methodNamed B.named
  have hlocks := B.notSynchronized
  have hl := lv_entry [.ref h0, .int a0] (n := 4) (Nat.le_of_ble_eq_true rfl)
  rw [lg_entry_eq]
  generalize (lg_sl [.ref h0, .int a0] ++ List.replicate (4 - (lg_sl [.ref h0, .int a0]).length) Slot.unset).toArray = ls at hl ⊢
  have hl : lv_has ls 4 [(0, .ref h0), (1, .int a0)] := hl
  have hmk : mdK g Ty := mdk_of hH k_h0
  have hS : va_S (AF Ty s.heap.size) s.heap s.heap [] := va_S.rf
  obtain ⟨⟨σ0, hTS0⟩, h10, hBB0⟩ := id hI.ti
  obtain ⟨ρ, hT⟩ := hTS0.1
  refine lv_aload_n hx hb dX12_peers_0 rfl (lv_at hl 0 rfl) ?_
  refine lv_iconst (v := 0) hx hb dX12_peers_1 (by decide) ?_
  obtain ⟨_, ⟨rfl, t_2, hk_3⟩, o_c_1⟩ := hH h0 _ k_h0
  refine hg_put (ty := .int) hx hb hG igX12 tyX12 tyX12_ok nmX12 hown hK hS o_c_1 (AF.of k_h0) rfl 5 (by decide) (hG _ mw_1289) rfl (by decide +kernel) rfl rfl (Nat.le_of_ble_eq_true rfl) dX12_peers_2 (fun H locs o_c_1 hz oq hS => ?_)
  obtain ⟨G_4, eG_4⟩ : ∃ z : Gh, z = gset G 105 0 := ⟨_, rfl⟩
  have hH : HT g Ty G_4 H := by rw [eG_4]; exact HT.putN 105 0 hH k_h0 ⟨rfl, t_2, hk_3⟩ o_c_1 oq (Or.inr (Or.inr (Or.inr (Or.inr (Or.inr ⟨by decide, t_2⟩)))))
  have fr_5 : FR [104, 105] [] [] G G_4 := FR.n FR.rf eG_4 (by decide)
  have u_6 : G_4.1 102 = (G.1 102) := by rw [eG_4]; exact (gs_ne (by decide))
  have u_7 : G_4.1 104 = (G.1 104) := by rw [eG_4]; exact (gs_ne (by decide))
  have u_8 : G_4.1 113 = (G.1 113) := by rw [eG_4]; exact (gs_ne (by decide))
  have u_9 : G_4.1 122 = (G.1 122) := by rw [eG_4]; exact (gs_ne (by decide))
  have u_10 : G_4.1 133 = (G.1 133) := by rw [eG_4]; exact (gs_ne (by decide))
  have u_11 : G_4.1 137 = (G.1 137) := by rw [eG_4]; exact (gs_ne (by decide))
  have u_12 : G_4.1 105 = 0 := by rw [eG_4]; exact gs_eq
  have w_13 : G_4.2.1 (g.2.2 100) = (G.2.1 (g.2.2 100)) := by rw [eG_4]; exact rfl
  have w_14 : G_4.2.1 (g.2.2 121) = (G.2.1 (g.2.2 121)) := by rw [eG_4]; exact rfl
  have w_15 : G_4.2.1 (g.2.2 140) = (G.2.1 (g.2.2 140)) := by rw [eG_4]; exact rfl
  have w_16 : G_4.2.1 (g.2.2 141) = (G.2.1 (g.2.2 141)) := by rw [eG_4]; exact rfl
  have w_17 : G_4.2.1 (g.2.2 111) = (G.2.1 (g.2.2 111)) := by rw [eG_4]; exact rfl
  have u_18 : G_4.2.2 111 = some (g.2.2 111) := by rw [eG_4]; exact hI.r111
  have u_19 : G_4.2.2 112 = some (g.2.2 112) := by rw [eG_4]; exact hI.r112
  clear oq hz
  refine lv_aload_n hx hb dX12_peers_5 rfl (lv_at hl 0 rfl) ?_
  obtain ⟨_, ⟨rfl, t_21, hk_22⟩, o_c_20⟩ := hH h0 _ k_h0
  refine hg_get hx hb hG igX12 hown hK o_c_20 rfl 0 (by decide) (hG _ mw_1284) rfl dX12_peers_6 ?_
  refine lv_iload_n hx hb dX12_peers_9 rfl (lv_at hl 1 rfl) ?_
  refine vp_callSi (W.runS (As := [.ref (g.2.2 100), .int a0]) (rest := []) ⟨hx, hb, hml, hown, hts⟩ (c_X12_isThere l g Ty G_4 (g.2.2 100) a0 (hk_22.1)) (cwSx 2 hts hG (gwC mw_1520) mw_88 mw_1518 mw_1519 rfl rfl rfl hd_X12_isThere ⟨Nat.le_of_ble_eq_true rfl, Nat.le_of_ble_eq_true rfl⟩) ⟨PcH_blind, PcH_pre hK hH⟩ rfl rfl hl.1 rfl (lv_room (Nat.le_of_ble_eq_true rfl)) dX12_peers_10 ⟨Nat.zero_le _, Nat.zero_le _⟩) (fun x_23 hx_23 => ?_)
  have rx_23 : rgI (0) (1) x_23 := hx_23.1
  have ex_24 : x_23 = F_X12_isThere (G.2.1 (g.2.2 100)) a0 := by rw [← w_13]; exact hx_23.2.2
  refine lv_if_ne (tgt := 18) hx hb dX12_peers_13 (by decide) (fun c_25 => ?_) (fun c_25 => ?_)
  · have th_26 : thr (G.2.1 (g.2.2 100)) a0 := F_isThere_thr (by rw [← ex_24]; exact c_25)
    have r_27 : rgI (1) (1) x_23 := rg_w (rg_neL rx_23 rl_0 c_25) (by decide) (by decide)
    have r_28 : rgI (0) (23) a0 := rg_w (hx_23.2.1.resolve_left c_25) (by decide) (by decide)
    refine lv_aload_n hx hb dX12_peers_18 rfl (lv_at hl 0 rfl) ?_
    refine hg_get hx hb hG igX12 hown hK o_c_20 rfl 0 (by decide) (hG _ mw_1284) rfl dX12_peers_19 ?_
    refine lv_bipush (v := 48) hx hb dX12_peers_22 (by decide) ?_
    refine lv_iload_n hx hb dX12_peers_24 rfl (lv_at hl 1 rfl) ?_
    refine lv_iadd hx hb dX12_peers_25 ?_
    refine lv_topi (fun x_29 ex_29 => ?_)
    have rx_29 : rgI (48) (71) x_29 := by rw [ex_29]; exact rg_w (rg_add rl_48 r_28 (by decide) (by decide)) (by decide) (by decide)
    obtain ⟨_, rfl, o_c_30⟩ := hH (g.2.2 100) _ hk_22.1
    have o_c_30 : va_at g.1 vwCl ((g.2.2 100), .inl (g.2.1 1, 122, .inl (G_4.2.1 (g.2.2 100)))) H := o_c_30
    refine hg_iald hx hb hK o_c_30 (rg_in (n := 122) rx_29 (by decide) (by decide)) dX12_peers_26 ?_
    rw [w_13]
    refine lv_topi (fun x_31 ex_31 => ?_)
    refine lv_istore_n (lv' := [(2, .int x_31), (0, .ref h0), (1, .int a0)]) hx hb dX12_peers_27 rfl hl (by decide) rfl (fun ls hl => ?_)
    refine lv_iload_n hx hb dX12_peers_28 rfl (lv_at hl 0 rfl) ?_
    refine lv_if_ne (tgt := 38) hx hb dX12_peers_29 (by decide) (fun c_32 => ?_) (fun c_32 => ?_)
    · refine lv_aload_n hx hb dX12_peers_38 rfl (lv_at hl 1 rfl) ?_
      refine hg_get hx hb hG igX12 hown hK o_c_20 rfl 0 (by decide) (hG _ mw_1284) rfl dX12_peers_39 ?_
      refine lv_iload_n hx hb dX12_peers_42 rfl (lv_at hl 0 rfl) ?_
      refine vp_callSi (W.runS (As := [.ref (g.2.2 100), .int x_31]) (rest := []) ⟨hx, hb, hml, hown, hts⟩ (c_X12_inGroup l g Ty G_4 (g.2.2 100) x_31 (hk_22.1)) (cwSx 2 hts hG (gwC mw_1566) mw_88 mw_1564 mw_1565 rfl rfl rfl hd_X12_inGroup ⟨Nat.le_of_ble_eq_true rfl, Nat.le_of_ble_eq_true rfl⟩) ⟨PcH_blind, PcH_pre hK hH⟩ rfl rfl hl.1 rfl (lv_room (Nat.le_of_ble_eq_true rfl)) dX12_peers_43 ⟨Nat.zero_le _, Nat.zero_le _⟩) (fun x_33 hx_33 => ?_)
      have ex_34 : x_33 = F_X12_inGroup (G.2.1 (g.2.2 100)) x_31 := by rw [← w_13]; exact hx_33
      refine lv_istore_n (lv' := [(3, .int x_33), (2, .int x_31), (0, .ref h0), (1, .int a0)]) hx hb dX12_peers_46 rfl hl (by decide) rfl (fun ls hl => ?_)
      refine lv_aload_n hx hb dX12_peers_47 rfl (lv_at hl 2 rfl) ?_
      refine lv_iconst (v := 0) hx hb dX12_peers_48 (by decide) ?_
      refine hg_put (ty := .int) hx hb hG igX12 tyX12 tyX12_ok nmX12 hown hK hS o_c_20 (AF.of k_h0) rfl 4 (by decide) (hG _ mw_1288) rfl (by decide +kernel) rfl rfl (Nat.le_of_ble_eq_true rfl) dX12_peers_49 (fun H locs o_c_20 hz oq hS => ?_)
      obtain ⟨G_35, eG_35⟩ : ∃ z : Gh, z = gset G_4 104 0 := ⟨_, rfl⟩
      have hH : HT g Ty G_35 H := by rw [eG_35]; exact HT.putN 104 0 hH k_h0 ⟨rfl, t_21, hk_22⟩ o_c_20 oq (Or.inr (Or.inr (Or.inr (Or.inr (Or.inr ⟨by decide, t_21⟩)))))
      have fr_36 : FR [104, 105] [] [] G G_35 := FR.n fr_5 eG_35 (by decide)
      have u_37 : G_35.1 102 = (G.1 102) := by rw [eG_35]; exact (gs_ne (by decide)).trans u_6
      have u_38 : G_35.1 113 = (G.1 113) := by rw [eG_35]; exact (gs_ne (by decide)).trans u_8
      have u_39 : G_35.1 122 = (G.1 122) := by rw [eG_35]; exact (gs_ne (by decide)).trans u_9
      have u_40 : G_35.1 133 = (G.1 133) := by rw [eG_35]; exact (gs_ne (by decide)).trans u_10
      have u_41 : G_35.1 137 = (G.1 137) := by rw [eG_35]; exact (gs_ne (by decide)).trans u_11
      have u_42 : G_35.1 105 = 0 := by rw [eG_35]; exact (gs_ne (by decide)).trans u_12
      have u_43 : G_35.1 104 = 0 := by rw [eG_35]; exact gs_eq
      have w_44 : G_35.2.1 (g.2.2 100) = (G.2.1 (g.2.2 100)) := by rw [eG_35]; exact w_13
      have w_45 : G_35.2.1 (g.2.2 121) = (G.2.1 (g.2.2 121)) := by rw [eG_35]; exact w_14
      have w_46 : G_35.2.1 (g.2.2 140) = (G.2.1 (g.2.2 140)) := by rw [eG_35]; exact w_15
      have w_47 : G_35.2.1 (g.2.2 141) = (G.2.1 (g.2.2 141)) := by rw [eG_35]; exact w_16
      have w_48 : G_35.2.1 (g.2.2 111) = (G.2.1 (g.2.2 111)) := by rw [eG_35]; exact w_17
      have u_49 : G_35.2.2 111 = some (g.2.2 111) := by rw [eG_35]; exact u_18
      have u_50 : G_35.2.2 112 = some (g.2.2 112) := by rw [eG_35]; exact u_19
      clear oq hz
      refine lv_aload_n hx hb dX12_peers_52 rfl (lv_at hl 2 rfl) ?_
      refine lv_iload_n hx hb dX12_peers_53 rfl (lv_at hl 0 rfl) ?_
      refine vp_callSi (W.runS (As := [.int x_33]) (rest := [.ref h0]) ⟨hx, hb, hml, hown, hts⟩ (c_J6_bitCount_x l g Ty G_35 x_33 ) (cwSx 1 hts hG (gwC mw_620) mw_99 mw_1553 mw_619 rfl rfl rfl hd_J6_bitCount_0f7a4 ⟨Nat.le_of_ble_eq_true rfl, Nat.le_of_ble_eq_true rfl⟩) ⟨PcH_blind, PcH_pre hK hH⟩ rfl rfl hl.1 rfl (lv_room (Nat.le_of_ble_eq_true rfl)) dX12_peers_54 ⟨Nat.zero_le _, Nat.zero_le _⟩) (fun x_51 hx_51 => ?_)
      have rx_51 : rgI (0) (63) x_51 := hx_51.1
      refine lv_i2l hx hb dX12_peers_57 rfl ?_
      refine lv_topl (fun u_52 eu_52 => ?_)
      obtain ⟨_, ⟨rfl, t_54, hk_55⟩, o_c_53⟩ := hH h0 _ k_h0
      refine va_callv (va_runV (As := [.long u_52]) (rest := []) ⟨hx, hb, hml, hown, hts⟩ (c_X12_tell l g Ty G_35 H.size h0 u_52 k_h0 (by rw [u_43]; exact rg_w rl_0 (by decide) (by decide))) (cwV 1 hts (gwV mw_1510 mw_1512 mw_48 mw_88 mw_1513) rfl rfl rfl hv_X12_tell ⟨Nat.le_of_ble_eq_true rfl, Nat.le_of_ble_eq_true rfl⟩) ⟨PcT_blind, hg_recv hK o_c_53 rfl, PcT_pre hK hH⟩ rfl rfl hl.1 rfl (lv_room (Nat.le_of_ble_eq_true rfl)) dX12_peers_58 ⟨Nat.zero_le _, Nat.zero_le _⟩) hS (fun q _ h => AF.mono hS.1 h) (fun q h => AF.mono hS.1 h) (fun ux_56 t H locs ht hvm hx_56 hB hz hk hS => ?_)
      obtain ⟨eTx_56, eGx_56⟩ := hx_56
      obtain ⟨G_57, eG_57⟩ : ∃ z, z = ux_56.2 := ⟨_, rfl⟩
      rw [← eG_57] at eGx_56
      obtain ⟨x_58, ex_58⟩ : ∃ z : Int32, z = 0 + 1 := ⟨_, rfl⟩
      have e_59 : G_57 = gset G_35 104 x_58 := by rw [ex_58, ← u_43]; exact eGx_56
      have rx_58 : rgI (1) (1) x_58 := by rw [ex_58]; exact rg_w (rg_add rl_0 rl_1 (by decide) (by decide)) (by decide) (by decide)
      have fr_60 : FR [104, 105] [] [] G G_57 := FR.n fr_36 e_59 (by decide)
      have u_61 : G_57.1 102 = (G.1 102) := by rw [e_59]; exact (gs_ne (by decide)).trans u_37
      have u_62 : G_57.1 113 = (G.1 113) := by rw [e_59]; exact (gs_ne (by decide)).trans u_38
      have u_63 : G_57.1 122 = (G.1 122) := by rw [e_59]; exact (gs_ne (by decide)).trans u_39
      have u_64 : G_57.1 133 = (G.1 133) := by rw [e_59]; exact (gs_ne (by decide)).trans u_40
      have u_65 : G_57.1 137 = (G.1 137) := by rw [e_59]; exact (gs_ne (by decide)).trans u_41
      have u_66 : G_57.1 105 = 0 := by rw [e_59]; exact (gs_ne (by decide)).trans u_42
      have u_67 : G_57.1 104 = x_58 := by rw [e_59]; exact gs_eq
      have w_68 : G_57.2.1 (g.2.2 100) = (G.2.1 (g.2.2 100)) := by rw [e_59]; exact w_44
      have w_69 : G_57.2.1 (g.2.2 121) = (G.2.1 (g.2.2 121)) := by rw [e_59]; exact w_45
      have w_70 : G_57.2.1 (g.2.2 140) = (G.2.1 (g.2.2 140)) := by rw [e_59]; exact w_46
      have w_71 : G_57.2.1 (g.2.2 141) = (G.2.1 (g.2.2 141)) := by rw [e_59]; exact w_47
      have w_72 : G_57.2.1 (g.2.2 111) = (G.2.1 (g.2.2 111)) := by rw [e_59]; exact w_48
      have u_73 : G_57.2.2 111 = some (g.2.2 111) := by rw [e_59]; exact u_49
      have u_74 : G_57.2.2 112 = some (g.2.2 112) := by rw [e_59]; exact u_50
      have hH : HT g Ty G_57 H := by rw [← ht, ← eTx_56, eG_57]; exact hB
      refine lv_aload_n hx hb dX12_peers_61 rfl (lv_at hl 2 rfl) ?_
      refine lv_iload_n hx hb dX12_peers_62 rfl (lv_at hl 1 rfl) ?_
      refine lv_if_ne (tgt := 70) hx hb dX12_peers_63 (by decide) (fun c_75 => ?_) (fun c_75 => ?_)
      · refine lv_aload_n hx hb dX12_peers_70 rfl (lv_at hl 2 rfl) ?_
        obtain ⟨_, ⟨rfl, t_77, hk_78⟩, o_c_76⟩ := hH h0 _ k_h0
        refine hg_get hx hb hG igX12 hown hK o_c_76 rfl 0 (by decide) (hG _ mw_1284) rfl dX12_peers_71 ?_
        refine lv_iload_n hx hb dX12_peers_74 rfl (lv_at hl 1 rfl) ?_
        refine vp_callSi (W.runS (As := [.ref (g.2.2 100), .int x_31]) (rest := [.ref h0]) ⟨hx, hb, hml, hown, hts⟩ (c_X12_slavesOf l g Ty G_57 (g.2.2 100) x_31 (hk_78.1)) (cwSx 2 hts hG (gwC mw_1569) mw_88 mw_1567 mw_1568 rfl rfl rfl hd_X12_slavesOf ⟨Nat.le_of_ble_eq_true rfl, Nat.le_of_ble_eq_true rfl⟩) ⟨PcH_blind, PcH_pre hK hH⟩ rfl rfl hl.1 rfl (lv_room (Nat.le_of_ble_eq_true rfl)) dX12_peers_75 ⟨Nat.zero_le _, Nat.zero_le _⟩) (fun x_79 hx_79 => ?_)
        have ex_80 : x_79 = F_X12_slavesOf (G.2.1 (g.2.2 100)) x_31 := by rw [← w_68]; exact hx_79
        refine lv_i2l hx hb dX12_peers_78 rfl ?_
        refine lv_topl (fun u_81 eu_81 => ?_)
        refine va_callv (va_runV (As := [.long u_81]) (rest := []) ⟨hx, hb, hml, hown, hts⟩ (c_X12_tell l g Ty G_57 H.size h0 u_81 k_h0 (by rw [u_67]; exact rg_w rx_58 (by decide) (by decide))) (cwV 1 hts (gwV mw_1510 mw_1512 mw_48 mw_88 mw_1513) rfl rfl rfl hv_X12_tell ⟨Nat.le_of_ble_eq_true rfl, Nat.le_of_ble_eq_true rfl⟩) ⟨PcT_blind, hg_recv hK o_c_76 rfl, PcT_pre hK hH⟩ rfl rfl hl.1 rfl (lv_room (Nat.le_of_ble_eq_true rfl)) dX12_peers_79 ⟨Nat.zero_le _, Nat.zero_le _⟩) hS (fun q _ h => AF.mono hS.1 h) (fun q h => AF.mono hS.1 h) (fun ux_82 t H locs ht hvm hx_82 hB hz hk hS => ?_)
        obtain ⟨eTx_82, eGx_82⟩ := hx_82
        obtain ⟨G_83, eG_83⟩ : ∃ z, z = ux_82.2 := ⟨_, rfl⟩
        rw [← eG_83] at eGx_82
        obtain ⟨x_84, ex_84⟩ : ∃ z : Int32, z = x_58 + 1 := ⟨_, rfl⟩
        have e_85 : G_83 = gset G_57 104 x_84 := by rw [ex_84, ← u_67]; exact eGx_82
        have rx_84 : rgI (2) (2) x_84 := by rw [ex_84]; exact rg_w (rg_add rx_58 rl_1 (by decide) (by decide)) (by decide) (by decide)
        have fr_86 : FR [104, 105] [] [] G G_83 := FR.n fr_60 e_85 (by decide)
        have u_87 : G_83.1 102 = (G.1 102) := by rw [e_85]; exact (gs_ne (by decide)).trans u_61
        have u_88 : G_83.1 113 = (G.1 113) := by rw [e_85]; exact (gs_ne (by decide)).trans u_62
        have u_89 : G_83.1 122 = (G.1 122) := by rw [e_85]; exact (gs_ne (by decide)).trans u_63
        have u_90 : G_83.1 133 = (G.1 133) := by rw [e_85]; exact (gs_ne (by decide)).trans u_64
        have u_91 : G_83.1 137 = (G.1 137) := by rw [e_85]; exact (gs_ne (by decide)).trans u_65
        have u_92 : G_83.1 105 = 0 := by rw [e_85]; exact (gs_ne (by decide)).trans u_66
        have u_93 : G_83.1 104 = x_84 := by rw [e_85]; exact gs_eq
        have w_94 : G_83.2.1 (g.2.2 100) = (G.2.1 (g.2.2 100)) := by rw [e_85]; exact w_68
        have w_95 : G_83.2.1 (g.2.2 121) = (G.2.1 (g.2.2 121)) := by rw [e_85]; exact w_69
        have w_96 : G_83.2.1 (g.2.2 140) = (G.2.1 (g.2.2 140)) := by rw [e_85]; exact w_70
        have w_97 : G_83.2.1 (g.2.2 141) = (G.2.1 (g.2.2 141)) := by rw [e_85]; exact w_71
        have w_98 : G_83.2.1 (g.2.2 111) = (G.2.1 (g.2.2 111)) := by rw [e_85]; exact w_72
        have u_99 : G_83.2.2 111 = some (g.2.2 111) := by rw [e_85]; exact u_73
        have u_100 : G_83.2.2 112 = some (g.2.2 112) := by rw [e_85]; exact u_74
        have hH : HT g Ty G_83 H := by rw [← ht, ← eTx_82, eG_83]; exact hB
        refine lv_iload_n hx hb dX12_peers_82 rfl (lv_at hl 0 rfl) ?_
        exact W.iret hx hb hr (fun t ht hWm => ⟨⟨x_33, (Ty, G_83), rfl, ⟨rfl, ⟨fr_86, ⟨(by rw [u_87]; exact (rg_w hI.a102 (by decide) (by decide))), (by rw [u_93]; exact (rg_w rx_84 (by decide) (by decide))), (by rw [u_88]; exact (rg_w hI.a113 (by decide) (by decide))), (by rw [u_89]; exact (rg_w hI.a122 (by decide) (by decide))), (by rw [u_90]; exact (rg_w hI.a133 (by decide) (by decide))), (by rw [u_91]; exact (rg_w hI.a137 (by decide) (by decide))), u_99, u_100, (by rw [w_94]; exact (hI.ti.hi (show Bd ≤ Bd + 1000 by omega))), (hI.un2 (show Bd ≤ Bd + 1000 by omega) w_95 u_89), (hI.ke2 (show Bd ≤ Bd + 1000 by omega) w_96 w_97)⟩⟩⟩, by show HT g Ty G_83 t.heap; rw [ht]; exact hH⟩, hS.F ht⟩) hS.2.2 dX12_peers_83
      · have r_101 : rgI (0) (0) x_31 := rg_w (rg_eq rl_0 c_75) (by decide) (by decide)
        refine lv_lconst (v := 0) hx hb dX12_peers_66 (by decide) ?_
        refine lv_goto (tgt := 79) hx hb dX12_peers_67 (by decide) ?_
        obtain ⟨_, ⟨rfl, t_103, hk_104⟩, o_c_102⟩ := hH h0 _ k_h0
        refine va_callv (va_runV (As := [.long 0]) (rest := []) ⟨hx, hb, hml, hown, hts⟩ (c_X12_tell l g Ty G_57 H.size h0 0 k_h0 (by rw [u_67]; exact rg_w rx_58 (by decide) (by decide))) (cwV 1 hts (gwV mw_1510 mw_1512 mw_48 mw_88 mw_1513) rfl rfl rfl hv_X12_tell ⟨Nat.le_of_ble_eq_true rfl, Nat.le_of_ble_eq_true rfl⟩) ⟨PcT_blind, hg_recv hK o_c_102 rfl, PcT_pre hK hH⟩ rfl rfl hl.1 rfl (lv_room (Nat.le_of_ble_eq_true rfl)) dX12_peers_79 ⟨Nat.zero_le _, Nat.zero_le _⟩) hS (fun q _ h => AF.mono hS.1 h) (fun q h => AF.mono hS.1 h) (fun ux_105 t H locs ht hvm hx_105 hB hz hk hS => ?_)
        obtain ⟨eTx_105, eGx_105⟩ := hx_105
        obtain ⟨G_106, eG_106⟩ : ∃ z, z = ux_105.2 := ⟨_, rfl⟩
        rw [← eG_106] at eGx_105
        obtain ⟨x_107, ex_107⟩ : ∃ z : Int32, z = x_58 + 1 := ⟨_, rfl⟩
        have e_108 : G_106 = gset G_57 104 x_107 := by rw [ex_107, ← u_67]; exact eGx_105
        have rx_107 : rgI (2) (2) x_107 := by rw [ex_107]; exact rg_w (rg_add rx_58 rl_1 (by decide) (by decide)) (by decide) (by decide)
        have fr_109 : FR [104, 105] [] [] G G_106 := FR.n fr_60 e_108 (by decide)
        have u_110 : G_106.1 102 = (G.1 102) := by rw [e_108]; exact (gs_ne (by decide)).trans u_61
        have u_111 : G_106.1 113 = (G.1 113) := by rw [e_108]; exact (gs_ne (by decide)).trans u_62
        have u_112 : G_106.1 122 = (G.1 122) := by rw [e_108]; exact (gs_ne (by decide)).trans u_63
        have u_113 : G_106.1 133 = (G.1 133) := by rw [e_108]; exact (gs_ne (by decide)).trans u_64
        have u_114 : G_106.1 137 = (G.1 137) := by rw [e_108]; exact (gs_ne (by decide)).trans u_65
        have u_115 : G_106.1 105 = 0 := by rw [e_108]; exact (gs_ne (by decide)).trans u_66
        have u_116 : G_106.1 104 = x_107 := by rw [e_108]; exact gs_eq
        have w_117 : G_106.2.1 (g.2.2 100) = (G.2.1 (g.2.2 100)) := by rw [e_108]; exact w_68
        have w_118 : G_106.2.1 (g.2.2 121) = (G.2.1 (g.2.2 121)) := by rw [e_108]; exact w_69
        have w_119 : G_106.2.1 (g.2.2 140) = (G.2.1 (g.2.2 140)) := by rw [e_108]; exact w_70
        have w_120 : G_106.2.1 (g.2.2 141) = (G.2.1 (g.2.2 141)) := by rw [e_108]; exact w_71
        have w_121 : G_106.2.1 (g.2.2 111) = (G.2.1 (g.2.2 111)) := by rw [e_108]; exact w_72
        have u_122 : G_106.2.2 111 = some (g.2.2 111) := by rw [e_108]; exact u_73
        have u_123 : G_106.2.2 112 = some (g.2.2 112) := by rw [e_108]; exact u_74
        have hH : HT g Ty G_106 H := by rw [← ht, ← eTx_105, eG_106]; exact hB
        refine lv_iload_n hx hb dX12_peers_82 rfl (lv_at hl 0 rfl) ?_
        exact W.iret hx hb hr (fun t ht hWm => ⟨⟨x_33, (Ty, G_106), rfl, ⟨rfl, ⟨fr_109, ⟨(by rw [u_110]; exact (rg_w hI.a102 (by decide) (by decide))), (by rw [u_116]; exact (rg_w rx_107 (by decide) (by decide))), (by rw [u_111]; exact (rg_w hI.a113 (by decide) (by decide))), (by rw [u_112]; exact (rg_w hI.a122 (by decide) (by decide))), (by rw [u_113]; exact (rg_w hI.a133 (by decide) (by decide))), (by rw [u_114]; exact (rg_w hI.a137 (by decide) (by decide))), u_122, u_123, (by rw [w_117]; exact (hI.ti.hi (show Bd ≤ Bd + 1000 by omega))), (hI.un2 (show Bd ≤ Bd + 1000 by omega) w_118 u_112), (hI.ke2 (show Bd ≤ Bd + 1000 by omega) w_119 w_120)⟩⟩⟩, by show HT g Ty G_106 t.heap; rw [ht]; exact hH⟩, hS.F ht⟩) hS.2.2 dX12_peers_83
    · have r_124 : rgI (0) (0) x_31 := rg_w (rg_eq rl_0 c_32) (by decide) (by decide)
      refine lv_iconst (v := 1) hx hb dX12_peers_32 (by decide) ?_
      refine lv_iload_n hx hb dX12_peers_33 rfl (lv_at hl 2 rfl) ?_
      refine lv_ishl hx hb dX12_peers_34 ?_
      refine lv_topi (fun x_125 ex_125 => ?_)
      refine lv_goto (tgt := 46) hx hb dX12_peers_35 (by decide) ?_
      refine lv_istore_n (lv' := [(3, .int x_125), (2, .int x_31), (0, .ref h0), (1, .int a0)]) hx hb dX12_peers_46 rfl hl (by decide) rfl (fun ls hl => ?_)
      refine lv_aload_n hx hb dX12_peers_47 rfl (lv_at hl 2 rfl) ?_
      refine lv_iconst (v := 0) hx hb dX12_peers_48 (by decide) ?_
      refine hg_put (ty := .int) hx hb hG igX12 tyX12 tyX12_ok nmX12 hown hK hS o_c_20 (AF.of k_h0) rfl 4 (by decide) (hG _ mw_1288) rfl (by decide +kernel) rfl rfl (Nat.le_of_ble_eq_true rfl) dX12_peers_49 (fun H locs o_c_20 hz oq hS => ?_)
      obtain ⟨G_126, eG_126⟩ : ∃ z : Gh, z = gset G_4 104 0 := ⟨_, rfl⟩
      have hH : HT g Ty G_126 H := by rw [eG_126]; exact HT.putN 104 0 hH k_h0 ⟨rfl, t_21, hk_22⟩ o_c_20 oq (Or.inr (Or.inr (Or.inr (Or.inr (Or.inr ⟨by decide, t_21⟩)))))
      have fr_127 : FR [104, 105] [] [] G G_126 := FR.n fr_5 eG_126 (by decide)
      have u_128 : G_126.1 102 = (G.1 102) := by rw [eG_126]; exact (gs_ne (by decide)).trans u_6
      have u_129 : G_126.1 113 = (G.1 113) := by rw [eG_126]; exact (gs_ne (by decide)).trans u_8
      have u_130 : G_126.1 122 = (G.1 122) := by rw [eG_126]; exact (gs_ne (by decide)).trans u_9
      have u_131 : G_126.1 133 = (G.1 133) := by rw [eG_126]; exact (gs_ne (by decide)).trans u_10
      have u_132 : G_126.1 137 = (G.1 137) := by rw [eG_126]; exact (gs_ne (by decide)).trans u_11
      have u_133 : G_126.1 105 = 0 := by rw [eG_126]; exact (gs_ne (by decide)).trans u_12
      have u_134 : G_126.1 104 = 0 := by rw [eG_126]; exact gs_eq
      have w_135 : G_126.2.1 (g.2.2 100) = (G.2.1 (g.2.2 100)) := by rw [eG_126]; exact w_13
      have w_136 : G_126.2.1 (g.2.2 121) = (G.2.1 (g.2.2 121)) := by rw [eG_126]; exact w_14
      have w_137 : G_126.2.1 (g.2.2 140) = (G.2.1 (g.2.2 140)) := by rw [eG_126]; exact w_15
      have w_138 : G_126.2.1 (g.2.2 141) = (G.2.1 (g.2.2 141)) := by rw [eG_126]; exact w_16
      have w_139 : G_126.2.1 (g.2.2 111) = (G.2.1 (g.2.2 111)) := by rw [eG_126]; exact w_17
      have u_140 : G_126.2.2 111 = some (g.2.2 111) := by rw [eG_126]; exact u_18
      have u_141 : G_126.2.2 112 = some (g.2.2 112) := by rw [eG_126]; exact u_19
      clear oq hz
      refine lv_aload_n hx hb dX12_peers_52 rfl (lv_at hl 2 rfl) ?_
      refine lv_iload_n hx hb dX12_peers_53 rfl (lv_at hl 0 rfl) ?_
      refine vp_callSi (W.runS (As := [.int x_125]) (rest := [.ref h0]) ⟨hx, hb, hml, hown, hts⟩ (c_J6_bitCount_x l g Ty G_126 x_125 ) (cwSx 1 hts hG (gwC mw_620) mw_99 mw_1553 mw_619 rfl rfl rfl hd_J6_bitCount_0f7a4 ⟨Nat.le_of_ble_eq_true rfl, Nat.le_of_ble_eq_true rfl⟩) ⟨PcH_blind, PcH_pre hK hH⟩ rfl rfl hl.1 rfl (lv_room (Nat.le_of_ble_eq_true rfl)) dX12_peers_54 ⟨Nat.zero_le _, Nat.zero_le _⟩) (fun x_142 hx_142 => ?_)
      have rx_142 : rgI (0) (63) x_142 := hx_142.1
      refine lv_i2l hx hb dX12_peers_57 rfl ?_
      refine lv_topl (fun u_143 eu_143 => ?_)
      obtain ⟨_, ⟨rfl, t_145, hk_146⟩, o_c_144⟩ := hH h0 _ k_h0
      refine va_callv (va_runV (As := [.long u_143]) (rest := []) ⟨hx, hb, hml, hown, hts⟩ (c_X12_tell l g Ty G_126 H.size h0 u_143 k_h0 (by rw [u_134]; exact rg_w rl_0 (by decide) (by decide))) (cwV 1 hts (gwV mw_1510 mw_1512 mw_48 mw_88 mw_1513) rfl rfl rfl hv_X12_tell ⟨Nat.le_of_ble_eq_true rfl, Nat.le_of_ble_eq_true rfl⟩) ⟨PcT_blind, hg_recv hK o_c_144 rfl, PcT_pre hK hH⟩ rfl rfl hl.1 rfl (lv_room (Nat.le_of_ble_eq_true rfl)) dX12_peers_58 ⟨Nat.zero_le _, Nat.zero_le _⟩) hS (fun q _ h => AF.mono hS.1 h) (fun q h => AF.mono hS.1 h) (fun ux_147 t H locs ht hvm hx_147 hB hz hk hS => ?_)
      obtain ⟨eTx_147, eGx_147⟩ := hx_147
      obtain ⟨G_148, eG_148⟩ : ∃ z, z = ux_147.2 := ⟨_, rfl⟩
      rw [← eG_148] at eGx_147
      obtain ⟨x_149, ex_149⟩ : ∃ z : Int32, z = 0 + 1 := ⟨_, rfl⟩
      have e_150 : G_148 = gset G_126 104 x_149 := by rw [ex_149, ← u_134]; exact eGx_147
      have rx_149 : rgI (1) (1) x_149 := by rw [ex_149]; exact rg_w (rg_add rl_0 rl_1 (by decide) (by decide)) (by decide) (by decide)
      have fr_151 : FR [104, 105] [] [] G G_148 := FR.n fr_127 e_150 (by decide)
      have u_152 : G_148.1 102 = (G.1 102) := by rw [e_150]; exact (gs_ne (by decide)).trans u_128
      have u_153 : G_148.1 113 = (G.1 113) := by rw [e_150]; exact (gs_ne (by decide)).trans u_129
      have u_154 : G_148.1 122 = (G.1 122) := by rw [e_150]; exact (gs_ne (by decide)).trans u_130
      have u_155 : G_148.1 133 = (G.1 133) := by rw [e_150]; exact (gs_ne (by decide)).trans u_131
      have u_156 : G_148.1 137 = (G.1 137) := by rw [e_150]; exact (gs_ne (by decide)).trans u_132
      have u_157 : G_148.1 105 = 0 := by rw [e_150]; exact (gs_ne (by decide)).trans u_133
      have u_158 : G_148.1 104 = x_149 := by rw [e_150]; exact gs_eq
      have w_159 : G_148.2.1 (g.2.2 100) = (G.2.1 (g.2.2 100)) := by rw [e_150]; exact w_135
      have w_160 : G_148.2.1 (g.2.2 121) = (G.2.1 (g.2.2 121)) := by rw [e_150]; exact w_136
      have w_161 : G_148.2.1 (g.2.2 140) = (G.2.1 (g.2.2 140)) := by rw [e_150]; exact w_137
      have w_162 : G_148.2.1 (g.2.2 141) = (G.2.1 (g.2.2 141)) := by rw [e_150]; exact w_138
      have w_163 : G_148.2.1 (g.2.2 111) = (G.2.1 (g.2.2 111)) := by rw [e_150]; exact w_139
      have u_164 : G_148.2.2 111 = some (g.2.2 111) := by rw [e_150]; exact u_140
      have u_165 : G_148.2.2 112 = some (g.2.2 112) := by rw [e_150]; exact u_141
      have hH : HT g Ty G_148 H := by rw [← ht, ← eTx_147, eG_148]; exact hB
      refine lv_aload_n hx hb dX12_peers_61 rfl (lv_at hl 2 rfl) ?_
      refine lv_iload_n hx hb dX12_peers_62 rfl (lv_at hl 1 rfl) ?_
      refine lv_if_ne (tgt := 70) hx hb dX12_peers_63 (by decide) (fun c_166 => ?_) (fun c_166 => ?_)
      · exact rg_clash (rg_neL r_124 rl_0 c_166) (r_124) (by decide)
      · refine lv_lconst (v := 0) hx hb dX12_peers_66 (by decide) ?_
        refine lv_goto (tgt := 79) hx hb dX12_peers_67 (by decide) ?_
        obtain ⟨_, ⟨rfl, t_168, hk_169⟩, o_c_167⟩ := hH h0 _ k_h0
        refine va_callv (va_runV (As := [.long 0]) (rest := []) ⟨hx, hb, hml, hown, hts⟩ (c_X12_tell l g Ty G_148 H.size h0 0 k_h0 (by rw [u_158]; exact rg_w rx_149 (by decide) (by decide))) (cwV 1 hts (gwV mw_1510 mw_1512 mw_48 mw_88 mw_1513) rfl rfl rfl hv_X12_tell ⟨Nat.le_of_ble_eq_true rfl, Nat.le_of_ble_eq_true rfl⟩) ⟨PcT_blind, hg_recv hK o_c_167 rfl, PcT_pre hK hH⟩ rfl rfl hl.1 rfl (lv_room (Nat.le_of_ble_eq_true rfl)) dX12_peers_79 ⟨Nat.zero_le _, Nat.zero_le _⟩) hS (fun q _ h => AF.mono hS.1 h) (fun q h => AF.mono hS.1 h) (fun ux_170 t H locs ht hvm hx_170 hB hz hk hS => ?_)
        obtain ⟨eTx_170, eGx_170⟩ := hx_170
        obtain ⟨G_171, eG_171⟩ : ∃ z, z = ux_170.2 := ⟨_, rfl⟩
        rw [← eG_171] at eGx_170
        obtain ⟨x_172, ex_172⟩ : ∃ z : Int32, z = x_149 + 1 := ⟨_, rfl⟩
        have e_173 : G_171 = gset G_148 104 x_172 := by rw [ex_172, ← u_158]; exact eGx_170
        have rx_172 : rgI (2) (2) x_172 := by rw [ex_172]; exact rg_w (rg_add rx_149 rl_1 (by decide) (by decide)) (by decide) (by decide)
        have fr_174 : FR [104, 105] [] [] G G_171 := FR.n fr_151 e_173 (by decide)
        have u_175 : G_171.1 102 = (G.1 102) := by rw [e_173]; exact (gs_ne (by decide)).trans u_152
        have u_176 : G_171.1 113 = (G.1 113) := by rw [e_173]; exact (gs_ne (by decide)).trans u_153
        have u_177 : G_171.1 122 = (G.1 122) := by rw [e_173]; exact (gs_ne (by decide)).trans u_154
        have u_178 : G_171.1 133 = (G.1 133) := by rw [e_173]; exact (gs_ne (by decide)).trans u_155
        have u_179 : G_171.1 137 = (G.1 137) := by rw [e_173]; exact (gs_ne (by decide)).trans u_156
        have u_180 : G_171.1 105 = 0 := by rw [e_173]; exact (gs_ne (by decide)).trans u_157
        have u_181 : G_171.1 104 = x_172 := by rw [e_173]; exact gs_eq
        have w_182 : G_171.2.1 (g.2.2 100) = (G.2.1 (g.2.2 100)) := by rw [e_173]; exact w_159
        have w_183 : G_171.2.1 (g.2.2 121) = (G.2.1 (g.2.2 121)) := by rw [e_173]; exact w_160
        have w_184 : G_171.2.1 (g.2.2 140) = (G.2.1 (g.2.2 140)) := by rw [e_173]; exact w_161
        have w_185 : G_171.2.1 (g.2.2 141) = (G.2.1 (g.2.2 141)) := by rw [e_173]; exact w_162
        have w_186 : G_171.2.1 (g.2.2 111) = (G.2.1 (g.2.2 111)) := by rw [e_173]; exact w_163
        have u_187 : G_171.2.2 111 = some (g.2.2 111) := by rw [e_173]; exact u_164
        have u_188 : G_171.2.2 112 = some (g.2.2 112) := by rw [e_173]; exact u_165
        have hH : HT g Ty G_171 H := by rw [← ht, ← eTx_170, eG_171]; exact hB
        refine lv_iload_n hx hb dX12_peers_82 rfl (lv_at hl 0 rfl) ?_
        exact W.iret hx hb hr (fun t ht hWm => ⟨⟨x_125, (Ty, G_171), rfl, ⟨rfl, ⟨fr_174, ⟨(by rw [u_175]; exact (rg_w hI.a102 (by decide) (by decide))), (by rw [u_181]; exact (rg_w rx_172 (by decide) (by decide))), (by rw [u_176]; exact (rg_w hI.a113 (by decide) (by decide))), (by rw [u_177]; exact (rg_w hI.a122 (by decide) (by decide))), (by rw [u_178]; exact (rg_w hI.a133 (by decide) (by decide))), (by rw [u_179]; exact (rg_w hI.a137 (by decide) (by decide))), u_187, u_188, (by rw [w_182]; exact (hI.ti.hi (show Bd ≤ Bd + 1000 by omega))), (hI.un2 (show Bd ≤ Bd + 1000 by omega) w_183 u_177), (hI.ke2 (show Bd ≤ Bd + 1000 by omega) w_184 w_185)⟩⟩⟩, by show HT g Ty G_171 t.heap; rw [ht]; exact hH⟩, hS.F ht⟩) hS.2.2 dX12_peers_83
  · have r_189 : rgI (0) (0) x_23 := rg_w (rg_eq rl_0 c_25) (by decide) (by decide)
    refine lv_iconst (v := (-1)) hx hb dX12_peers_16 (by decide) ?_
    exact W.iret hx hb hr (fun t ht hWm => ⟨⟨(-1), (Ty, G_4), rfl, ⟨rfl, ⟨fr_5, ⟨(by rw [u_6]; exact (rg_w hI.a102 (by decide) (by decide))), (by rw [u_7]; exact (rg_w hI.a104 (by decide) (by decide))), (by rw [u_8]; exact (rg_w hI.a113 (by decide) (by decide))), (by rw [u_9]; exact (rg_w hI.a122 (by decide) (by decide))), (by rw [u_10]; exact (rg_w hI.a133 (by decide) (by decide))), (by rw [u_11]; exact (rg_w hI.a137 (by decide) (by decide))), u_18, u_19, (by rw [w_13]; exact (hI.ti.hi (show Bd ≤ Bd + 1000 by omega))), (hI.un2 (show Bd ≤ Bd + 1000 by omega) w_14 u_9), (hI.ke2 (show Bd ≤ Bd + 1000 by omega) w_15 w_16)⟩⟩⟩, by show HT g Ty G_4 t.heap; rw [ht]; exact hH⟩, hS.F ht⟩) hS.2.2 dX12_peers_17

def F_J6_numberOfTrailingZeros_0f7a4 (a0 : Int32) : Int32 := (if (0 : Int32) < ((a0 ^^^ (-1 : Int32)) &&& (a0 - (1 : Int32))) then (if ((a0 ^^^ (-1 : Int32)) &&& (a0 - (1 : Int32))) ≤ (65536 : Int32) then (if ((a0 ^^^ (-1 : Int32)) &&& (a0 - (1 : Int32))) ≤ (256 : Int32) then (if ((a0 ^^^ (-1 : Int32)) &&& (a0 - (1 : Int32))) ≤ (16 : Int32) then (if ((a0 ^^^ (-1 : Int32)) &&& (a0 - (1 : Int32))) ≤ (4 : Int32) then ((1 : Int32) + ((Int32.toUInt32 ((a0 ^^^ (-1 : Int32)) &&& (a0 - (1 : Int32))) >>> (Int32.toUInt32 (1 : Int32) &&& Int32.toUInt32 31)).toInt32)) else (((1 : Int32) + (2 : Int32)) + ((Int32.toUInt32 ((Int32.toUInt32 ((a0 ^^^ (-1 : Int32)) &&& (a0 - (1 : Int32))) >>> (Int32.toUInt32 (2 : Int32) &&& Int32.toUInt32 31)).toInt32) >>> (Int32.toUInt32 (1 : Int32) &&& Int32.toUInt32 31)).toInt32))) else (if ((Int32.toUInt32 ((a0 ^^^ (-1 : Int32)) &&& (a0 - (1 : Int32))) >>> (Int32.toUInt32 (4 : Int32) &&& Int32.toUInt32 31)).toInt32) ≤ (4 : Int32) then (((1 : Int32) + (4 : Int32)) + ((Int32.toUInt32 ((Int32.toUInt32 ((a0 ^^^ (-1 : Int32)) &&& (a0 - (1 : Int32))) >>> (Int32.toUInt32 (4 : Int32) &&& Int32.toUInt32 31)).toInt32) >>> (Int32.toUInt32 (1 : Int32) &&& Int32.toUInt32 31)).toInt32)) else ((((1 : Int32) + (4 : Int32)) + (2 : Int32)) + ((Int32.toUInt32 ((Int32.toUInt32 ((Int32.toUInt32 ((a0 ^^^ (-1 : Int32)) &&& (a0 - (1 : Int32))) >>> (Int32.toUInt32 (4 : Int32) &&& Int32.toUInt32 31)).toInt32) >>> (Int32.toUInt32 (2 : Int32) &&& Int32.toUInt32 31)).toInt32) >>> (Int32.toUInt32 (1 : Int32) &&& Int32.toUInt32 31)).toInt32)))) else (if ((Int32.toUInt32 ((a0 ^^^ (-1 : Int32)) &&& (a0 - (1 : Int32))) >>> (Int32.toUInt32 (8 : Int32) &&& Int32.toUInt32 31)).toInt32) ≤ (16 : Int32) then (if ((Int32.toUInt32 ((a0 ^^^ (-1 : Int32)) &&& (a0 - (1 : Int32))) >>> (Int32.toUInt32 (8 : Int32) &&& Int32.toUInt32 31)).toInt32) ≤ (4 : Int32) then (((1 : Int32) + (8 : Int32)) + ((Int32.toUInt32 ((Int32.toUInt32 ((a0 ^^^ (-1 : Int32)) &&& (a0 - (1 : Int32))) >>> (Int32.toUInt32 (8 : Int32) &&& Int32.toUInt32 31)).toInt32) >>> (Int32.toUInt32 (1 : Int32) &&& Int32.toUInt32 31)).toInt32)) else ((((1 : Int32) + (8 : Int32)) + (2 : Int32)) + ((Int32.toUInt32 ((Int32.toUInt32 ((Int32.toUInt32 ((a0 ^^^ (-1 : Int32)) &&& (a0 - (1 : Int32))) >>> (Int32.toUInt32 (8 : Int32) &&& Int32.toUInt32 31)).toInt32) >>> (Int32.toUInt32 (2 : Int32) &&& Int32.toUInt32 31)).toInt32) >>> (Int32.toUInt32 (1 : Int32) &&& Int32.toUInt32 31)).toInt32))) else (if ((Int32.toUInt32 ((Int32.toUInt32 ((a0 ^^^ (-1 : Int32)) &&& (a0 - (1 : Int32))) >>> (Int32.toUInt32 (8 : Int32) &&& Int32.toUInt32 31)).toInt32) >>> (Int32.toUInt32 (4 : Int32) &&& Int32.toUInt32 31)).toInt32) ≤ (4 : Int32) then ((((1 : Int32) + (8 : Int32)) + (4 : Int32)) + ((Int32.toUInt32 ((Int32.toUInt32 ((Int32.toUInt32 ((a0 ^^^ (-1 : Int32)) &&& (a0 - (1 : Int32))) >>> (Int32.toUInt32 (8 : Int32) &&& Int32.toUInt32 31)).toInt32) >>> (Int32.toUInt32 (4 : Int32) &&& Int32.toUInt32 31)).toInt32) >>> (Int32.toUInt32 (1 : Int32) &&& Int32.toUInt32 31)).toInt32)) else (((((1 : Int32) + (8 : Int32)) + (4 : Int32)) + (2 : Int32)) + ((Int32.toUInt32 ((Int32.toUInt32 ((Int32.toUInt32 ((Int32.toUInt32 ((a0 ^^^ (-1 : Int32)) &&& (a0 - (1 : Int32))) >>> (Int32.toUInt32 (8 : Int32) &&& Int32.toUInt32 31)).toInt32) >>> (Int32.toUInt32 (4 : Int32) &&& Int32.toUInt32 31)).toInt32) >>> (Int32.toUInt32 (2 : Int32) &&& Int32.toUInt32 31)).toInt32) >>> (Int32.toUInt32 (1 : Int32) &&& Int32.toUInt32 31)).toInt32))))) else (if ((Int32.toUInt32 ((a0 ^^^ (-1 : Int32)) &&& (a0 - (1 : Int32))) >>> (Int32.toUInt32 (16 : Int32) &&& Int32.toUInt32 31)).toInt32) ≤ (256 : Int32) then (if ((Int32.toUInt32 ((a0 ^^^ (-1 : Int32)) &&& (a0 - (1 : Int32))) >>> (Int32.toUInt32 (16 : Int32) &&& Int32.toUInt32 31)).toInt32) ≤ (16 : Int32) then (if ((Int32.toUInt32 ((a0 ^^^ (-1 : Int32)) &&& (a0 - (1 : Int32))) >>> (Int32.toUInt32 (16 : Int32) &&& Int32.toUInt32 31)).toInt32) ≤ (4 : Int32) then (((1 : Int32) + (16 : Int32)) + ((Int32.toUInt32 ((Int32.toUInt32 ((a0 ^^^ (-1 : Int32)) &&& (a0 - (1 : Int32))) >>> (Int32.toUInt32 (16 : Int32) &&& Int32.toUInt32 31)).toInt32) >>> (Int32.toUInt32 (1 : Int32) &&& Int32.toUInt32 31)).toInt32)) else ((((1 : Int32) + (16 : Int32)) + (2 : Int32)) + ((Int32.toUInt32 ((Int32.toUInt32 ((Int32.toUInt32 ((a0 ^^^ (-1 : Int32)) &&& (a0 - (1 : Int32))) >>> (Int32.toUInt32 (16 : Int32) &&& Int32.toUInt32 31)).toInt32) >>> (Int32.toUInt32 (2 : Int32) &&& Int32.toUInt32 31)).toInt32) >>> (Int32.toUInt32 (1 : Int32) &&& Int32.toUInt32 31)).toInt32))) else (if ((Int32.toUInt32 ((Int32.toUInt32 ((a0 ^^^ (-1 : Int32)) &&& (a0 - (1 : Int32))) >>> (Int32.toUInt32 (16 : Int32) &&& Int32.toUInt32 31)).toInt32) >>> (Int32.toUInt32 (4 : Int32) &&& Int32.toUInt32 31)).toInt32) ≤ (4 : Int32) then ((((1 : Int32) + (16 : Int32)) + (4 : Int32)) + ((Int32.toUInt32 ((Int32.toUInt32 ((Int32.toUInt32 ((a0 ^^^ (-1 : Int32)) &&& (a0 - (1 : Int32))) >>> (Int32.toUInt32 (16 : Int32) &&& Int32.toUInt32 31)).toInt32) >>> (Int32.toUInt32 (4 : Int32) &&& Int32.toUInt32 31)).toInt32) >>> (Int32.toUInt32 (1 : Int32) &&& Int32.toUInt32 31)).toInt32)) else (((((1 : Int32) + (16 : Int32)) + (4 : Int32)) + (2 : Int32)) + ((Int32.toUInt32 ((Int32.toUInt32 ((Int32.toUInt32 ((Int32.toUInt32 ((a0 ^^^ (-1 : Int32)) &&& (a0 - (1 : Int32))) >>> (Int32.toUInt32 (16 : Int32) &&& Int32.toUInt32 31)).toInt32) >>> (Int32.toUInt32 (4 : Int32) &&& Int32.toUInt32 31)).toInt32) >>> (Int32.toUInt32 (2 : Int32) &&& Int32.toUInt32 31)).toInt32) >>> (Int32.toUInt32 (1 : Int32) &&& Int32.toUInt32 31)).toInt32)))) else (if ((Int32.toUInt32 ((Int32.toUInt32 ((a0 ^^^ (-1 : Int32)) &&& (a0 - (1 : Int32))) >>> (Int32.toUInt32 (16 : Int32) &&& Int32.toUInt32 31)).toInt32) >>> (Int32.toUInt32 (8 : Int32) &&& Int32.toUInt32 31)).toInt32) ≤ (16 : Int32) then (if ((Int32.toUInt32 ((Int32.toUInt32 ((a0 ^^^ (-1 : Int32)) &&& (a0 - (1 : Int32))) >>> (Int32.toUInt32 (16 : Int32) &&& Int32.toUInt32 31)).toInt32) >>> (Int32.toUInt32 (8 : Int32) &&& Int32.toUInt32 31)).toInt32) ≤ (4 : Int32) then ((((1 : Int32) + (16 : Int32)) + (8 : Int32)) + ((Int32.toUInt32 ((Int32.toUInt32 ((Int32.toUInt32 ((a0 ^^^ (-1 : Int32)) &&& (a0 - (1 : Int32))) >>> (Int32.toUInt32 (16 : Int32) &&& Int32.toUInt32 31)).toInt32) >>> (Int32.toUInt32 (8 : Int32) &&& Int32.toUInt32 31)).toInt32) >>> (Int32.toUInt32 (1 : Int32) &&& Int32.toUInt32 31)).toInt32)) else (((((1 : Int32) + (16 : Int32)) + (8 : Int32)) + (2 : Int32)) + ((Int32.toUInt32 ((Int32.toUInt32 ((Int32.toUInt32 ((Int32.toUInt32 ((a0 ^^^ (-1 : Int32)) &&& (a0 - (1 : Int32))) >>> (Int32.toUInt32 (16 : Int32) &&& Int32.toUInt32 31)).toInt32) >>> (Int32.toUInt32 (8 : Int32) &&& Int32.toUInt32 31)).toInt32) >>> (Int32.toUInt32 (2 : Int32) &&& Int32.toUInt32 31)).toInt32) >>> (Int32.toUInt32 (1 : Int32) &&& Int32.toUInt32 31)).toInt32))) else (if ((Int32.toUInt32 ((Int32.toUInt32 ((Int32.toUInt32 ((a0 ^^^ (-1 : Int32)) &&& (a0 - (1 : Int32))) >>> (Int32.toUInt32 (16 : Int32) &&& Int32.toUInt32 31)).toInt32) >>> (Int32.toUInt32 (8 : Int32) &&& Int32.toUInt32 31)).toInt32) >>> (Int32.toUInt32 (4 : Int32) &&& Int32.toUInt32 31)).toInt32) ≤ (4 : Int32) then (((((1 : Int32) + (16 : Int32)) + (8 : Int32)) + (4 : Int32)) + ((Int32.toUInt32 ((Int32.toUInt32 ((Int32.toUInt32 ((Int32.toUInt32 ((a0 ^^^ (-1 : Int32)) &&& (a0 - (1 : Int32))) >>> (Int32.toUInt32 (16 : Int32) &&& Int32.toUInt32 31)).toInt32) >>> (Int32.toUInt32 (8 : Int32) &&& Int32.toUInt32 31)).toInt32) >>> (Int32.toUInt32 (4 : Int32) &&& Int32.toUInt32 31)).toInt32) >>> (Int32.toUInt32 (1 : Int32) &&& Int32.toUInt32 31)).toInt32)) else ((((((1 : Int32) + (16 : Int32)) + (8 : Int32)) + (4 : Int32)) + (2 : Int32)) + ((Int32.toUInt32 ((Int32.toUInt32 ((Int32.toUInt32 ((Int32.toUInt32 ((Int32.toUInt32 ((a0 ^^^ (-1 : Int32)) &&& (a0 - (1 : Int32))) >>> (Int32.toUInt32 (16 : Int32) &&& Int32.toUInt32 31)).toInt32) >>> (Int32.toUInt32 (8 : Int32) &&& Int32.toUInt32 31)).toInt32) >>> (Int32.toUInt32 (4 : Int32) &&& Int32.toUInt32 31)).toInt32) >>> (Int32.toUInt32 (2 : Int32) &&& Int32.toUInt32 31)).toInt32) >>> (Int32.toUInt32 (1 : Int32) &&& Int32.toUInt32 31)).toInt32)))))) else (((a0 ^^^ (-1 : Int32)) &&& (a0 - (1 : Int32))) &&& (32 : Int32)))
set_option maxHeartbeats 4000000 in
set_option maxRecDepth 100000 in
theorem c_J6_ntz_x (l : Launch) (g : Gx) (Ty : TyM) (G : Gh) (a0 : Int32) : Met l yJ6_numberOfTrailingZeros_0f7a4 (wsG yJ6_numberOfTrailingZeros_0f7a4 cJ6_numberOfTrailingZeros_0f7a4 2 (some .int)) ({ frames := 0, cells := 0, slots := 0, locals := 0 }) (PcH g Ty G [.int a0]) (vp_Si (fun r => r = F_J6_numberOfTrailingZeros_0f7a4 a0)) 0 0 (fun _ => False) := by
  refine Met.ofW (cc := cJ6_numberOfTrailingZeros_0f7a4) (maxL := 2) (ret := (some .int)) (by decide) rfl ?_
  intro p e s m args below meth c s₁ B hml hv
  obtain ⟨rfl, hK, hH⟩ := hv
  have hx := B.exec
  have hb := B.bytes
  have hr := B.returns
  have hts := atoms_spec (ws := (wsG yJ6_numberOfTrailingZeros_0f7a4 cJ6_numberOfTrailingZeros_0f7a4 2 (some .int))) B.pre
  have hG : ∀ w ∈ GW, w.before ([.int a0] : List Value).toArray s = true := fun w h => hts w (List.mem_cons_of_mem _ h)
  have hown : s.vm.findClass "java/lang/Integer" = some m.cls := findClass_of_methodNamed B.named
  have hlocks := B.notSynchronized
  have hl := lv_entry [.int a0] (n := 2) (Nat.le_of_ble_eq_true rfl)
  rw [lg_entry_eq]
  generalize (lg_sl [.int a0] ++ List.replicate (2 - (lg_sl [.int a0]).length) Slot.unset).toArray = ls at hl ⊢
  have hl : lv_has ls 2 [(0, .int a0)] := hl
  have hv : (if (0 : Int32) < ((a0 ^^^ (-1 : Int32)) &&& (a0 - (1 : Int32))) then (if ((a0 ^^^ (-1 : Int32)) &&& (a0 - (1 : Int32))) ≤ (65536 : Int32) then (if ((a0 ^^^ (-1 : Int32)) &&& (a0 - (1 : Int32))) ≤ (256 : Int32) then (if ((a0 ^^^ (-1 : Int32)) &&& (a0 - (1 : Int32))) ≤ (16 : Int32) then (if ((a0 ^^^ (-1 : Int32)) &&& (a0 - (1 : Int32))) ≤ (4 : Int32) then ((1 : Int32) + ((Int32.toUInt32 ((a0 ^^^ (-1 : Int32)) &&& (a0 - (1 : Int32))) >>> (Int32.toUInt32 (1 : Int32) &&& Int32.toUInt32 31)).toInt32)) else (((1 : Int32) + (2 : Int32)) + ((Int32.toUInt32 ((Int32.toUInt32 ((a0 ^^^ (-1 : Int32)) &&& (a0 - (1 : Int32))) >>> (Int32.toUInt32 (2 : Int32) &&& Int32.toUInt32 31)).toInt32) >>> (Int32.toUInt32 (1 : Int32) &&& Int32.toUInt32 31)).toInt32))) else (if ((Int32.toUInt32 ((a0 ^^^ (-1 : Int32)) &&& (a0 - (1 : Int32))) >>> (Int32.toUInt32 (4 : Int32) &&& Int32.toUInt32 31)).toInt32) ≤ (4 : Int32) then (((1 : Int32) + (4 : Int32)) + ((Int32.toUInt32 ((Int32.toUInt32 ((a0 ^^^ (-1 : Int32)) &&& (a0 - (1 : Int32))) >>> (Int32.toUInt32 (4 : Int32) &&& Int32.toUInt32 31)).toInt32) >>> (Int32.toUInt32 (1 : Int32) &&& Int32.toUInt32 31)).toInt32)) else ((((1 : Int32) + (4 : Int32)) + (2 : Int32)) + ((Int32.toUInt32 ((Int32.toUInt32 ((Int32.toUInt32 ((a0 ^^^ (-1 : Int32)) &&& (a0 - (1 : Int32))) >>> (Int32.toUInt32 (4 : Int32) &&& Int32.toUInt32 31)).toInt32) >>> (Int32.toUInt32 (2 : Int32) &&& Int32.toUInt32 31)).toInt32) >>> (Int32.toUInt32 (1 : Int32) &&& Int32.toUInt32 31)).toInt32)))) else (if ((Int32.toUInt32 ((a0 ^^^ (-1 : Int32)) &&& (a0 - (1 : Int32))) >>> (Int32.toUInt32 (8 : Int32) &&& Int32.toUInt32 31)).toInt32) ≤ (16 : Int32) then (if ((Int32.toUInt32 ((a0 ^^^ (-1 : Int32)) &&& (a0 - (1 : Int32))) >>> (Int32.toUInt32 (8 : Int32) &&& Int32.toUInt32 31)).toInt32) ≤ (4 : Int32) then (((1 : Int32) + (8 : Int32)) + ((Int32.toUInt32 ((Int32.toUInt32 ((a0 ^^^ (-1 : Int32)) &&& (a0 - (1 : Int32))) >>> (Int32.toUInt32 (8 : Int32) &&& Int32.toUInt32 31)).toInt32) >>> (Int32.toUInt32 (1 : Int32) &&& Int32.toUInt32 31)).toInt32)) else ((((1 : Int32) + (8 : Int32)) + (2 : Int32)) + ((Int32.toUInt32 ((Int32.toUInt32 ((Int32.toUInt32 ((a0 ^^^ (-1 : Int32)) &&& (a0 - (1 : Int32))) >>> (Int32.toUInt32 (8 : Int32) &&& Int32.toUInt32 31)).toInt32) >>> (Int32.toUInt32 (2 : Int32) &&& Int32.toUInt32 31)).toInt32) >>> (Int32.toUInt32 (1 : Int32) &&& Int32.toUInt32 31)).toInt32))) else (if ((Int32.toUInt32 ((Int32.toUInt32 ((a0 ^^^ (-1 : Int32)) &&& (a0 - (1 : Int32))) >>> (Int32.toUInt32 (8 : Int32) &&& Int32.toUInt32 31)).toInt32) >>> (Int32.toUInt32 (4 : Int32) &&& Int32.toUInt32 31)).toInt32) ≤ (4 : Int32) then ((((1 : Int32) + (8 : Int32)) + (4 : Int32)) + ((Int32.toUInt32 ((Int32.toUInt32 ((Int32.toUInt32 ((a0 ^^^ (-1 : Int32)) &&& (a0 - (1 : Int32))) >>> (Int32.toUInt32 (8 : Int32) &&& Int32.toUInt32 31)).toInt32) >>> (Int32.toUInt32 (4 : Int32) &&& Int32.toUInt32 31)).toInt32) >>> (Int32.toUInt32 (1 : Int32) &&& Int32.toUInt32 31)).toInt32)) else (((((1 : Int32) + (8 : Int32)) + (4 : Int32)) + (2 : Int32)) + ((Int32.toUInt32 ((Int32.toUInt32 ((Int32.toUInt32 ((Int32.toUInt32 ((a0 ^^^ (-1 : Int32)) &&& (a0 - (1 : Int32))) >>> (Int32.toUInt32 (8 : Int32) &&& Int32.toUInt32 31)).toInt32) >>> (Int32.toUInt32 (4 : Int32) &&& Int32.toUInt32 31)).toInt32) >>> (Int32.toUInt32 (2 : Int32) &&& Int32.toUInt32 31)).toInt32) >>> (Int32.toUInt32 (1 : Int32) &&& Int32.toUInt32 31)).toInt32))))) else (if ((Int32.toUInt32 ((a0 ^^^ (-1 : Int32)) &&& (a0 - (1 : Int32))) >>> (Int32.toUInt32 (16 : Int32) &&& Int32.toUInt32 31)).toInt32) ≤ (256 : Int32) then (if ((Int32.toUInt32 ((a0 ^^^ (-1 : Int32)) &&& (a0 - (1 : Int32))) >>> (Int32.toUInt32 (16 : Int32) &&& Int32.toUInt32 31)).toInt32) ≤ (16 : Int32) then (if ((Int32.toUInt32 ((a0 ^^^ (-1 : Int32)) &&& (a0 - (1 : Int32))) >>> (Int32.toUInt32 (16 : Int32) &&& Int32.toUInt32 31)).toInt32) ≤ (4 : Int32) then (((1 : Int32) + (16 : Int32)) + ((Int32.toUInt32 ((Int32.toUInt32 ((a0 ^^^ (-1 : Int32)) &&& (a0 - (1 : Int32))) >>> (Int32.toUInt32 (16 : Int32) &&& Int32.toUInt32 31)).toInt32) >>> (Int32.toUInt32 (1 : Int32) &&& Int32.toUInt32 31)).toInt32)) else ((((1 : Int32) + (16 : Int32)) + (2 : Int32)) + ((Int32.toUInt32 ((Int32.toUInt32 ((Int32.toUInt32 ((a0 ^^^ (-1 : Int32)) &&& (a0 - (1 : Int32))) >>> (Int32.toUInt32 (16 : Int32) &&& Int32.toUInt32 31)).toInt32) >>> (Int32.toUInt32 (2 : Int32) &&& Int32.toUInt32 31)).toInt32) >>> (Int32.toUInt32 (1 : Int32) &&& Int32.toUInt32 31)).toInt32))) else (if ((Int32.toUInt32 ((Int32.toUInt32 ((a0 ^^^ (-1 : Int32)) &&& (a0 - (1 : Int32))) >>> (Int32.toUInt32 (16 : Int32) &&& Int32.toUInt32 31)).toInt32) >>> (Int32.toUInt32 (4 : Int32) &&& Int32.toUInt32 31)).toInt32) ≤ (4 : Int32) then ((((1 : Int32) + (16 : Int32)) + (4 : Int32)) + ((Int32.toUInt32 ((Int32.toUInt32 ((Int32.toUInt32 ((a0 ^^^ (-1 : Int32)) &&& (a0 - (1 : Int32))) >>> (Int32.toUInt32 (16 : Int32) &&& Int32.toUInt32 31)).toInt32) >>> (Int32.toUInt32 (4 : Int32) &&& Int32.toUInt32 31)).toInt32) >>> (Int32.toUInt32 (1 : Int32) &&& Int32.toUInt32 31)).toInt32)) else (((((1 : Int32) + (16 : Int32)) + (4 : Int32)) + (2 : Int32)) + ((Int32.toUInt32 ((Int32.toUInt32 ((Int32.toUInt32 ((Int32.toUInt32 ((a0 ^^^ (-1 : Int32)) &&& (a0 - (1 : Int32))) >>> (Int32.toUInt32 (16 : Int32) &&& Int32.toUInt32 31)).toInt32) >>> (Int32.toUInt32 (4 : Int32) &&& Int32.toUInt32 31)).toInt32) >>> (Int32.toUInt32 (2 : Int32) &&& Int32.toUInt32 31)).toInt32) >>> (Int32.toUInt32 (1 : Int32) &&& Int32.toUInt32 31)).toInt32)))) else (if ((Int32.toUInt32 ((Int32.toUInt32 ((a0 ^^^ (-1 : Int32)) &&& (a0 - (1 : Int32))) >>> (Int32.toUInt32 (16 : Int32) &&& Int32.toUInt32 31)).toInt32) >>> (Int32.toUInt32 (8 : Int32) &&& Int32.toUInt32 31)).toInt32) ≤ (16 : Int32) then (if ((Int32.toUInt32 ((Int32.toUInt32 ((a0 ^^^ (-1 : Int32)) &&& (a0 - (1 : Int32))) >>> (Int32.toUInt32 (16 : Int32) &&& Int32.toUInt32 31)).toInt32) >>> (Int32.toUInt32 (8 : Int32) &&& Int32.toUInt32 31)).toInt32) ≤ (4 : Int32) then ((((1 : Int32) + (16 : Int32)) + (8 : Int32)) + ((Int32.toUInt32 ((Int32.toUInt32 ((Int32.toUInt32 ((a0 ^^^ (-1 : Int32)) &&& (a0 - (1 : Int32))) >>> (Int32.toUInt32 (16 : Int32) &&& Int32.toUInt32 31)).toInt32) >>> (Int32.toUInt32 (8 : Int32) &&& Int32.toUInt32 31)).toInt32) >>> (Int32.toUInt32 (1 : Int32) &&& Int32.toUInt32 31)).toInt32)) else (((((1 : Int32) + (16 : Int32)) + (8 : Int32)) + (2 : Int32)) + ((Int32.toUInt32 ((Int32.toUInt32 ((Int32.toUInt32 ((Int32.toUInt32 ((a0 ^^^ (-1 : Int32)) &&& (a0 - (1 : Int32))) >>> (Int32.toUInt32 (16 : Int32) &&& Int32.toUInt32 31)).toInt32) >>> (Int32.toUInt32 (8 : Int32) &&& Int32.toUInt32 31)).toInt32) >>> (Int32.toUInt32 (2 : Int32) &&& Int32.toUInt32 31)).toInt32) >>> (Int32.toUInt32 (1 : Int32) &&& Int32.toUInt32 31)).toInt32))) else (if ((Int32.toUInt32 ((Int32.toUInt32 ((Int32.toUInt32 ((a0 ^^^ (-1 : Int32)) &&& (a0 - (1 : Int32))) >>> (Int32.toUInt32 (16 : Int32) &&& Int32.toUInt32 31)).toInt32) >>> (Int32.toUInt32 (8 : Int32) &&& Int32.toUInt32 31)).toInt32) >>> (Int32.toUInt32 (4 : Int32) &&& Int32.toUInt32 31)).toInt32) ≤ (4 : Int32) then (((((1 : Int32) + (16 : Int32)) + (8 : Int32)) + (4 : Int32)) + ((Int32.toUInt32 ((Int32.toUInt32 ((Int32.toUInt32 ((Int32.toUInt32 ((a0 ^^^ (-1 : Int32)) &&& (a0 - (1 : Int32))) >>> (Int32.toUInt32 (16 : Int32) &&& Int32.toUInt32 31)).toInt32) >>> (Int32.toUInt32 (8 : Int32) &&& Int32.toUInt32 31)).toInt32) >>> (Int32.toUInt32 (4 : Int32) &&& Int32.toUInt32 31)).toInt32) >>> (Int32.toUInt32 (1 : Int32) &&& Int32.toUInt32 31)).toInt32)) else ((((((1 : Int32) + (16 : Int32)) + (8 : Int32)) + (4 : Int32)) + (2 : Int32)) + ((Int32.toUInt32 ((Int32.toUInt32 ((Int32.toUInt32 ((Int32.toUInt32 ((Int32.toUInt32 ((a0 ^^^ (-1 : Int32)) &&& (a0 - (1 : Int32))) >>> (Int32.toUInt32 (16 : Int32) &&& Int32.toUInt32 31)).toInt32) >>> (Int32.toUInt32 (8 : Int32) &&& Int32.toUInt32 31)).toInt32) >>> (Int32.toUInt32 (4 : Int32) &&& Int32.toUInt32 31)).toInt32) >>> (Int32.toUInt32 (2 : Int32) &&& Int32.toUInt32 31)).toInt32) >>> (Int32.toUInt32 (1 : Int32) &&& Int32.toUInt32 31)).toInt32)))))) else (((a0 ^^^ (-1 : Int32)) &&& (a0 - (1 : Int32))) &&& (32 : Int32))) = F_J6_numberOfTrailingZeros_0f7a4 a0 := rfl
  refine lv_iload_n hx hb dJ6_numberOfTrailingZeros_0f7a4_0 rfl (lv_at hl 0 rfl) ?_
  refine lv_iconst (v := (-1)) hx hb dJ6_numberOfTrailingZeros_0f7a4_1 (by decide) ?_
  refine lv_ixor hx hb dJ6_numberOfTrailingZeros_0f7a4_2 ?_
  refine lv_topi (fun x_1 ex_1 => ?_)
  try rw [← ex_1] at hv
  refine lv_iload_n hx hb dJ6_numberOfTrailingZeros_0f7a4_3 rfl (lv_at hl 0 rfl) ?_
  refine lv_iconst (v := 1) hx hb dJ6_numberOfTrailingZeros_0f7a4_4 (by decide) ?_
  refine lv_isub hx hb dJ6_numberOfTrailingZeros_0f7a4_5 ?_
  refine lv_topi (fun x_2 ex_2 => ?_)
  try rw [← ex_2] at hv
  refine lv_iand hx hb dJ6_numberOfTrailingZeros_0f7a4_6 ?_
  refine lv_topi (fun x_3 ex_3 => ?_)
  try rw [← ex_3] at hv
  refine lv_istore_n (lv' := [(0, .int x_3)]) hx hb dJ6_numberOfTrailingZeros_0f7a4_7 rfl hl (by decide) rfl (fun ls hl => ?_)
  refine lv_iload_n hx hb dJ6_numberOfTrailingZeros_0f7a4_8 rfl (lv_at hl 0 rfl) ?_
  refine lv_if_gt (tgt := 17) hx hb dJ6_numberOfTrailingZeros_0f7a4_9 (by decide) (fun c_4 => ?_) (fun c_4 => ?_)
  · rw [if_pos c_4] at hv
    have r_5 : rgI (1) (2147483647) x_3 := rg_w (rg_ltR rl_0 (rg_top x_3) c_4) (by decide) (by decide)
    refine lv_iconst (v := 1) hx hb dJ6_numberOfTrailingZeros_0f7a4_17 (by decide) ?_
    refine lv_istore_n (lv' := [(1, .int 1), (0, .int x_3)]) hx hb dJ6_numberOfTrailingZeros_0f7a4_18 rfl hl (by decide) rfl (fun ls hl => ?_)
    refine lv_iload_n hx hb dJ6_numberOfTrailingZeros_0f7a4_19 rfl (lv_at hl 1 rfl) ?_
    refine lv_ldcw (v := 65536) hx hb hown (hG _ mw_1719) dJ6_numberOfTrailingZeros_0f7a4_20 ?_
    refine lv_icmp_le (tgt := 34) hx hb dJ6_numberOfTrailingZeros_0f7a4_23 (by decide) (fun c_6 => ?_) (fun c_6 => ?_)
    · rw [if_pos c_6] at hv
      have r_7 : rgI (1) (65536) x_3 := rg_w (rg_leL r_5 rl_65536 c_6) (by decide) (by decide)
      refine lv_iload_n hx hb dJ6_numberOfTrailingZeros_0f7a4_34 rfl (lv_at hl 1 rfl) ?_
      refine lv_sipush (v := 256) hx hb dJ6_numberOfTrailingZeros_0f7a4_35 (by decide) ?_
      refine lv_icmp_le (tgt := 49) hx hb dJ6_numberOfTrailingZeros_0f7a4_38 (by decide) (fun c_8 => ?_) (fun c_8 => ?_)
      · rw [if_pos c_8] at hv
        have r_9 : rgI (1) (256) x_3 := rg_w (rg_leL r_7 rl_256 c_8) (by decide) (by decide)
        refine lv_iload_n hx hb dJ6_numberOfTrailingZeros_0f7a4_49 rfl (lv_at hl 1 rfl) ?_
        refine lv_bipush (v := 16) hx hb dJ6_numberOfTrailingZeros_0f7a4_50 (by decide) ?_
        refine lv_icmp_le (tgt := 62) hx hb dJ6_numberOfTrailingZeros_0f7a4_52 (by decide) (fun c_10 => ?_) (fun c_10 => ?_)
        · rw [if_pos c_10] at hv
          have r_11 : rgI (1) (16) x_3 := rg_w (rg_leL r_9 rl_16 c_10) (by decide) (by decide)
          refine lv_iload_n hx hb dJ6_numberOfTrailingZeros_0f7a4_62 rfl (lv_at hl 1 rfl) ?_
          refine lv_iconst (v := 4) hx hb dJ6_numberOfTrailingZeros_0f7a4_63 (by decide) ?_
          refine lv_icmp_le (tgt := 74) hx hb dJ6_numberOfTrailingZeros_0f7a4_64 (by decide) (fun c_12 => ?_) (fun c_12 => ?_)
          · rw [if_pos c_12] at hv
            have r_13 : rgI (1) (4) x_3 := rg_w (rg_leL r_11 rl_4 c_12) (by decide) (by decide)
            refine lv_iload_n hx hb dJ6_numberOfTrailingZeros_0f7a4_74 rfl (lv_at hl 0 rfl) ?_
            refine lv_iload_n hx hb dJ6_numberOfTrailingZeros_0f7a4_75 rfl (lv_at hl 1 rfl) ?_
            refine lv_iconst (v := 1) hx hb dJ6_numberOfTrailingZeros_0f7a4_76 (by decide) ?_
            refine lv_iushr hx hb dJ6_numberOfTrailingZeros_0f7a4_77 rfl ?_
            refine lv_topi (fun x_14 ex_14 => ?_)
            try rw [← ex_14] at hv
            refine lv_iadd hx hb dJ6_numberOfTrailingZeros_0f7a4_78 ?_
            refine lv_topi (fun x_15 ex_15 => ?_)
            try rw [← ex_15] at hv
            exact W.iret hx hb hr (fun t ht hW => ⟨x_15, rfl, hv, ht⟩) (fun q h => by cases h) dJ6_numberOfTrailingZeros_0f7a4_79
          · rw [if_neg c_12] at hv
            have r_16 : rgI (5) (16) x_3 := rg_w (rg_ltR rl_4 r_11 (nle_lt c_12)) (by decide) (by decide)
            obtain ⟨x_17, ex_17⟩ : ∃ y : Int32, y = 1 + 2 := ⟨_, rfl⟩
            try rw [← ex_17] at hv
            have rx_17 : rgI (3) (3) x_17 := by rw [ex_17]; exact rg_w (rg_add rl_1 rl_2 (by decide) (by decide)) (by decide) (by decide)
            have qx_17 : x_17.toInt = (1 : Int32).toInt + 2 := by rw [ex_17]; exact rg_addE rl_1 rl_2 (by decide) (by decide)
            refine lv_iinc (v := x_17) (lv' := [(1, .int x_17), (0, .int x_3)]) hx hb dJ6_numberOfTrailingZeros_0f7a4_67 hl (k := 0) rfl (by rw [ex_17]; rfl) (by decide) rfl (fun ls hl => ?_)
            refine lv_iload_n hx hb dJ6_numberOfTrailingZeros_0f7a4_70 rfl (lv_at hl 1 rfl) ?_
            refine lv_iconst (v := 2) hx hb dJ6_numberOfTrailingZeros_0f7a4_71 (by decide) ?_
            refine lv_iushr hx hb dJ6_numberOfTrailingZeros_0f7a4_72 rfl ?_
            refine lv_topi (fun x_18 ex_18 => ?_)
            try rw [← ex_18] at hv
            refine lv_istore_n (lv' := [(0, .int x_18), (1, .int x_17)]) hx hb dJ6_numberOfTrailingZeros_0f7a4_73 rfl hl (by decide) rfl (fun ls hl => ?_)
            refine lv_iload_n hx hb dJ6_numberOfTrailingZeros_0f7a4_74 rfl (lv_at hl 1 rfl) ?_
            refine lv_iload_n hx hb dJ6_numberOfTrailingZeros_0f7a4_75 rfl (lv_at hl 0 rfl) ?_
            refine lv_iconst (v := 1) hx hb dJ6_numberOfTrailingZeros_0f7a4_76 (by decide) ?_
            refine lv_iushr hx hb dJ6_numberOfTrailingZeros_0f7a4_77 rfl ?_
            refine lv_topi (fun x_19 ex_19 => ?_)
            try rw [← ex_19] at hv
            refine lv_iadd hx hb dJ6_numberOfTrailingZeros_0f7a4_78 ?_
            refine lv_topi (fun x_20 ex_20 => ?_)
            try rw [← ex_20] at hv
            exact W.iret hx hb hr (fun t ht hW => ⟨x_20, rfl, hv, ht⟩) (fun q h => by cases h) dJ6_numberOfTrailingZeros_0f7a4_79
        · rw [if_neg c_10] at hv
          have r_21 : rgI (17) (256) x_3 := rg_w (rg_ltR rl_16 r_9 (nle_lt c_10)) (by decide) (by decide)
          obtain ⟨x_22, ex_22⟩ : ∃ y : Int32, y = 1 + 4 := ⟨_, rfl⟩
          try rw [← ex_22] at hv
          have rx_22 : rgI (5) (5) x_22 := by rw [ex_22]; exact rg_w (rg_add rl_1 rl_4 (by decide) (by decide)) (by decide) (by decide)
          have qx_22 : x_22.toInt = (1 : Int32).toInt + 4 := by rw [ex_22]; exact rg_addE rl_1 rl_4 (by decide) (by decide)
          refine lv_iinc (v := x_22) (lv' := [(1, .int x_22), (0, .int x_3)]) hx hb dJ6_numberOfTrailingZeros_0f7a4_55 hl (k := 0) rfl (by rw [ex_22]; rfl) (by decide) rfl (fun ls hl => ?_)
          refine lv_iload_n hx hb dJ6_numberOfTrailingZeros_0f7a4_58 rfl (lv_at hl 1 rfl) ?_
          refine lv_iconst (v := 4) hx hb dJ6_numberOfTrailingZeros_0f7a4_59 (by decide) ?_
          refine lv_iushr hx hb dJ6_numberOfTrailingZeros_0f7a4_60 rfl ?_
          refine lv_topi (fun x_23 ex_23 => ?_)
          try rw [← ex_23] at hv
          refine lv_istore_n (lv' := [(0, .int x_23), (1, .int x_22)]) hx hb dJ6_numberOfTrailingZeros_0f7a4_61 rfl hl (by decide) rfl (fun ls hl => ?_)
          refine lv_iload_n hx hb dJ6_numberOfTrailingZeros_0f7a4_62 rfl (lv_at hl 0 rfl) ?_
          refine lv_iconst (v := 4) hx hb dJ6_numberOfTrailingZeros_0f7a4_63 (by decide) ?_
          refine lv_icmp_le (tgt := 74) hx hb dJ6_numberOfTrailingZeros_0f7a4_64 (by decide) (fun c_24 => ?_) (fun c_24 => ?_)
          · rw [if_pos c_24] at hv
            have r_25 : rgI (-2147483648) (4) x_23 := rg_w (rg_leL (rg_top x_23) rl_4 c_24) (by decide) (by decide)
            refine lv_iload_n hx hb dJ6_numberOfTrailingZeros_0f7a4_74 rfl (lv_at hl 1 rfl) ?_
            refine lv_iload_n hx hb dJ6_numberOfTrailingZeros_0f7a4_75 rfl (lv_at hl 0 rfl) ?_
            refine lv_iconst (v := 1) hx hb dJ6_numberOfTrailingZeros_0f7a4_76 (by decide) ?_
            refine lv_iushr hx hb dJ6_numberOfTrailingZeros_0f7a4_77 rfl ?_
            refine lv_topi (fun x_26 ex_26 => ?_)
            try rw [← ex_26] at hv
            refine lv_iadd hx hb dJ6_numberOfTrailingZeros_0f7a4_78 ?_
            refine lv_topi (fun x_27 ex_27 => ?_)
            try rw [← ex_27] at hv
            exact W.iret hx hb hr (fun t ht hW => ⟨x_27, rfl, hv, ht⟩) (fun q h => by cases h) dJ6_numberOfTrailingZeros_0f7a4_79
          · rw [if_neg c_24] at hv
            have r_28 : rgI (5) (2147483647) x_23 := rg_w (rg_ltR rl_4 (rg_top x_23) (nle_lt c_24)) (by decide) (by decide)
            obtain ⟨x_29, ex_29⟩ : ∃ y : Int32, y = x_22 + 2 := ⟨_, rfl⟩
            try rw [← ex_29] at hv
            have rx_29 : rgI (7) (7) x_29 := by rw [ex_29]; exact rg_w (rg_add rx_22 rl_2 (by decide) (by decide)) (by decide) (by decide)
            have qx_29 : x_29.toInt = (x_22 : Int32).toInt + 2 := by rw [ex_29]; exact rg_addE rx_22 rl_2 (by decide) (by decide)
            refine lv_iinc (v := x_29) (lv' := [(1, .int x_29), (0, .int x_23)]) hx hb dJ6_numberOfTrailingZeros_0f7a4_67 hl (k := 1) rfl (by rw [ex_29]; rfl) (by decide) rfl (fun ls hl => ?_)
            refine lv_iload_n hx hb dJ6_numberOfTrailingZeros_0f7a4_70 rfl (lv_at hl 1 rfl) ?_
            refine lv_iconst (v := 2) hx hb dJ6_numberOfTrailingZeros_0f7a4_71 (by decide) ?_
            refine lv_iushr hx hb dJ6_numberOfTrailingZeros_0f7a4_72 rfl ?_
            refine lv_topi (fun x_30 ex_30 => ?_)
            try rw [← ex_30] at hv
            refine lv_istore_n (lv' := [(0, .int x_30), (1, .int x_29)]) hx hb dJ6_numberOfTrailingZeros_0f7a4_73 rfl hl (by decide) rfl (fun ls hl => ?_)
            refine lv_iload_n hx hb dJ6_numberOfTrailingZeros_0f7a4_74 rfl (lv_at hl 1 rfl) ?_
            refine lv_iload_n hx hb dJ6_numberOfTrailingZeros_0f7a4_75 rfl (lv_at hl 0 rfl) ?_
            refine lv_iconst (v := 1) hx hb dJ6_numberOfTrailingZeros_0f7a4_76 (by decide) ?_
            refine lv_iushr hx hb dJ6_numberOfTrailingZeros_0f7a4_77 rfl ?_
            refine lv_topi (fun x_31 ex_31 => ?_)
            try rw [← ex_31] at hv
            refine lv_iadd hx hb dJ6_numberOfTrailingZeros_0f7a4_78 ?_
            refine lv_topi (fun x_32 ex_32 => ?_)
            try rw [← ex_32] at hv
            exact W.iret hx hb hr (fun t ht hW => ⟨x_32, rfl, hv, ht⟩) (fun q h => by cases h) dJ6_numberOfTrailingZeros_0f7a4_79
      · rw [if_neg c_8] at hv
        have r_33 : rgI (257) (65536) x_3 := rg_w (rg_ltR rl_256 r_7 (nle_lt c_8)) (by decide) (by decide)
        obtain ⟨x_34, ex_34⟩ : ∃ y : Int32, y = 1 + 8 := ⟨_, rfl⟩
        try rw [← ex_34] at hv
        have rx_34 : rgI (9) (9) x_34 := by rw [ex_34]; exact rg_w (rg_add rl_1 rl_8 (by decide) (by decide)) (by decide) (by decide)
        have qx_34 : x_34.toInt = (1 : Int32).toInt + 8 := by rw [ex_34]; exact rg_addE rl_1 rl_8 (by decide) (by decide)
        refine lv_iinc (v := x_34) (lv' := [(1, .int x_34), (0, .int x_3)]) hx hb dJ6_numberOfTrailingZeros_0f7a4_41 hl (k := 0) rfl (by rw [ex_34]; rfl) (by decide) rfl (fun ls hl => ?_)
        refine lv_iload_n hx hb dJ6_numberOfTrailingZeros_0f7a4_44 rfl (lv_at hl 1 rfl) ?_
        refine lv_bipush (v := 8) hx hb dJ6_numberOfTrailingZeros_0f7a4_45 (by decide) ?_
        refine lv_iushr hx hb dJ6_numberOfTrailingZeros_0f7a4_47 rfl ?_
        refine lv_topi (fun x_35 ex_35 => ?_)
        try rw [← ex_35] at hv
        refine lv_istore_n (lv' := [(0, .int x_35), (1, .int x_34)]) hx hb dJ6_numberOfTrailingZeros_0f7a4_48 rfl hl (by decide) rfl (fun ls hl => ?_)
        refine lv_iload_n hx hb dJ6_numberOfTrailingZeros_0f7a4_49 rfl (lv_at hl 0 rfl) ?_
        refine lv_bipush (v := 16) hx hb dJ6_numberOfTrailingZeros_0f7a4_50 (by decide) ?_
        refine lv_icmp_le (tgt := 62) hx hb dJ6_numberOfTrailingZeros_0f7a4_52 (by decide) (fun c_36 => ?_) (fun c_36 => ?_)
        · rw [if_pos c_36] at hv
          have r_37 : rgI (-2147483648) (16) x_35 := rg_w (rg_leL (rg_top x_35) rl_16 c_36) (by decide) (by decide)
          refine lv_iload_n hx hb dJ6_numberOfTrailingZeros_0f7a4_62 rfl (lv_at hl 0 rfl) ?_
          refine lv_iconst (v := 4) hx hb dJ6_numberOfTrailingZeros_0f7a4_63 (by decide) ?_
          refine lv_icmp_le (tgt := 74) hx hb dJ6_numberOfTrailingZeros_0f7a4_64 (by decide) (fun c_38 => ?_) (fun c_38 => ?_)
          · rw [if_pos c_38] at hv
            have r_39 : rgI (-2147483648) (4) x_35 := rg_w (rg_leL r_37 rl_4 c_38) (by decide) (by decide)
            refine lv_iload_n hx hb dJ6_numberOfTrailingZeros_0f7a4_74 rfl (lv_at hl 1 rfl) ?_
            refine lv_iload_n hx hb dJ6_numberOfTrailingZeros_0f7a4_75 rfl (lv_at hl 0 rfl) ?_
            refine lv_iconst (v := 1) hx hb dJ6_numberOfTrailingZeros_0f7a4_76 (by decide) ?_
            refine lv_iushr hx hb dJ6_numberOfTrailingZeros_0f7a4_77 rfl ?_
            refine lv_topi (fun x_40 ex_40 => ?_)
            try rw [← ex_40] at hv
            refine lv_iadd hx hb dJ6_numberOfTrailingZeros_0f7a4_78 ?_
            refine lv_topi (fun x_41 ex_41 => ?_)
            try rw [← ex_41] at hv
            exact W.iret hx hb hr (fun t ht hW => ⟨x_41, rfl, hv, ht⟩) (fun q h => by cases h) dJ6_numberOfTrailingZeros_0f7a4_79
          · rw [if_neg c_38] at hv
            have r_42 : rgI (5) (16) x_35 := rg_w (rg_ltR rl_4 r_37 (nle_lt c_38)) (by decide) (by decide)
            obtain ⟨x_43, ex_43⟩ : ∃ y : Int32, y = x_34 + 2 := ⟨_, rfl⟩
            try rw [← ex_43] at hv
            have rx_43 : rgI (11) (11) x_43 := by rw [ex_43]; exact rg_w (rg_add rx_34 rl_2 (by decide) (by decide)) (by decide) (by decide)
            have qx_43 : x_43.toInt = (x_34 : Int32).toInt + 2 := by rw [ex_43]; exact rg_addE rx_34 rl_2 (by decide) (by decide)
            refine lv_iinc (v := x_43) (lv' := [(1, .int x_43), (0, .int x_35)]) hx hb dJ6_numberOfTrailingZeros_0f7a4_67 hl (k := 1) rfl (by rw [ex_43]; rfl) (by decide) rfl (fun ls hl => ?_)
            refine lv_iload_n hx hb dJ6_numberOfTrailingZeros_0f7a4_70 rfl (lv_at hl 1 rfl) ?_
            refine lv_iconst (v := 2) hx hb dJ6_numberOfTrailingZeros_0f7a4_71 (by decide) ?_
            refine lv_iushr hx hb dJ6_numberOfTrailingZeros_0f7a4_72 rfl ?_
            refine lv_topi (fun x_44 ex_44 => ?_)
            try rw [← ex_44] at hv
            refine lv_istore_n (lv' := [(0, .int x_44), (1, .int x_43)]) hx hb dJ6_numberOfTrailingZeros_0f7a4_73 rfl hl (by decide) rfl (fun ls hl => ?_)
            refine lv_iload_n hx hb dJ6_numberOfTrailingZeros_0f7a4_74 rfl (lv_at hl 1 rfl) ?_
            refine lv_iload_n hx hb dJ6_numberOfTrailingZeros_0f7a4_75 rfl (lv_at hl 0 rfl) ?_
            refine lv_iconst (v := 1) hx hb dJ6_numberOfTrailingZeros_0f7a4_76 (by decide) ?_
            refine lv_iushr hx hb dJ6_numberOfTrailingZeros_0f7a4_77 rfl ?_
            refine lv_topi (fun x_45 ex_45 => ?_)
            try rw [← ex_45] at hv
            refine lv_iadd hx hb dJ6_numberOfTrailingZeros_0f7a4_78 ?_
            refine lv_topi (fun x_46 ex_46 => ?_)
            try rw [← ex_46] at hv
            exact W.iret hx hb hr (fun t ht hW => ⟨x_46, rfl, hv, ht⟩) (fun q h => by cases h) dJ6_numberOfTrailingZeros_0f7a4_79
        · rw [if_neg c_36] at hv
          have r_47 : rgI (17) (2147483647) x_35 := rg_w (rg_ltR rl_16 (rg_top x_35) (nle_lt c_36)) (by decide) (by decide)
          obtain ⟨x_48, ex_48⟩ : ∃ y : Int32, y = x_34 + 4 := ⟨_, rfl⟩
          try rw [← ex_48] at hv
          have rx_48 : rgI (13) (13) x_48 := by rw [ex_48]; exact rg_w (rg_add rx_34 rl_4 (by decide) (by decide)) (by decide) (by decide)
          have qx_48 : x_48.toInt = (x_34 : Int32).toInt + 4 := by rw [ex_48]; exact rg_addE rx_34 rl_4 (by decide) (by decide)
          refine lv_iinc (v := x_48) (lv' := [(1, .int x_48), (0, .int x_35)]) hx hb dJ6_numberOfTrailingZeros_0f7a4_55 hl (k := 1) rfl (by rw [ex_48]; rfl) (by decide) rfl (fun ls hl => ?_)
          refine lv_iload_n hx hb dJ6_numberOfTrailingZeros_0f7a4_58 rfl (lv_at hl 1 rfl) ?_
          refine lv_iconst (v := 4) hx hb dJ6_numberOfTrailingZeros_0f7a4_59 (by decide) ?_
          refine lv_iushr hx hb dJ6_numberOfTrailingZeros_0f7a4_60 rfl ?_
          refine lv_topi (fun x_49 ex_49 => ?_)
          try rw [← ex_49] at hv
          refine lv_istore_n (lv' := [(0, .int x_49), (1, .int x_48)]) hx hb dJ6_numberOfTrailingZeros_0f7a4_61 rfl hl (by decide) rfl (fun ls hl => ?_)
          refine lv_iload_n hx hb dJ6_numberOfTrailingZeros_0f7a4_62 rfl (lv_at hl 0 rfl) ?_
          refine lv_iconst (v := 4) hx hb dJ6_numberOfTrailingZeros_0f7a4_63 (by decide) ?_
          refine lv_icmp_le (tgt := 74) hx hb dJ6_numberOfTrailingZeros_0f7a4_64 (by decide) (fun c_50 => ?_) (fun c_50 => ?_)
          · rw [if_pos c_50] at hv
            have r_51 : rgI (-2147483648) (4) x_49 := rg_w (rg_leL (rg_top x_49) rl_4 c_50) (by decide) (by decide)
            refine lv_iload_n hx hb dJ6_numberOfTrailingZeros_0f7a4_74 rfl (lv_at hl 1 rfl) ?_
            refine lv_iload_n hx hb dJ6_numberOfTrailingZeros_0f7a4_75 rfl (lv_at hl 0 rfl) ?_
            refine lv_iconst (v := 1) hx hb dJ6_numberOfTrailingZeros_0f7a4_76 (by decide) ?_
            refine lv_iushr hx hb dJ6_numberOfTrailingZeros_0f7a4_77 rfl ?_
            refine lv_topi (fun x_52 ex_52 => ?_)
            try rw [← ex_52] at hv
            refine lv_iadd hx hb dJ6_numberOfTrailingZeros_0f7a4_78 ?_
            refine lv_topi (fun x_53 ex_53 => ?_)
            try rw [← ex_53] at hv
            exact W.iret hx hb hr (fun t ht hW => ⟨x_53, rfl, hv, ht⟩) (fun q h => by cases h) dJ6_numberOfTrailingZeros_0f7a4_79
          · rw [if_neg c_50] at hv
            have r_54 : rgI (5) (2147483647) x_49 := rg_w (rg_ltR rl_4 (rg_top x_49) (nle_lt c_50)) (by decide) (by decide)
            obtain ⟨x_55, ex_55⟩ : ∃ y : Int32, y = x_48 + 2 := ⟨_, rfl⟩
            try rw [← ex_55] at hv
            have rx_55 : rgI (15) (15) x_55 := by rw [ex_55]; exact rg_w (rg_add rx_48 rl_2 (by decide) (by decide)) (by decide) (by decide)
            have qx_55 : x_55.toInt = (x_48 : Int32).toInt + 2 := by rw [ex_55]; exact rg_addE rx_48 rl_2 (by decide) (by decide)
            refine lv_iinc (v := x_55) (lv' := [(1, .int x_55), (0, .int x_49)]) hx hb dJ6_numberOfTrailingZeros_0f7a4_67 hl (k := 1) rfl (by rw [ex_55]; rfl) (by decide) rfl (fun ls hl => ?_)
            refine lv_iload_n hx hb dJ6_numberOfTrailingZeros_0f7a4_70 rfl (lv_at hl 1 rfl) ?_
            refine lv_iconst (v := 2) hx hb dJ6_numberOfTrailingZeros_0f7a4_71 (by decide) ?_
            refine lv_iushr hx hb dJ6_numberOfTrailingZeros_0f7a4_72 rfl ?_
            refine lv_topi (fun x_56 ex_56 => ?_)
            try rw [← ex_56] at hv
            refine lv_istore_n (lv' := [(0, .int x_56), (1, .int x_55)]) hx hb dJ6_numberOfTrailingZeros_0f7a4_73 rfl hl (by decide) rfl (fun ls hl => ?_)
            refine lv_iload_n hx hb dJ6_numberOfTrailingZeros_0f7a4_74 rfl (lv_at hl 1 rfl) ?_
            refine lv_iload_n hx hb dJ6_numberOfTrailingZeros_0f7a4_75 rfl (lv_at hl 0 rfl) ?_
            refine lv_iconst (v := 1) hx hb dJ6_numberOfTrailingZeros_0f7a4_76 (by decide) ?_
            refine lv_iushr hx hb dJ6_numberOfTrailingZeros_0f7a4_77 rfl ?_
            refine lv_topi (fun x_57 ex_57 => ?_)
            try rw [← ex_57] at hv
            refine lv_iadd hx hb dJ6_numberOfTrailingZeros_0f7a4_78 ?_
            refine lv_topi (fun x_58 ex_58 => ?_)
            try rw [← ex_58] at hv
            exact W.iret hx hb hr (fun t ht hW => ⟨x_58, rfl, hv, ht⟩) (fun q h => by cases h) dJ6_numberOfTrailingZeros_0f7a4_79
    · rw [if_neg c_6] at hv
      have r_59 : rgI (65537) (2147483647) x_3 := rg_w (rg_ltR rl_65536 r_5 (nle_lt c_6)) (by decide) (by decide)
      obtain ⟨x_60, ex_60⟩ : ∃ y : Int32, y = 1 + 16 := ⟨_, rfl⟩
      try rw [← ex_60] at hv
      have rx_60 : rgI (17) (17) x_60 := by rw [ex_60]; exact rg_w (rg_add rl_1 rl_16 (by decide) (by decide)) (by decide) (by decide)
      have qx_60 : x_60.toInt = (1 : Int32).toInt + 16 := by rw [ex_60]; exact rg_addE rl_1 rl_16 (by decide) (by decide)
      refine lv_iinc (v := x_60) (lv' := [(1, .int x_60), (0, .int x_3)]) hx hb dJ6_numberOfTrailingZeros_0f7a4_26 hl (k := 0) rfl (by rw [ex_60]; rfl) (by decide) rfl (fun ls hl => ?_)
      refine lv_iload_n hx hb dJ6_numberOfTrailingZeros_0f7a4_29 rfl (lv_at hl 1 rfl) ?_
      refine lv_bipush (v := 16) hx hb dJ6_numberOfTrailingZeros_0f7a4_30 (by decide) ?_
      refine lv_iushr hx hb dJ6_numberOfTrailingZeros_0f7a4_32 rfl ?_
      refine lv_topi (fun x_61 ex_61 => ?_)
      try rw [← ex_61] at hv
      refine lv_istore_n (lv' := [(0, .int x_61), (1, .int x_60)]) hx hb dJ6_numberOfTrailingZeros_0f7a4_33 rfl hl (by decide) rfl (fun ls hl => ?_)
      refine lv_iload_n hx hb dJ6_numberOfTrailingZeros_0f7a4_34 rfl (lv_at hl 0 rfl) ?_
      refine lv_sipush (v := 256) hx hb dJ6_numberOfTrailingZeros_0f7a4_35 (by decide) ?_
      refine lv_icmp_le (tgt := 49) hx hb dJ6_numberOfTrailingZeros_0f7a4_38 (by decide) (fun c_62 => ?_) (fun c_62 => ?_)
      · rw [if_pos c_62] at hv
        have r_63 : rgI (-2147483648) (256) x_61 := rg_w (rg_leL (rg_top x_61) rl_256 c_62) (by decide) (by decide)
        refine lv_iload_n hx hb dJ6_numberOfTrailingZeros_0f7a4_49 rfl (lv_at hl 0 rfl) ?_
        refine lv_bipush (v := 16) hx hb dJ6_numberOfTrailingZeros_0f7a4_50 (by decide) ?_
        refine lv_icmp_le (tgt := 62) hx hb dJ6_numberOfTrailingZeros_0f7a4_52 (by decide) (fun c_64 => ?_) (fun c_64 => ?_)
        · rw [if_pos c_64] at hv
          have r_65 : rgI (-2147483648) (16) x_61 := rg_w (rg_leL r_63 rl_16 c_64) (by decide) (by decide)
          refine lv_iload_n hx hb dJ6_numberOfTrailingZeros_0f7a4_62 rfl (lv_at hl 0 rfl) ?_
          refine lv_iconst (v := 4) hx hb dJ6_numberOfTrailingZeros_0f7a4_63 (by decide) ?_
          refine lv_icmp_le (tgt := 74) hx hb dJ6_numberOfTrailingZeros_0f7a4_64 (by decide) (fun c_66 => ?_) (fun c_66 => ?_)
          · rw [if_pos c_66] at hv
            have r_67 : rgI (-2147483648) (4) x_61 := rg_w (rg_leL r_65 rl_4 c_66) (by decide) (by decide)
            refine lv_iload_n hx hb dJ6_numberOfTrailingZeros_0f7a4_74 rfl (lv_at hl 1 rfl) ?_
            refine lv_iload_n hx hb dJ6_numberOfTrailingZeros_0f7a4_75 rfl (lv_at hl 0 rfl) ?_
            refine lv_iconst (v := 1) hx hb dJ6_numberOfTrailingZeros_0f7a4_76 (by decide) ?_
            refine lv_iushr hx hb dJ6_numberOfTrailingZeros_0f7a4_77 rfl ?_
            refine lv_topi (fun x_68 ex_68 => ?_)
            try rw [← ex_68] at hv
            refine lv_iadd hx hb dJ6_numberOfTrailingZeros_0f7a4_78 ?_
            refine lv_topi (fun x_69 ex_69 => ?_)
            try rw [← ex_69] at hv
            exact W.iret hx hb hr (fun t ht hW => ⟨x_69, rfl, hv, ht⟩) (fun q h => by cases h) dJ6_numberOfTrailingZeros_0f7a4_79
          · rw [if_neg c_66] at hv
            have r_70 : rgI (5) (16) x_61 := rg_w (rg_ltR rl_4 r_65 (nle_lt c_66)) (by decide) (by decide)
            obtain ⟨x_71, ex_71⟩ : ∃ y : Int32, y = x_60 + 2 := ⟨_, rfl⟩
            try rw [← ex_71] at hv
            have rx_71 : rgI (19) (19) x_71 := by rw [ex_71]; exact rg_w (rg_add rx_60 rl_2 (by decide) (by decide)) (by decide) (by decide)
            have qx_71 : x_71.toInt = (x_60 : Int32).toInt + 2 := by rw [ex_71]; exact rg_addE rx_60 rl_2 (by decide) (by decide)
            refine lv_iinc (v := x_71) (lv' := [(1, .int x_71), (0, .int x_61)]) hx hb dJ6_numberOfTrailingZeros_0f7a4_67 hl (k := 1) rfl (by rw [ex_71]; rfl) (by decide) rfl (fun ls hl => ?_)
            refine lv_iload_n hx hb dJ6_numberOfTrailingZeros_0f7a4_70 rfl (lv_at hl 1 rfl) ?_
            refine lv_iconst (v := 2) hx hb dJ6_numberOfTrailingZeros_0f7a4_71 (by decide) ?_
            refine lv_iushr hx hb dJ6_numberOfTrailingZeros_0f7a4_72 rfl ?_
            refine lv_topi (fun x_72 ex_72 => ?_)
            try rw [← ex_72] at hv
            refine lv_istore_n (lv' := [(0, .int x_72), (1, .int x_71)]) hx hb dJ6_numberOfTrailingZeros_0f7a4_73 rfl hl (by decide) rfl (fun ls hl => ?_)
            refine lv_iload_n hx hb dJ6_numberOfTrailingZeros_0f7a4_74 rfl (lv_at hl 1 rfl) ?_
            refine lv_iload_n hx hb dJ6_numberOfTrailingZeros_0f7a4_75 rfl (lv_at hl 0 rfl) ?_
            refine lv_iconst (v := 1) hx hb dJ6_numberOfTrailingZeros_0f7a4_76 (by decide) ?_
            refine lv_iushr hx hb dJ6_numberOfTrailingZeros_0f7a4_77 rfl ?_
            refine lv_topi (fun x_73 ex_73 => ?_)
            try rw [← ex_73] at hv
            refine lv_iadd hx hb dJ6_numberOfTrailingZeros_0f7a4_78 ?_
            refine lv_topi (fun x_74 ex_74 => ?_)
            try rw [← ex_74] at hv
            exact W.iret hx hb hr (fun t ht hW => ⟨x_74, rfl, hv, ht⟩) (fun q h => by cases h) dJ6_numberOfTrailingZeros_0f7a4_79
        · rw [if_neg c_64] at hv
          have r_75 : rgI (17) (256) x_61 := rg_w (rg_ltR rl_16 r_63 (nle_lt c_64)) (by decide) (by decide)
          obtain ⟨x_76, ex_76⟩ : ∃ y : Int32, y = x_60 + 4 := ⟨_, rfl⟩
          try rw [← ex_76] at hv
          have rx_76 : rgI (21) (21) x_76 := by rw [ex_76]; exact rg_w (rg_add rx_60 rl_4 (by decide) (by decide)) (by decide) (by decide)
          have qx_76 : x_76.toInt = (x_60 : Int32).toInt + 4 := by rw [ex_76]; exact rg_addE rx_60 rl_4 (by decide) (by decide)
          refine lv_iinc (v := x_76) (lv' := [(1, .int x_76), (0, .int x_61)]) hx hb dJ6_numberOfTrailingZeros_0f7a4_55 hl (k := 1) rfl (by rw [ex_76]; rfl) (by decide) rfl (fun ls hl => ?_)
          refine lv_iload_n hx hb dJ6_numberOfTrailingZeros_0f7a4_58 rfl (lv_at hl 1 rfl) ?_
          refine lv_iconst (v := 4) hx hb dJ6_numberOfTrailingZeros_0f7a4_59 (by decide) ?_
          refine lv_iushr hx hb dJ6_numberOfTrailingZeros_0f7a4_60 rfl ?_
          refine lv_topi (fun x_77 ex_77 => ?_)
          try rw [← ex_77] at hv
          refine lv_istore_n (lv' := [(0, .int x_77), (1, .int x_76)]) hx hb dJ6_numberOfTrailingZeros_0f7a4_61 rfl hl (by decide) rfl (fun ls hl => ?_)
          refine lv_iload_n hx hb dJ6_numberOfTrailingZeros_0f7a4_62 rfl (lv_at hl 0 rfl) ?_
          refine lv_iconst (v := 4) hx hb dJ6_numberOfTrailingZeros_0f7a4_63 (by decide) ?_
          refine lv_icmp_le (tgt := 74) hx hb dJ6_numberOfTrailingZeros_0f7a4_64 (by decide) (fun c_78 => ?_) (fun c_78 => ?_)
          · rw [if_pos c_78] at hv
            have r_79 : rgI (-2147483648) (4) x_77 := rg_w (rg_leL (rg_top x_77) rl_4 c_78) (by decide) (by decide)
            refine lv_iload_n hx hb dJ6_numberOfTrailingZeros_0f7a4_74 rfl (lv_at hl 1 rfl) ?_
            refine lv_iload_n hx hb dJ6_numberOfTrailingZeros_0f7a4_75 rfl (lv_at hl 0 rfl) ?_
            refine lv_iconst (v := 1) hx hb dJ6_numberOfTrailingZeros_0f7a4_76 (by decide) ?_
            refine lv_iushr hx hb dJ6_numberOfTrailingZeros_0f7a4_77 rfl ?_
            refine lv_topi (fun x_80 ex_80 => ?_)
            try rw [← ex_80] at hv
            refine lv_iadd hx hb dJ6_numberOfTrailingZeros_0f7a4_78 ?_
            refine lv_topi (fun x_81 ex_81 => ?_)
            try rw [← ex_81] at hv
            exact W.iret hx hb hr (fun t ht hW => ⟨x_81, rfl, hv, ht⟩) (fun q h => by cases h) dJ6_numberOfTrailingZeros_0f7a4_79
          · rw [if_neg c_78] at hv
            have r_82 : rgI (5) (2147483647) x_77 := rg_w (rg_ltR rl_4 (rg_top x_77) (nle_lt c_78)) (by decide) (by decide)
            obtain ⟨x_83, ex_83⟩ : ∃ y : Int32, y = x_76 + 2 := ⟨_, rfl⟩
            try rw [← ex_83] at hv
            have rx_83 : rgI (23) (23) x_83 := by rw [ex_83]; exact rg_w (rg_add rx_76 rl_2 (by decide) (by decide)) (by decide) (by decide)
            have qx_83 : x_83.toInt = (x_76 : Int32).toInt + 2 := by rw [ex_83]; exact rg_addE rx_76 rl_2 (by decide) (by decide)
            refine lv_iinc (v := x_83) (lv' := [(1, .int x_83), (0, .int x_77)]) hx hb dJ6_numberOfTrailingZeros_0f7a4_67 hl (k := 1) rfl (by rw [ex_83]; rfl) (by decide) rfl (fun ls hl => ?_)
            refine lv_iload_n hx hb dJ6_numberOfTrailingZeros_0f7a4_70 rfl (lv_at hl 1 rfl) ?_
            refine lv_iconst (v := 2) hx hb dJ6_numberOfTrailingZeros_0f7a4_71 (by decide) ?_
            refine lv_iushr hx hb dJ6_numberOfTrailingZeros_0f7a4_72 rfl ?_
            refine lv_topi (fun x_84 ex_84 => ?_)
            try rw [← ex_84] at hv
            refine lv_istore_n (lv' := [(0, .int x_84), (1, .int x_83)]) hx hb dJ6_numberOfTrailingZeros_0f7a4_73 rfl hl (by decide) rfl (fun ls hl => ?_)
            refine lv_iload_n hx hb dJ6_numberOfTrailingZeros_0f7a4_74 rfl (lv_at hl 1 rfl) ?_
            refine lv_iload_n hx hb dJ6_numberOfTrailingZeros_0f7a4_75 rfl (lv_at hl 0 rfl) ?_
            refine lv_iconst (v := 1) hx hb dJ6_numberOfTrailingZeros_0f7a4_76 (by decide) ?_
            refine lv_iushr hx hb dJ6_numberOfTrailingZeros_0f7a4_77 rfl ?_
            refine lv_topi (fun x_85 ex_85 => ?_)
            try rw [← ex_85] at hv
            refine lv_iadd hx hb dJ6_numberOfTrailingZeros_0f7a4_78 ?_
            refine lv_topi (fun x_86 ex_86 => ?_)
            try rw [← ex_86] at hv
            exact W.iret hx hb hr (fun t ht hW => ⟨x_86, rfl, hv, ht⟩) (fun q h => by cases h) dJ6_numberOfTrailingZeros_0f7a4_79
      · rw [if_neg c_62] at hv
        have r_87 : rgI (257) (2147483647) x_61 := rg_w (rg_ltR rl_256 (rg_top x_61) (nle_lt c_62)) (by decide) (by decide)
        obtain ⟨x_88, ex_88⟩ : ∃ y : Int32, y = x_60 + 8 := ⟨_, rfl⟩
        try rw [← ex_88] at hv
        have rx_88 : rgI (25) (25) x_88 := by rw [ex_88]; exact rg_w (rg_add rx_60 rl_8 (by decide) (by decide)) (by decide) (by decide)
        have qx_88 : x_88.toInt = (x_60 : Int32).toInt + 8 := by rw [ex_88]; exact rg_addE rx_60 rl_8 (by decide) (by decide)
        refine lv_iinc (v := x_88) (lv' := [(1, .int x_88), (0, .int x_61)]) hx hb dJ6_numberOfTrailingZeros_0f7a4_41 hl (k := 1) rfl (by rw [ex_88]; rfl) (by decide) rfl (fun ls hl => ?_)
        refine lv_iload_n hx hb dJ6_numberOfTrailingZeros_0f7a4_44 rfl (lv_at hl 1 rfl) ?_
        refine lv_bipush (v := 8) hx hb dJ6_numberOfTrailingZeros_0f7a4_45 (by decide) ?_
        refine lv_iushr hx hb dJ6_numberOfTrailingZeros_0f7a4_47 rfl ?_
        refine lv_topi (fun x_89 ex_89 => ?_)
        try rw [← ex_89] at hv
        refine lv_istore_n (lv' := [(0, .int x_89), (1, .int x_88)]) hx hb dJ6_numberOfTrailingZeros_0f7a4_48 rfl hl (by decide) rfl (fun ls hl => ?_)
        refine lv_iload_n hx hb dJ6_numberOfTrailingZeros_0f7a4_49 rfl (lv_at hl 0 rfl) ?_
        refine lv_bipush (v := 16) hx hb dJ6_numberOfTrailingZeros_0f7a4_50 (by decide) ?_
        refine lv_icmp_le (tgt := 62) hx hb dJ6_numberOfTrailingZeros_0f7a4_52 (by decide) (fun c_90 => ?_) (fun c_90 => ?_)
        · rw [if_pos c_90] at hv
          have r_91 : rgI (-2147483648) (16) x_89 := rg_w (rg_leL (rg_top x_89) rl_16 c_90) (by decide) (by decide)
          refine lv_iload_n hx hb dJ6_numberOfTrailingZeros_0f7a4_62 rfl (lv_at hl 0 rfl) ?_
          refine lv_iconst (v := 4) hx hb dJ6_numberOfTrailingZeros_0f7a4_63 (by decide) ?_
          refine lv_icmp_le (tgt := 74) hx hb dJ6_numberOfTrailingZeros_0f7a4_64 (by decide) (fun c_92 => ?_) (fun c_92 => ?_)
          · rw [if_pos c_92] at hv
            have r_93 : rgI (-2147483648) (4) x_89 := rg_w (rg_leL r_91 rl_4 c_92) (by decide) (by decide)
            refine lv_iload_n hx hb dJ6_numberOfTrailingZeros_0f7a4_74 rfl (lv_at hl 1 rfl) ?_
            refine lv_iload_n hx hb dJ6_numberOfTrailingZeros_0f7a4_75 rfl (lv_at hl 0 rfl) ?_
            refine lv_iconst (v := 1) hx hb dJ6_numberOfTrailingZeros_0f7a4_76 (by decide) ?_
            refine lv_iushr hx hb dJ6_numberOfTrailingZeros_0f7a4_77 rfl ?_
            refine lv_topi (fun x_94 ex_94 => ?_)
            try rw [← ex_94] at hv
            refine lv_iadd hx hb dJ6_numberOfTrailingZeros_0f7a4_78 ?_
            refine lv_topi (fun x_95 ex_95 => ?_)
            try rw [← ex_95] at hv
            exact W.iret hx hb hr (fun t ht hW => ⟨x_95, rfl, hv, ht⟩) (fun q h => by cases h) dJ6_numberOfTrailingZeros_0f7a4_79
          · rw [if_neg c_92] at hv
            have r_96 : rgI (5) (16) x_89 := rg_w (rg_ltR rl_4 r_91 (nle_lt c_92)) (by decide) (by decide)
            obtain ⟨x_97, ex_97⟩ : ∃ y : Int32, y = x_88 + 2 := ⟨_, rfl⟩
            try rw [← ex_97] at hv
            have rx_97 : rgI (27) (27) x_97 := by rw [ex_97]; exact rg_w (rg_add rx_88 rl_2 (by decide) (by decide)) (by decide) (by decide)
            have qx_97 : x_97.toInt = (x_88 : Int32).toInt + 2 := by rw [ex_97]; exact rg_addE rx_88 rl_2 (by decide) (by decide)
            refine lv_iinc (v := x_97) (lv' := [(1, .int x_97), (0, .int x_89)]) hx hb dJ6_numberOfTrailingZeros_0f7a4_67 hl (k := 1) rfl (by rw [ex_97]; rfl) (by decide) rfl (fun ls hl => ?_)
            refine lv_iload_n hx hb dJ6_numberOfTrailingZeros_0f7a4_70 rfl (lv_at hl 1 rfl) ?_
            refine lv_iconst (v := 2) hx hb dJ6_numberOfTrailingZeros_0f7a4_71 (by decide) ?_
            refine lv_iushr hx hb dJ6_numberOfTrailingZeros_0f7a4_72 rfl ?_
            refine lv_topi (fun x_98 ex_98 => ?_)
            try rw [← ex_98] at hv
            refine lv_istore_n (lv' := [(0, .int x_98), (1, .int x_97)]) hx hb dJ6_numberOfTrailingZeros_0f7a4_73 rfl hl (by decide) rfl (fun ls hl => ?_)
            refine lv_iload_n hx hb dJ6_numberOfTrailingZeros_0f7a4_74 rfl (lv_at hl 1 rfl) ?_
            refine lv_iload_n hx hb dJ6_numberOfTrailingZeros_0f7a4_75 rfl (lv_at hl 0 rfl) ?_
            refine lv_iconst (v := 1) hx hb dJ6_numberOfTrailingZeros_0f7a4_76 (by decide) ?_
            refine lv_iushr hx hb dJ6_numberOfTrailingZeros_0f7a4_77 rfl ?_
            refine lv_topi (fun x_99 ex_99 => ?_)
            try rw [← ex_99] at hv
            refine lv_iadd hx hb dJ6_numberOfTrailingZeros_0f7a4_78 ?_
            refine lv_topi (fun x_100 ex_100 => ?_)
            try rw [← ex_100] at hv
            exact W.iret hx hb hr (fun t ht hW => ⟨x_100, rfl, hv, ht⟩) (fun q h => by cases h) dJ6_numberOfTrailingZeros_0f7a4_79
        · rw [if_neg c_90] at hv
          have r_101 : rgI (17) (2147483647) x_89 := rg_w (rg_ltR rl_16 (rg_top x_89) (nle_lt c_90)) (by decide) (by decide)
          obtain ⟨x_102, ex_102⟩ : ∃ y : Int32, y = x_88 + 4 := ⟨_, rfl⟩
          try rw [← ex_102] at hv
          have rx_102 : rgI (29) (29) x_102 := by rw [ex_102]; exact rg_w (rg_add rx_88 rl_4 (by decide) (by decide)) (by decide) (by decide)
          have qx_102 : x_102.toInt = (x_88 : Int32).toInt + 4 := by rw [ex_102]; exact rg_addE rx_88 rl_4 (by decide) (by decide)
          refine lv_iinc (v := x_102) (lv' := [(1, .int x_102), (0, .int x_89)]) hx hb dJ6_numberOfTrailingZeros_0f7a4_55 hl (k := 1) rfl (by rw [ex_102]; rfl) (by decide) rfl (fun ls hl => ?_)
          refine lv_iload_n hx hb dJ6_numberOfTrailingZeros_0f7a4_58 rfl (lv_at hl 1 rfl) ?_
          refine lv_iconst (v := 4) hx hb dJ6_numberOfTrailingZeros_0f7a4_59 (by decide) ?_
          refine lv_iushr hx hb dJ6_numberOfTrailingZeros_0f7a4_60 rfl ?_
          refine lv_topi (fun x_103 ex_103 => ?_)
          try rw [← ex_103] at hv
          refine lv_istore_n (lv' := [(0, .int x_103), (1, .int x_102)]) hx hb dJ6_numberOfTrailingZeros_0f7a4_61 rfl hl (by decide) rfl (fun ls hl => ?_)
          refine lv_iload_n hx hb dJ6_numberOfTrailingZeros_0f7a4_62 rfl (lv_at hl 0 rfl) ?_
          refine lv_iconst (v := 4) hx hb dJ6_numberOfTrailingZeros_0f7a4_63 (by decide) ?_
          refine lv_icmp_le (tgt := 74) hx hb dJ6_numberOfTrailingZeros_0f7a4_64 (by decide) (fun c_104 => ?_) (fun c_104 => ?_)
          · rw [if_pos c_104] at hv
            have r_105 : rgI (-2147483648) (4) x_103 := rg_w (rg_leL (rg_top x_103) rl_4 c_104) (by decide) (by decide)
            refine lv_iload_n hx hb dJ6_numberOfTrailingZeros_0f7a4_74 rfl (lv_at hl 1 rfl) ?_
            refine lv_iload_n hx hb dJ6_numberOfTrailingZeros_0f7a4_75 rfl (lv_at hl 0 rfl) ?_
            refine lv_iconst (v := 1) hx hb dJ6_numberOfTrailingZeros_0f7a4_76 (by decide) ?_
            refine lv_iushr hx hb dJ6_numberOfTrailingZeros_0f7a4_77 rfl ?_
            refine lv_topi (fun x_106 ex_106 => ?_)
            try rw [← ex_106] at hv
            refine lv_iadd hx hb dJ6_numberOfTrailingZeros_0f7a4_78 ?_
            refine lv_topi (fun x_107 ex_107 => ?_)
            try rw [← ex_107] at hv
            exact W.iret hx hb hr (fun t ht hW => ⟨x_107, rfl, hv, ht⟩) (fun q h => by cases h) dJ6_numberOfTrailingZeros_0f7a4_79
          · rw [if_neg c_104] at hv
            have r_108 : rgI (5) (2147483647) x_103 := rg_w (rg_ltR rl_4 (rg_top x_103) (nle_lt c_104)) (by decide) (by decide)
            obtain ⟨x_109, ex_109⟩ : ∃ y : Int32, y = x_102 + 2 := ⟨_, rfl⟩
            try rw [← ex_109] at hv
            have rx_109 : rgI (31) (31) x_109 := by rw [ex_109]; exact rg_w (rg_add rx_102 rl_2 (by decide) (by decide)) (by decide) (by decide)
            have qx_109 : x_109.toInt = (x_102 : Int32).toInt + 2 := by rw [ex_109]; exact rg_addE rx_102 rl_2 (by decide) (by decide)
            refine lv_iinc (v := x_109) (lv' := [(1, .int x_109), (0, .int x_103)]) hx hb dJ6_numberOfTrailingZeros_0f7a4_67 hl (k := 1) rfl (by rw [ex_109]; rfl) (by decide) rfl (fun ls hl => ?_)
            refine lv_iload_n hx hb dJ6_numberOfTrailingZeros_0f7a4_70 rfl (lv_at hl 1 rfl) ?_
            refine lv_iconst (v := 2) hx hb dJ6_numberOfTrailingZeros_0f7a4_71 (by decide) ?_
            refine lv_iushr hx hb dJ6_numberOfTrailingZeros_0f7a4_72 rfl ?_
            refine lv_topi (fun x_110 ex_110 => ?_)
            try rw [← ex_110] at hv
            refine lv_istore_n (lv' := [(0, .int x_110), (1, .int x_109)]) hx hb dJ6_numberOfTrailingZeros_0f7a4_73 rfl hl (by decide) rfl (fun ls hl => ?_)
            refine lv_iload_n hx hb dJ6_numberOfTrailingZeros_0f7a4_74 rfl (lv_at hl 1 rfl) ?_
            refine lv_iload_n hx hb dJ6_numberOfTrailingZeros_0f7a4_75 rfl (lv_at hl 0 rfl) ?_
            refine lv_iconst (v := 1) hx hb dJ6_numberOfTrailingZeros_0f7a4_76 (by decide) ?_
            refine lv_iushr hx hb dJ6_numberOfTrailingZeros_0f7a4_77 rfl ?_
            refine lv_topi (fun x_111 ex_111 => ?_)
            try rw [← ex_111] at hv
            refine lv_iadd hx hb dJ6_numberOfTrailingZeros_0f7a4_78 ?_
            refine lv_topi (fun x_112 ex_112 => ?_)
            try rw [← ex_112] at hv
            exact W.iret hx hb hr (fun t ht hW => ⟨x_112, rfl, hv, ht⟩) (fun q h => by cases h) dJ6_numberOfTrailingZeros_0f7a4_79
  · rw [if_neg c_4] at hv
    have r_113 : rgI (-2147483648) (0) x_3 := rg_w (rg_leL (rg_top x_3) rl_0 (nlt_le c_4)) (by decide) (by decide)
    refine lv_iload_n hx hb dJ6_numberOfTrailingZeros_0f7a4_12 rfl (lv_at hl 0 rfl) ?_
    refine lv_bipush (v := 32) hx hb dJ6_numberOfTrailingZeros_0f7a4_13 (by decide) ?_
    refine lv_iand hx hb dJ6_numberOfTrailingZeros_0f7a4_15 ?_
    refine lv_topi (fun x_114 ex_114 => ?_)
    try rw [← ex_114] at hv
    exact W.iret hx hb hr (fun t ht hW => ⟨x_114, rfl, hv, ht⟩) (fun q h => by cases h) dJ6_numberOfTrailingZeros_0f7a4_16

set_option maxHeartbeats 4000000 in
set_option maxRecDepth 100000 in
theorem c_X12_isLeast (l : Launch) (g : Gx) (Ty : TyM) (G : Gh) (b0 : Nat) (a1 : Int32) (k_b0 : Ty b0 = some (30, 122)) (pr1 : rgI (0) (23) a1) : Met l yX12_isLeast (wsG yX12_isLeast cX12_isLeast 3 (some .boolean)) ({ frames := 3, cells := 0, slots := 0, locals := 66 }) (PcH g Ty G [.ref b0, .int a1]) (vp_Si (fun r => rgI (0) (1) r)) 0 0 (fun _ => False) := by
  refine Met.ofW (cc := cX12_isLeast) (maxL := 3) (ret := (some .boolean)) (by decide) rfl ?_
  intro p e s m args below meth c s₁ B hml hv
  obtain ⟨rfl, hK, hH⟩ := hv
  have hx := B.exec
  have hb := B.bytes
  have hr := B.returns
  have hts := atoms_spec (ws := (wsG yX12_isLeast cX12_isLeast 3 (some .boolean))) B.pre
  have hG : ∀ w ∈ GW, w.before ([.ref b0, .int a1] : List Value).toArray s = true := fun w h => hts w (List.mem_cons_of_mem _ h)
  have hown : s.vm.findClass RX12 = some m.cls := findClass_of_methodNamed B.named
  have hlocks := B.notSynchronized
  have hl := lv_entry [.ref b0, .int a1] (n := 3) (Nat.le_of_ble_eq_true rfl)
  rw [lg_entry_eq]
  generalize (lg_sl [.ref b0, .int a1] ++ List.replicate (3 - (lg_sl [.ref b0, .int a1]).length) Slot.unset).toArray = ls at hl ⊢
  have hl : lv_has ls 3 [(0, .ref b0), (1, .int a1)] := hl
  refine lv_aload_n hx hb dX12_isLeast_0 rfl (lv_at hl 0 rfl) ?_
  refine lv_bipush (v := 48) hx hb dX12_isLeast_1 (by decide) ?_
  refine lv_iload_n hx hb dX12_isLeast_3 rfl (lv_at hl 1 rfl) ?_
  refine lv_iadd hx hb dX12_isLeast_4 ?_
  refine lv_topi (fun x_1 ex_1 => ?_)
  have rx_1 : rgI (48) (71) x_1 := by rw [ex_1]; exact rg_w (rg_add rl_48 pr1 (by decide) (by decide)) (by decide) (by decide)
  obtain ⟨_, rfl, o_c_2⟩ := hH b0 _ k_b0
  have o_c_2 : va_at g.1 vwCl (b0, .inl (g.2.1 1, 122, .inl (G.2.1 b0))) s.heap := o_c_2
  refine hg_iald hx hb hK o_c_2 (rg_in (n := 122) rx_1 (by decide) (by decide)) dX12_isLeast_5 ?_
  refine lv_topi (fun x_3 ex_3 => ?_)
  refine lv_istore_n (lv' := [(2, .int x_3), (0, .ref b0), (1, .int a1)]) hx hb dX12_isLeast_6 rfl hl (by decide) rfl (fun ls hl => ?_)
  refine lv_aload_n hx hb dX12_isLeast_7 rfl (lv_at hl 1 rfl) ?_
  refine lv_iload_n hx hb dX12_isLeast_8 rfl (lv_at hl 2 rfl) ?_
  refine vp_callSi (W.runS (As := [.ref b0, .int a1]) (rest := []) ⟨hx, hb, hml, hown, hts⟩ (c_X12_isThere l g Ty G b0 a1 k_b0) (cwSx 2 hts hG (gwC mw_1520) mw_88 mw_1518 mw_1519 rfl rfl rfl hd_X12_isThere ⟨Nat.le_of_ble_eq_true rfl, Nat.le_of_ble_eq_true rfl⟩) ⟨PcH_blind, PcH_pre hK hH⟩ rfl rfl hl.1 rfl (lv_room (Nat.le_of_ble_eq_true rfl)) dX12_isLeast_9 ⟨Nat.zero_le _, Nat.zero_le _⟩) (fun x_4 hx_4 => ?_)
  have rx_4 : rgI (0) (1) x_4 := hx_4.1
  refine lv_if_eq (tgt := 35) hx hb dX12_isLeast_12 (by decide) (fun c_5 => ?_) (fun c_5 => ?_)
  · have r_6 : rgI (0) (0) x_4 := rg_w (rg_eq rl_0 c_5) (by decide) (by decide)
    refine lv_iconst (v := 0) hx hb dX12_isLeast_35 (by decide) ?_
    exact W.zret hx hb hr rfl (fun t ht hW => ⟨0, rfl, rg_w rl_0 (by decide) (by decide), ht⟩) (fun q h => by cases h) dX12_isLeast_36
  · have th_7 : thr (G.2.1 b0) a1 := F_isThere_thr (by rw [← hx_4.2.2]; exact c_5)
    have r_8 : rgI (1) (1) x_4 := rg_w (rg_neL rx_4 rl_0 c_5) (by decide) (by decide)
    refine lv_iload_n hx hb dX12_isLeast_15 rfl (lv_at hl 0 rfl) ?_
    refine lv_if_eq (tgt := 35) hx hb dX12_isLeast_16 (by decide) (fun c_9 => ?_) (fun c_9 => ?_)
    · have r_10 : rgI (0) (0) x_3 := rg_w (rg_eq rl_0 c_9) (by decide) (by decide)
      refine lv_iconst (v := 0) hx hb dX12_isLeast_35 (by decide) ?_
      exact W.zret hx hb hr rfl (fun t ht hW => ⟨0, rfl, rg_w rl_0 (by decide) (by decide), ht⟩) (fun q h => by cases h) dX12_isLeast_36
    · refine lv_aload_n hx hb dX12_isLeast_19 rfl (lv_at hl 1 rfl) ?_
      refine lv_iload_n hx hb dX12_isLeast_20 rfl (lv_at hl 0 rfl) ?_
      refine vp_callSi (W.runS (As := [.ref b0, .int x_3]) (rest := []) ⟨hx, hb, hml, hown, hts⟩ (c_X12_inGroup l g Ty G b0 x_3 k_b0) (cwSx 2 hts hG (gwC mw_1566) mw_88 mw_1564 mw_1565 rfl rfl rfl hd_X12_inGroup ⟨Nat.le_of_ble_eq_true rfl, Nat.le_of_ble_eq_true rfl⟩) ⟨PcH_blind, PcH_pre hK hH⟩ rfl rfl hl.1 rfl (lv_room (Nat.le_of_ble_eq_true rfl)) dX12_isLeast_21 ⟨Nat.zero_le _, Nat.zero_le _⟩) (fun x_11 hx_11 => ?_)
      refine vp_callSi (W.runS (As := [.int x_11]) (rest := []) ⟨hx, hb, hml, hown, hts⟩ (c_J6_ntz_x l g Ty G x_11 ) (cwSx 1 hts hG (gwC mw_1718) mw_99 mw_1716 mw_1717 rfl rfl rfl hd_J6_numberOfTrailingZeros_0f7a4 ⟨Nat.le_of_ble_eq_true rfl, Nat.le_of_ble_eq_true rfl⟩) ⟨PcH_blind, PcH_pre hK hH⟩ rfl rfl hl.1 rfl (lv_room (Nat.le_of_ble_eq_true rfl)) dX12_isLeast_24 ⟨Nat.zero_le _, Nat.zero_le _⟩) (fun x_12 hx_12 => ?_)
      refine lv_iload_n hx hb dX12_isLeast_27 rfl (lv_at hl 2 rfl) ?_
      refine lv_icmp_ne (tgt := 35) hx hb dX12_isLeast_28 (by decide) (fun c_13 => ?_) (fun c_13 => ?_)
      · refine lv_iconst (v := 0) hx hb dX12_isLeast_35 (by decide) ?_
        exact W.zret hx hb hr rfl (fun t ht hW => ⟨0, rfl, rg_w rl_0 (by decide) (by decide), ht⟩) (fun q h => by cases h) dX12_isLeast_36
      · have r_14 : rgI (0) (23) x_12 := rg_w (rg_eq pr1 c_13) (by decide) (by decide)
        refine lv_iconst (v := 1) hx hb dX12_isLeast_31 (by decide) ?_
        refine lv_goto (tgt := 36) hx hb dX12_isLeast_32 (by decide) ?_
        exact W.zret hx hb hr rfl (fun t ht hW => ⟨1, rfl, rg_w rl_1 (by decide) (by decide), ht⟩) (fun q h => by cases h) dX12_isLeast_36

set_option maxHeartbeats 4000000 in
set_option maxRecDepth 100000 in
theorem c_X12_groupsOf (l : Launch) (g : Gx) (Ty : TyM) (G : Gh) (b0 : Nat) (k_b0 : Ty b0 = some (30, 122)) : Met l yX12_groupsOf (wsG yX12_groupsOf cX12_groupsOf 3 (some .int)) ({ frames := 4, cells := 0, slots := 0, locals := 88 }) (PcH g Ty G [.ref b0]) (vp_Si (fun r => True)) 0 0 (fun _ => False) := by
  refine Met.ofW (cc := cX12_groupsOf) (maxL := 3) (ret := (some .int)) (by decide) rfl ?_
  intro p e s m args below meth c s₁ B hml hv
  obtain ⟨rfl, hK, hH⟩ := hv
  have hx := B.exec
  have hb := B.bytes
  have hr := B.returns
  have hts := atoms_spec (ws := (wsG yX12_groupsOf cX12_groupsOf 3 (some .int))) B.pre
  have hG : ∀ w ∈ GW, w.before ([.ref b0] : List Value).toArray s = true := fun w h => hts w (List.mem_cons_of_mem _ h)
  have hown : s.vm.findClass RX12 = some m.cls := findClass_of_methodNamed B.named
  have hlocks := B.notSynchronized
  have hl := lv_entry [.ref b0] (n := 3) (Nat.le_of_ble_eq_true rfl)
  rw [lg_entry_eq]
  generalize (lg_sl [.ref b0] ++ List.replicate (3 - (lg_sl [.ref b0]).length) Slot.unset).toArray = ls at hl ⊢
  have hl : lv_has ls 3 [(0, .ref b0)] := hl
  have L_4 : ∀ (n : Nat) (y1_4 : Int32) (y2_4 : Int32) (ls : Array Slot), rgI (0) (24) y2_4 → (24 - (y2_4).toInt).toNat < n → lv_has ls 3 [(0, .ref b0), (1, .int y1_4), (2, .int y2_4)] → Wm p l e (wsG yX12_groupsOf cX12_groupsOf 3 (some .int)) ({ frames := 4, cells := 0, slots := 0, locals := 88 }) s m [.ref b0] below meth c s.heap [] (0) (0) (vp_Si (fun r => True)) 0 0 (fun _ => False) (F0 m 4 ls []) := by
    intro n
    induction n with
    | zero => intro y1_4 y2_4 ls ry2_4 hm; exact absurd hm (Nat.not_lt_zero _)
    | succ n ih_4 =>
      intro y1_4 y2_4 ls ry2_4 hm_4 hl
      have L_24 : ∀ (z0_24 : Int32) (ls : Array Slot), rgI (0) (23) y2_4 → rgI (0) (1) z0_24 → lv_has ls 3 [(0, .ref b0), (2, .int y2_4)] → Wm p l e (wsG yX12_groupsOf cX12_groupsOf 3 (some .int)) ({ frames := 4, cells := 0, slots := 0, locals := 88 }) s m [.ref b0] below meth c s.heap [] (0) (0) (vp_Si (fun r => True)) 0 0 (fun _ => False) (F0 m 24 ls [.int z0_24, .int y1_4]) := by
        intro z0_24 ls ry2_24 rz0_24 hl
        refine lv_iadd hx hb dX12_groupsOf_24 ?_
        refine lv_topi (fun x_1 ex_1 => ?_)
        refine lv_istore_n (lv' := [(1, .int x_1), (0, .ref b0), (2, .int y2_4)]) hx hb dX12_groupsOf_25 rfl hl (by decide) rfl (fun ls hl => ?_)
        obtain ⟨x_2, ex_2⟩ : ∃ y : Int32, y = y2_4 + 1 := ⟨_, rfl⟩
        have rx_2 : rgI (1) (24) x_2 := by rw [ex_2]; exact rg_w (rg_add ry2_24 rl_1 (by decide) (by decide)) (by decide) (by decide)
        have qx_2 : x_2.toInt = (y2_4 : Int32).toInt + 1 := by rw [ex_2]; exact rg_addE ry2_24 rl_1 (by decide) (by decide)
        refine lv_iinc (v := x_2) (lv' := [(2, .int x_2), (1, .int x_1), (0, .ref b0)]) hx hb dX12_groupsOf_26 hl (k := 2) rfl (by rw [ex_2]; rfl) (by decide) rfl (fun ls hl => ?_)
        refine lv_goto (tgt := 4) hx hb dX12_groupsOf_29 (by decide) ?_
        exact ih_4 x_1 x_2 ls (rg_w rx_2 (by decide) (by decide)) (by have h1 := qx_2; have h2 := ry2_24.1; have h3 := ry2_24.2; have h4 := hm_4; omega) (lv_sub hl [2, 1, 0] rfl)
      refine lv_iload_n hx hb dX12_groupsOf_4 rfl (lv_at hl 2 rfl) ?_
      refine lv_bipush (v := 24) hx hb dX12_groupsOf_5 (by decide) ?_
      refine lv_icmp_ge (tgt := 32) hx hb dX12_groupsOf_7 (by decide) (fun c_3 => ?_) (fun c_3 => ?_)
      · have r_4 : rgI (24) (24) y2_4 := rg_w (rg_leR rl_24 ry2_4 c_3) (by decide) (by decide)
        refine lv_iload_n hx hb dX12_groupsOf_32 rfl (lv_at hl 1 rfl) ?_
        exact W.iret hx hb hr (fun t ht hW => ⟨y1_4, rfl, trivial, ht⟩) (fun q h => by cases h) dX12_groupsOf_33
      · have r_5 : rgI (0) (23) y2_4 := rg_w (rg_ltL ry2_4 rl_24 (nle_lt c_3)) (by decide) (by decide)
        refine lv_iload_n hx hb dX12_groupsOf_10 rfl (lv_at hl 1 rfl) ?_
        refine lv_aload_n hx hb dX12_groupsOf_11 rfl (lv_at hl 0 rfl) ?_
        refine lv_iload_n hx hb dX12_groupsOf_12 rfl (lv_at hl 2 rfl) ?_
        refine vp_callSi (W.runS (As := [.ref b0, .int y2_4]) (rest := [.int y1_4]) ⟨hx, hb, hml, hown, hts⟩ (c_X12_isLeast l g Ty G b0 y2_4 k_b0 (rg_w r_5 (by decide) (by decide))) (cwSx 2 hts hG (gwC mw_1726) mw_88 mw_1724 mw_1725 rfl rfl rfl hd_X12_isLeast ⟨Nat.le_of_ble_eq_true rfl, Nat.le_of_ble_eq_true rfl⟩) ⟨PcH_blind, PcH_pre hK hH⟩ rfl rfl hl.1 rfl (lv_room (Nat.le_of_ble_eq_true rfl)) dX12_groupsOf_13 ⟨Nat.zero_le _, Nat.zero_le _⟩) (fun x_6 hx_6 => ?_)
        have rx_6 : rgI (0) (1) x_6 := hx_6
        refine lv_if_eq (tgt := 23) hx hb dX12_groupsOf_16 (by decide) (fun c_7 => ?_) (fun c_7 => ?_)
        · have r_8 : rgI (0) (0) x_6 := rg_w (rg_eq rl_0 c_7) (by decide) (by decide)
          refine lv_iconst (v := 0) hx hb dX12_groupsOf_23 (by decide) ?_
          exact L_24 0 ls r_5 (rg_w rl_0 (by decide) (by decide)) (lv_sub hl [0, 2] rfl)
        · have r_9 : rgI (1) (1) x_6 := rg_w (rg_neL rx_6 rl_0 c_7) (by decide) (by decide)
          refine lv_iconst (v := 1) hx hb dX12_groupsOf_19 (by decide) ?_
          refine lv_goto (tgt := 24) hx hb dX12_groupsOf_20 (by decide) ?_
          exact L_24 1 ls r_5 (rg_w rl_1 (by decide) (by decide)) (lv_sub hl [0, 2] rfl)
  refine lv_iconst (v := 0) hx hb dX12_groupsOf_0 (by decide) ?_
  refine lv_istore_n (lv' := [(1, .int 0), (0, .ref b0)]) hx hb dX12_groupsOf_1 rfl hl (by decide) rfl (fun ls hl => ?_)
  refine lv_iconst (v := 0) hx hb dX12_groupsOf_2 (by decide) ?_
  refine lv_istore_n (lv' := [(2, .int 0), (1, .int 0), (0, .ref b0)]) hx hb dX12_groupsOf_3 rfl hl (by decide) rfl (fun ls hl => ?_)
  exact L_4 _ 0 0 ls (rg_w rl_0 (by decide) (by decide)) (Nat.lt_succ_self _) (lv_sub hl [2, 1, 0] rfl)

set_option maxHeartbeats 4000000 in
set_option maxRecDepth 100000 in
theorem c_X12_groups (l : Launch) (g : Gx) (Ty : TyM) (G : Gh) (sz : Nat) (h0 : Nat) (k_h0 : Ty h0 = some (22, 0)) (Bd : Int) (hI : OI g Bd G) (hBd : Bd ≤ 1900000) (hLD : LD g) : Met l yX12_groups (wsG yX12_groups cX12_groups 5 (some .int)) ({ frames := 5, cells := 0, slots := 0, locals := 110 }) (PcT g Ty G sz [.ref h0]) (QwI g Ty sz (fun r u => u.1 = Ty ∧ FR [104, 105] [] [] G u.2 ∧ OI g (Bd + 1000) u.2)) 0 0 (AF Ty sz) := by
  refine Met.ofW (cc := cX12_groups) (maxL := 5) (ret := (some .int)) (by decide) rfl ?_
  intro p e s m args below meth c s₁ B hml hv
  obtain ⟨rfl, hsz, hK, hH⟩ := hv
  subst hsz
  have hx := B.exec
  have hb := B.bytes
  have hr := B.returns
  have hts := atoms_spec (ws := (wsG yX12_groups cX12_groups 5 (some .int))) B.pre
  have hG : ∀ w ∈ GW, w.before ([.ref h0] : List Value).toArray s = true := fun w h => hts w (List.mem_cons_of_mem _ h)
  have hown : s.vm.findClass RX12 = some m.cls := findClass_of_methodNamed B.named
  have hlocks := B.notSynchronized
  have hl := lv_entry [.ref h0] (n := 5) (Nat.le_of_ble_eq_true rfl)
  rw [lg_entry_eq]
  generalize (lg_sl [.ref h0] ++ List.replicate (5 - (lg_sl [.ref h0]).length) Slot.unset).toArray = ls at hl ⊢
  have hl : lv_has ls 5 [(0, .ref h0)] := hl
  have hmk : mdK g Ty := mdk_of hH k_h0
  have hS : va_S (AF Ty s.heap.size) s.heap s.heap [] := va_S.rf
  obtain ⟨⟨σ0, hTS0⟩, h10, hBB0⟩ := id hI.ti
  obtain ⟨ρ, hT⟩ := hTS0.1
  have L_11 : ∀ (n : Nat) (H : Heap) (locs : List Loc) (G_11 : Gh) (y1_11 : Int32) (y2_11 : Int32) (y3_11 : Int32) (ls : Array Slot), rgI (0) (32) (G_11.1 104) → FR [104, 105] [] [] G G_11 → rgI (-1) (23) y1_11 → rgI (0) (63) y2_11 → rgI (0) (24) y3_11 → (24 - (y3_11).toInt).toNat < n → lv_has ls 5 [(0, .ref h0), (1, .int y1_11), (2, .int y2_11), (3, .int y3_11)] → HT g Ty G_11 H → va_S (AF Ty s.heap.size) s.heap H locs → Wm p l e (wsG yX12_groups cX12_groups 5 (some .int)) ({ frames := 5, cells := 0, slots := 0, locals := 110 }) s m [.ref h0] below meth c H locs (0) (0) (QwI g Ty s.heap.size (fun r u => u.1 = Ty ∧ FR [104, 105] [] [] G u.2 ∧ OI g (Bd + 1000) u.2)) 0 0 (AF Ty s.heap.size) (F0 m 11 ls []) := by
    intro n
    induction n with
    | zero => intro H locs G_11 y1_11 y2_11 y3_11 ls rg104_11 fr_11 ry1_11 ry2_11 ry3_11 hm; exact absurd hm (Nat.not_lt_zero _)
    | succ n ih_11 =>
      intro H locs G_11 y1_11 y2_11 y3_11 ls rg104_11 fr_11 ry1_11 ry2_11 ry3_11 hm_11 hl hH hS
      refine lv_iload_n hx hb dX12_groups_11 rfl (lv_at hl 3 rfl) ?_
      refine lv_bipush (v := 24) hx hb dX12_groups_12 (by decide) ?_
      refine lv_icmp_ge (tgt := 72) hx hb dX12_groups_14 (by decide) (fun c_1 => ?_) (fun c_1 => ?_)
      · have r_2 : rgI (24) (24) y3_11 := rg_w (rg_leR rl_24 ry3_11 c_1) (by decide) (by decide)
        refine lv_aload_n hx hb dX12_groups_72 rfl (lv_at hl 0 rfl) ?_
        refine lv_iconst (v := 0) hx hb dX12_groups_73 (by decide) ?_
        obtain ⟨_, ⟨rfl, t_4, hk_5⟩, o_c_3⟩ := hH h0 _ k_h0
        refine hg_put (ty := .int) hx hb hG igX12 tyX12 tyX12_ok nmX12 hown hK hS o_c_3 (AF.of k_h0) rfl 4 (by decide) (hG _ mw_1288) rfl (by decide +kernel) rfl rfl (Nat.le_of_ble_eq_true rfl) dX12_groups_74 (fun H locs o_c_3 hz oq hS => ?_)
        obtain ⟨G_6, eG_6⟩ : ∃ z : Gh, z = gset G_11 104 0 := ⟨_, rfl⟩
        have hH : HT g Ty G_6 H := by rw [eG_6]; exact HT.putN 104 0 hH k_h0 ⟨rfl, t_4, hk_5⟩ o_c_3 oq (Or.inr (Or.inr (Or.inr (Or.inr (Or.inr ⟨by decide, t_4⟩)))))
        have fr_7 : FR [104, 105] [] [] G G_6 := FR.n fr_11 eG_6 (by decide)
        have u_8 : G_6.1 102 = (G.1 102) := by rw [eG_6]; exact (gs_ne (by decide)).trans (fr_11.1 102 (by decide))
        have u_9 : G_6.1 113 = (G.1 113) := by rw [eG_6]; exact (gs_ne (by decide)).trans (fr_11.1 113 (by decide))
        have u_10 : G_6.1 122 = (G.1 122) := by rw [eG_6]; exact (gs_ne (by decide)).trans (fr_11.1 122 (by decide))
        have u_11 : G_6.1 133 = (G.1 133) := by rw [eG_6]; exact (gs_ne (by decide)).trans (fr_11.1 133 (by decide))
        have u_12 : G_6.1 137 = (G.1 137) := by rw [eG_6]; exact (gs_ne (by decide)).trans (fr_11.1 137 (by decide))
        have u_13 : G_6.1 104 = 0 := by rw [eG_6]; exact gs_eq
        have w_14 : G_6.2.1 (g.2.2 100) = (G.2.1 (g.2.2 100)) := by rw [eG_6]; exact (fr_11.2.1 (g.2.2 100) trivial)
        have w_15 : G_6.2.1 (g.2.2 121) = (G.2.1 (g.2.2 121)) := by rw [eG_6]; exact (fr_11.2.1 (g.2.2 121) trivial)
        have w_16 : G_6.2.1 (g.2.2 140) = (G.2.1 (g.2.2 140)) := by rw [eG_6]; exact (fr_11.2.1 (g.2.2 140) trivial)
        have w_17 : G_6.2.1 (g.2.2 141) = (G.2.1 (g.2.2 141)) := by rw [eG_6]; exact (fr_11.2.1 (g.2.2 141) trivial)
        have w_18 : G_6.2.1 (g.2.2 111) = (G.2.1 (g.2.2 111)) := by rw [eG_6]; exact (fr_11.2.1 (g.2.2 111) trivial)
        have u_19 : G_6.2.2 111 = some (g.2.2 111) := by rw [eG_6]; exact ((fr_11.2.2 111 (by decide)).trans hI.r111)
        have u_20 : G_6.2.2 112 = some (g.2.2 112) := by rw [eG_6]; exact ((fr_11.2.2 112 (by decide)).trans hI.r112)
        clear oq hz
        refine lv_iload_n hx hb dX12_groups_77 rfl (lv_at hl 1 rfl) ?_
        refine lv_iconst (v := (-1)) hx hb dX12_groups_78 (by decide) ?_
        refine lv_icmp_eq (tgt := 94) hx hb dX12_groups_79 (by decide) (fun c_21 => ?_) (fun c_21 => ?_)
        · have r_22 : rgI (-1) (-1) y1_11 := rg_w (rg_eq rl_m1 c_21) (by decide) (by decide)
          refine lv_aload_n hx hb dX12_groups_94 rfl (lv_at hl 0 rfl) ?_
          obtain ⟨_, ⟨rfl, t_24, hk_25⟩, o_c_23⟩ := hH h0 _ k_h0
          refine hg_get hx hb hG igX12 hown hK o_c_23 rfl 0 (by decide) (hG _ mw_1284) rfl dX12_groups_95 ?_
          refine vp_callSi (W.runS (As := [.ref (g.2.2 100)]) (rest := []) ⟨hx, hb, hml, hown, hts⟩ (c_X12_groupsOf l g Ty G_6 (g.2.2 100) (hk_25.1)) (cwSx 1 hts hG (gwC mw_1729) mw_88 mw_1727 mw_1728 rfl rfl rfl hd_X12_groupsOf ⟨Nat.le_of_ble_eq_true rfl, Nat.le_of_ble_eq_true rfl⟩) ⟨PcH_blind, PcH_pre hK hH⟩ rfl rfl hl.1 rfl (lv_room (Nat.le_of_ble_eq_true rfl)) dX12_groups_98 ⟨Nat.zero_le _, Nat.zero_le _⟩) (fun x_26 hx_26 => ?_)
          exact W.iret hx hb hr (fun t ht hWm => ⟨⟨x_26, (Ty, G_6), rfl, ⟨rfl, ⟨fr_7, ⟨(by rw [u_8]; exact (rg_w hI.a102 (by decide) (by decide))), (by rw [u_13]; exact (rg_w rl_0 (by decide) (by decide))), (by rw [u_9]; exact (rg_w hI.a113 (by decide) (by decide))), (by rw [u_10]; exact (rg_w hI.a122 (by decide) (by decide))), (by rw [u_11]; exact (rg_w hI.a133 (by decide) (by decide))), (by rw [u_12]; exact (rg_w hI.a137 (by decide) (by decide))), u_19, u_20, (by rw [w_14]; exact (hI.ti.hi (show Bd ≤ Bd + 1000 by omega))), (hI.un2 (show Bd ≤ Bd + 1000 by omega) w_15 u_10), (hI.ke2 (show Bd ≤ Bd + 1000 by omega) w_16 w_17)⟩⟩⟩, by show HT g Ty G_6 t.heap; rw [ht]; exact hH⟩, hS.F ht⟩) hS.2.2 dX12_groups_101
        · have r_27 : rgI (0) (23) y1_11 := rg_w (rg_neL ry1_11 rl_m1 c_21) (by decide) (by decide)
          refine lv_aload_n hx hb dX12_groups_82 rfl (lv_at hl 0 rfl) ?_
          refine lv_iload_n hx hb dX12_groups_83 rfl (lv_at hl 2 rfl) ?_
          refine lv_i2l hx hb dX12_groups_84 rfl ?_
          refine lv_topl (fun u_28 eu_28 => ?_)
          obtain ⟨_, ⟨rfl, t_30, hk_31⟩, o_c_29⟩ := hH h0 _ k_h0
          refine va_callv (va_runV (As := [.long u_28]) (rest := []) ⟨hx, hb, hml, hown, hts⟩ (c_X12_tell l g Ty G_6 H.size h0 u_28 k_h0 (by rw [u_13]; exact rg_w rl_0 (by decide) (by decide))) (cwV 1 hts (gwV mw_1510 mw_1512 mw_48 mw_88 mw_1513) rfl rfl rfl hv_X12_tell ⟨Nat.le_of_ble_eq_true rfl, Nat.le_of_ble_eq_true rfl⟩) ⟨PcT_blind, hg_recv hK o_c_29 rfl, PcT_pre hK hH⟩ rfl rfl hl.1 rfl (lv_room (Nat.le_of_ble_eq_true rfl)) dX12_groups_85 ⟨Nat.zero_le _, Nat.zero_le _⟩) hS (fun q _ h => AF.mono hS.1 h) (fun q h => AF.mono hS.1 h) (fun ux_32 t H locs ht hvm hx_32 hB hz hk hS => ?_)
          obtain ⟨eTx_32, eGx_32⟩ := hx_32
          obtain ⟨G_33, eG_33⟩ : ∃ z, z = ux_32.2 := ⟨_, rfl⟩
          rw [← eG_33] at eGx_32
          obtain ⟨x_34, ex_34⟩ : ∃ z : Int32, z = 0 + 1 := ⟨_, rfl⟩
          have e_35 : G_33 = gset G_6 104 x_34 := by rw [ex_34, ← u_13]; exact eGx_32
          have rx_34 : rgI (1) (1) x_34 := by rw [ex_34]; exact rg_w (rg_add rl_0 rl_1 (by decide) (by decide)) (by decide) (by decide)
          have fr_36 : FR [104, 105] [] [] G G_33 := FR.n fr_7 e_35 (by decide)
          have u_37 : G_33.1 102 = (G.1 102) := by rw [e_35]; exact (gs_ne (by decide)).trans u_8
          have u_38 : G_33.1 113 = (G.1 113) := by rw [e_35]; exact (gs_ne (by decide)).trans u_9
          have u_39 : G_33.1 122 = (G.1 122) := by rw [e_35]; exact (gs_ne (by decide)).trans u_10
          have u_40 : G_33.1 133 = (G.1 133) := by rw [e_35]; exact (gs_ne (by decide)).trans u_11
          have u_41 : G_33.1 137 = (G.1 137) := by rw [e_35]; exact (gs_ne (by decide)).trans u_12
          have u_42 : G_33.1 104 = x_34 := by rw [e_35]; exact gs_eq
          have w_43 : G_33.2.1 (g.2.2 100) = (G.2.1 (g.2.2 100)) := by rw [e_35]; exact w_14
          have w_44 : G_33.2.1 (g.2.2 121) = (G.2.1 (g.2.2 121)) := by rw [e_35]; exact w_15
          have w_45 : G_33.2.1 (g.2.2 140) = (G.2.1 (g.2.2 140)) := by rw [e_35]; exact w_16
          have w_46 : G_33.2.1 (g.2.2 141) = (G.2.1 (g.2.2 141)) := by rw [e_35]; exact w_17
          have w_47 : G_33.2.1 (g.2.2 111) = (G.2.1 (g.2.2 111)) := by rw [e_35]; exact w_18
          have u_48 : G_33.2.2 111 = some (g.2.2 111) := by rw [e_35]; exact u_19
          have u_49 : G_33.2.2 112 = some (g.2.2 112) := by rw [e_35]; exact u_20
          have hH : HT g Ty G_33 H := by rw [← ht, ← eTx_32, eG_33]; exact hB
          refine lv_aload_n hx hb dX12_groups_88 rfl (lv_at hl 0 rfl) ?_
          refine lv_iload_n hx hb dX12_groups_89 rfl (lv_at hl 1 rfl) ?_
          refine lv_i2l hx hb dX12_groups_90 rfl ?_
          refine lv_topl (fun u_50 eu_50 => ?_)
          obtain ⟨_, ⟨rfl, t_52, hk_53⟩, o_c_51⟩ := hH h0 _ k_h0
          refine va_callv (va_runV (As := [.long u_50]) (rest := []) ⟨hx, hb, hml, hown, hts⟩ (c_X12_tell l g Ty G_33 H.size h0 u_50 k_h0 (by rw [u_42]; exact rg_w rx_34 (by decide) (by decide))) (cwV 1 hts (gwV mw_1510 mw_1512 mw_48 mw_88 mw_1513) rfl rfl rfl hv_X12_tell ⟨Nat.le_of_ble_eq_true rfl, Nat.le_of_ble_eq_true rfl⟩) ⟨PcT_blind, hg_recv hK o_c_51 rfl, PcT_pre hK hH⟩ rfl rfl hl.1 rfl (lv_room (Nat.le_of_ble_eq_true rfl)) dX12_groups_91 ⟨Nat.zero_le _, Nat.zero_le _⟩) hS (fun q _ h => AF.mono hS.1 h) (fun q h => AF.mono hS.1 h) (fun ux_54 t H locs ht hvm hx_54 hB hz hk hS => ?_)
          obtain ⟨eTx_54, eGx_54⟩ := hx_54
          obtain ⟨G_55, eG_55⟩ : ∃ z, z = ux_54.2 := ⟨_, rfl⟩
          rw [← eG_55] at eGx_54
          obtain ⟨x_56, ex_56⟩ : ∃ z : Int32, z = x_34 + 1 := ⟨_, rfl⟩
          have e_57 : G_55 = gset G_33 104 x_56 := by rw [ex_56, ← u_42]; exact eGx_54
          have rx_56 : rgI (2) (2) x_56 := by rw [ex_56]; exact rg_w (rg_add rx_34 rl_1 (by decide) (by decide)) (by decide) (by decide)
          have fr_58 : FR [104, 105] [] [] G G_55 := FR.n fr_36 e_57 (by decide)
          have u_59 : G_55.1 102 = (G.1 102) := by rw [e_57]; exact (gs_ne (by decide)).trans u_37
          have u_60 : G_55.1 113 = (G.1 113) := by rw [e_57]; exact (gs_ne (by decide)).trans u_38
          have u_61 : G_55.1 122 = (G.1 122) := by rw [e_57]; exact (gs_ne (by decide)).trans u_39
          have u_62 : G_55.1 133 = (G.1 133) := by rw [e_57]; exact (gs_ne (by decide)).trans u_40
          have u_63 : G_55.1 137 = (G.1 137) := by rw [e_57]; exact (gs_ne (by decide)).trans u_41
          have u_64 : G_55.1 104 = x_56 := by rw [e_57]; exact gs_eq
          have w_65 : G_55.2.1 (g.2.2 100) = (G.2.1 (g.2.2 100)) := by rw [e_57]; exact w_43
          have w_66 : G_55.2.1 (g.2.2 121) = (G.2.1 (g.2.2 121)) := by rw [e_57]; exact w_44
          have w_67 : G_55.2.1 (g.2.2 140) = (G.2.1 (g.2.2 140)) := by rw [e_57]; exact w_45
          have w_68 : G_55.2.1 (g.2.2 141) = (G.2.1 (g.2.2 141)) := by rw [e_57]; exact w_46
          have w_69 : G_55.2.1 (g.2.2 111) = (G.2.1 (g.2.2 111)) := by rw [e_57]; exact w_47
          have u_70 : G_55.2.2 111 = some (g.2.2 111) := by rw [e_57]; exact u_48
          have u_71 : G_55.2.2 112 = some (g.2.2 112) := by rw [e_57]; exact u_49
          have hH : HT g Ty G_55 H := by rw [← ht, ← eTx_54, eG_55]; exact hB
          refine lv_aload_n hx hb dX12_groups_94 rfl (lv_at hl 0 rfl) ?_
          obtain ⟨_, ⟨rfl, t_73, hk_74⟩, o_c_72⟩ := hH h0 _ k_h0
          refine hg_get hx hb hG igX12 hown hK o_c_72 rfl 0 (by decide) (hG _ mw_1284) rfl dX12_groups_95 ?_
          refine vp_callSi (W.runS (As := [.ref (g.2.2 100)]) (rest := []) ⟨hx, hb, hml, hown, hts⟩ (c_X12_groupsOf l g Ty G_55 (g.2.2 100) (hk_74.1)) (cwSx 1 hts hG (gwC mw_1729) mw_88 mw_1727 mw_1728 rfl rfl rfl hd_X12_groupsOf ⟨Nat.le_of_ble_eq_true rfl, Nat.le_of_ble_eq_true rfl⟩) ⟨PcH_blind, PcH_pre hK hH⟩ rfl rfl hl.1 rfl (lv_room (Nat.le_of_ble_eq_true rfl)) dX12_groups_98 ⟨Nat.zero_le _, Nat.zero_le _⟩) (fun x_75 hx_75 => ?_)
          exact W.iret hx hb hr (fun t ht hWm => ⟨⟨x_75, (Ty, G_55), rfl, ⟨rfl, ⟨fr_58, ⟨(by rw [u_59]; exact (rg_w hI.a102 (by decide) (by decide))), (by rw [u_64]; exact (rg_w rx_56 (by decide) (by decide))), (by rw [u_60]; exact (rg_w hI.a113 (by decide) (by decide))), (by rw [u_61]; exact (rg_w hI.a122 (by decide) (by decide))), (by rw [u_62]; exact (rg_w hI.a133 (by decide) (by decide))), (by rw [u_63]; exact (rg_w hI.a137 (by decide) (by decide))), u_70, u_71, (by rw [w_65]; exact (hI.ti.hi (show Bd ≤ Bd + 1000 by omega))), (hI.un2 (show Bd ≤ Bd + 1000 by omega) w_66 u_61), (hI.ke2 (show Bd ≤ Bd + 1000 by omega) w_67 w_68)⟩⟩⟩, by show HT g Ty G_55 t.heap; rw [ht]; exact hH⟩, hS.F ht⟩) hS.2.2 dX12_groups_101
      · have r_76 : rgI (0) (23) y3_11 := rg_w (rg_ltL ry3_11 rl_24 (nle_lt c_1)) (by decide) (by decide)
        refine lv_aload_n hx hb dX12_groups_17 rfl (lv_at hl 0 rfl) ?_
        obtain ⟨_, ⟨rfl, t_78, hk_79⟩, o_c_77⟩ := hH h0 _ k_h0
        refine hg_get hx hb hG igX12 hown hK o_c_77 rfl 0 (by decide) (hG _ mw_1284) rfl dX12_groups_18 ?_
        refine lv_iload_n hx hb dX12_groups_21 rfl (lv_at hl 3 rfl) ?_
        refine vp_callSi (W.runS (As := [.ref (g.2.2 100), .int y3_11]) (rest := []) ⟨hx, hb, hml, hown, hts⟩ (c_X12_isLeast l g Ty G_11 (g.2.2 100) y3_11 (hk_79.1) (rg_w r_76 (by decide) (by decide))) (cwSx 2 hts hG (gwC mw_1726) mw_88 mw_1724 mw_1725 rfl rfl rfl hd_X12_isLeast ⟨Nat.le_of_ble_eq_true rfl, Nat.le_of_ble_eq_true rfl⟩) ⟨PcH_blind, PcH_pre hK hH⟩ rfl rfl hl.1 rfl (lv_room (Nat.le_of_ble_eq_true rfl)) dX12_groups_22 ⟨Nat.zero_le _, Nat.zero_le _⟩) (fun x_80 hx_80 => ?_)
        have rx_80 : rgI (0) (1) x_80 := hx_80
        refine lv_if_ne (tgt := 31) hx hb dX12_groups_25 (by decide) (fun c_81 => ?_) (fun c_81 => ?_)
        · have r_82 : rgI (1) (1) x_80 := rg_w (rg_neL rx_80 rl_0 c_81) (by decide) (by decide)
          refine lv_aload_n hx hb dX12_groups_31 rfl (lv_at hl 0 rfl) ?_
          refine hg_get hx hb hG igX12 hown hK o_c_77 rfl 0 (by decide) (hG _ mw_1284) rfl dX12_groups_32 ?_
          refine lv_aload_n hx hb dX12_groups_35 rfl (lv_at hl 0 rfl) ?_
          refine hg_get hx hb hG igX12 hown hK o_c_77 rfl 0 (by decide) (hG _ mw_1284) rfl dX12_groups_36 ?_
          refine lv_bipush (v := 48) hx hb dX12_groups_39 (by decide) ?_
          refine lv_iload_n hx hb dX12_groups_41 rfl (lv_at hl 3 rfl) ?_
          refine lv_iadd hx hb dX12_groups_42 ?_
          refine lv_topi (fun x_83 ex_83 => ?_)
          have rx_83 : rgI (48) (71) x_83 := by rw [ex_83]; exact rg_w (rg_add rl_48 r_76 (by decide) (by decide)) (by decide) (by decide)
          obtain ⟨_, rfl, o_c_84⟩ := hH (g.2.2 100) _ hk_79.1
          have o_c_84 : va_at g.1 vwCl ((g.2.2 100), .inl (g.2.1 1, 122, .inl (G_11.2.1 (g.2.2 100)))) H := o_c_84
          refine hg_iald hx hb hK o_c_84 (rg_in (n := 122) rx_83 (by decide) (by decide)) dX12_groups_43 ?_
          rw [(fr_11.2.1 (g.2.2 100) trivial)]
          refine lv_topi (fun x_85 ex_85 => ?_)
          refine vp_callSi (W.runS (As := [.ref (g.2.2 100), .int x_85]) (rest := []) ⟨hx, hb, hml, hown, hts⟩ (c_X12_inGroup l g Ty G_11 (g.2.2 100) x_85 (hk_79.1)) (cwSx 2 hts hG (gwC mw_1566) mw_88 mw_1564 mw_1565 rfl rfl rfl hd_X12_inGroup ⟨Nat.le_of_ble_eq_true rfl, Nat.le_of_ble_eq_true rfl⟩) ⟨PcH_blind, PcH_pre hK hH⟩ rfl rfl hl.1 rfl (lv_room (Nat.le_of_ble_eq_true rfl)) dX12_groups_44 ⟨Nat.zero_le _, Nat.zero_le _⟩) (fun x_86 hx_86 => ?_)
          have ex_87 : x_86 = F_X12_inGroup (G.2.1 (g.2.2 100)) x_85 := by rw [← (fr_11.2.1 (g.2.2 100) trivial)]; exact hx_86
          refine vp_callSi (W.runS (As := [.int x_86]) (rest := []) ⟨hx, hb, hml, hown, hts⟩ (c_J6_bitCount_x l g Ty G_11 x_86 ) (cwSx 1 hts hG (gwC mw_620) mw_99 mw_1553 mw_619 rfl rfl rfl hd_J6_bitCount_0f7a4 ⟨Nat.le_of_ble_eq_true rfl, Nat.le_of_ble_eq_true rfl⟩) ⟨PcH_blind, PcH_pre hK hH⟩ rfl rfl hl.1 rfl (lv_room (Nat.le_of_ble_eq_true rfl)) dX12_groups_47 ⟨Nat.zero_le _, Nat.zero_le _⟩) (fun x_88 hx_88 => ?_)
          have rx_88 : rgI (0) (63) x_88 := hx_88.1
          refine lv_istore (lv' := [(4, .int x_88), (0, .ref h0), (1, .int y1_11), (2, .int y2_11), (3, .int y3_11)]) hx hb dX12_groups_50 hl (by decide) rfl (fun ls hl => ?_)
          refine lv_iload hx hb dX12_groups_52 (lv_at hl 0 rfl) ?_
          refine lv_iload_n hx hb dX12_groups_54 rfl (lv_at hl 3 rfl) ?_
          refine lv_icmp_gt (tgt := 61) hx hb dX12_groups_55 (by decide) (fun c_89 => ?_) (fun c_89 => ?_)
          · have r_90 : rgI (0) (62) y2_11 := rg_w (rg_ltL ry2_11 rx_88 c_89) (by decide) (by decide)
            have r_91 : rgI (1) (63) x_88 := rg_w (rg_ltR ry2_11 rx_88 c_89) (by decide) (by decide)
            refine lv_iload_n hx hb dX12_groups_61 rfl (lv_at hl 4 rfl) ?_
            refine lv_istore_n (lv' := [(1, .int y3_11), (4, .int x_88), (0, .ref h0), (2, .int y2_11), (3, .int y3_11)]) hx hb dX12_groups_62 rfl hl (by decide) rfl (fun ls hl => ?_)
            refine lv_iload hx hb dX12_groups_63 (lv_at hl 1 rfl) ?_
            refine lv_istore_n (lv' := [(2, .int x_88), (1, .int y3_11), (4, .int x_88), (0, .ref h0), (3, .int y3_11)]) hx hb dX12_groups_65 rfl hl (by decide) rfl (fun ls hl => ?_)
            obtain ⟨x_92, ex_92⟩ : ∃ y : Int32, y = y3_11 + 1 := ⟨_, rfl⟩
            have rx_92 : rgI (1) (24) x_92 := by rw [ex_92]; exact rg_w (rg_add r_76 rl_1 (by decide) (by decide)) (by decide) (by decide)
            have qx_92 : x_92.toInt = (y3_11 : Int32).toInt + 1 := by rw [ex_92]; exact rg_addE r_76 rl_1 (by decide) (by decide)
            refine lv_iinc (v := x_92) (lv' := [(3, .int x_92), (2, .int x_88), (1, .int y3_11), (4, .int x_88), (0, .ref h0)]) hx hb dX12_groups_66 hl (k := 4) rfl (by rw [ex_92]; rfl) (by decide) rfl (fun ls hl => ?_)
            refine lv_goto (tgt := 11) hx hb dX12_groups_69 (by decide) ?_
            exact ih_11 H locs G_11 y3_11 x_88 x_92 ls (rg_w rg104_11 (by decide) (by decide)) fr_11 (rg_w r_76 (by decide) (by decide)) (rg_w r_91 (by decide) (by decide)) (rg_w rx_92 (by decide) (by decide)) (by have h1 := qx_92; have h2 := r_76.1; have h3 := r_76.2; have h4 := hm_11; omega) (lv_sub hl [4, 2, 1, 0] rfl) hH hS
          · refine lv_goto (tgt := 66) hx hb dX12_groups_58 (by decide) ?_
            obtain ⟨x_93, ex_93⟩ : ∃ y : Int32, y = y3_11 + 1 := ⟨_, rfl⟩
            have rx_93 : rgI (1) (24) x_93 := by rw [ex_93]; exact rg_w (rg_add r_76 rl_1 (by decide) (by decide)) (by decide) (by decide)
            have qx_93 : x_93.toInt = (y3_11 : Int32).toInt + 1 := by rw [ex_93]; exact rg_addE r_76 rl_1 (by decide) (by decide)
            refine lv_iinc (v := x_93) (lv' := [(3, .int x_93), (4, .int x_88), (0, .ref h0), (1, .int y1_11), (2, .int y2_11)]) hx hb dX12_groups_66 hl (k := 4) rfl (by rw [ex_93]; rfl) (by decide) rfl (fun ls hl => ?_)
            refine lv_goto (tgt := 11) hx hb dX12_groups_69 (by decide) ?_
            exact ih_11 H locs G_11 y1_11 y2_11 x_93 ls (rg_w rg104_11 (by decide) (by decide)) fr_11 ry1_11 ry2_11 (rg_w rx_93 (by decide) (by decide)) (by have h1 := qx_93; have h2 := r_76.1; have h3 := r_76.2; have h4 := hm_11; omega) (lv_sub hl [2, 3, 4, 0] rfl) hH hS
        · have r_94 : rgI (0) (0) x_80 := rg_w (rg_eq rl_0 c_81) (by decide) (by decide)
          refine lv_goto (tgt := 66) hx hb dX12_groups_28 (by decide) ?_
          obtain ⟨x_95, ex_95⟩ : ∃ y : Int32, y = y3_11 + 1 := ⟨_, rfl⟩
          have rx_95 : rgI (1) (24) x_95 := by rw [ex_95]; exact rg_w (rg_add r_76 rl_1 (by decide) (by decide)) (by decide) (by decide)
          have qx_95 : x_95.toInt = (y3_11 : Int32).toInt + 1 := by rw [ex_95]; exact rg_addE r_76 rl_1 (by decide) (by decide)
          refine lv_iinc (v := x_95) (lv' := [(3, .int x_95), (0, .ref h0), (1, .int y1_11), (2, .int y2_11)]) hx hb dX12_groups_66 hl (k := 3) rfl (by rw [ex_95]; rfl) (by decide) rfl (fun ls hl => ?_)
          refine lv_goto (tgt := 11) hx hb dX12_groups_69 (by decide) ?_
          exact ih_11 H locs G_11 y1_11 y2_11 x_95 ls (rg_w rg104_11 (by decide) (by decide)) fr_11 ry1_11 ry2_11 (rg_w rx_95 (by decide) (by decide)) (by have h1 := qx_95; have h2 := r_76.1; have h3 := r_76.2; have h4 := hm_11; omega) (lv_sub hl [1, 2, 3, 0] rfl) hH hS
  refine lv_aload_n hx hb dX12_groups_0 rfl (lv_at hl 0 rfl) ?_
  refine lv_iconst (v := 0) hx hb dX12_groups_1 (by decide) ?_
  obtain ⟨_, ⟨rfl, t_97, hk_98⟩, o_c_96⟩ := hH h0 _ k_h0
  refine hg_put (ty := .int) hx hb hG igX12 tyX12 tyX12_ok nmX12 hown hK hS o_c_96 (AF.of k_h0) rfl 5 (by decide) (hG _ mw_1289) rfl (by decide +kernel) rfl rfl (Nat.le_of_ble_eq_true rfl) dX12_groups_2 (fun H locs o_c_96 hz oq hS => ?_)
  obtain ⟨G_99, eG_99⟩ : ∃ z : Gh, z = gset G 105 0 := ⟨_, rfl⟩
  have hH : HT g Ty G_99 H := by rw [eG_99]; exact HT.putN 105 0 hH k_h0 ⟨rfl, t_97, hk_98⟩ o_c_96 oq (Or.inr (Or.inr (Or.inr (Or.inr (Or.inr ⟨by decide, t_97⟩)))))
  have fr_100 : FR [104, 105] [] [] G G_99 := FR.n FR.rf eG_99 (by decide)
  have u_101 : G_99.1 102 = (G.1 102) := by rw [eG_99]; exact (gs_ne (by decide))
  have u_102 : G_99.1 104 = (G.1 104) := by rw [eG_99]; exact (gs_ne (by decide))
  have u_103 : G_99.1 113 = (G.1 113) := by rw [eG_99]; exact (gs_ne (by decide))
  have u_104 : G_99.1 122 = (G.1 122) := by rw [eG_99]; exact (gs_ne (by decide))
  have u_105 : G_99.1 133 = (G.1 133) := by rw [eG_99]; exact (gs_ne (by decide))
  have u_106 : G_99.1 137 = (G.1 137) := by rw [eG_99]; exact (gs_ne (by decide))
  have u_107 : G_99.1 105 = 0 := by rw [eG_99]; exact gs_eq
  have w_108 : G_99.2.1 (g.2.2 100) = (G.2.1 (g.2.2 100)) := by rw [eG_99]; exact rfl
  have w_109 : G_99.2.1 (g.2.2 121) = (G.2.1 (g.2.2 121)) := by rw [eG_99]; exact rfl
  have w_110 : G_99.2.1 (g.2.2 140) = (G.2.1 (g.2.2 140)) := by rw [eG_99]; exact rfl
  have w_111 : G_99.2.1 (g.2.2 141) = (G.2.1 (g.2.2 141)) := by rw [eG_99]; exact rfl
  have w_112 : G_99.2.1 (g.2.2 111) = (G.2.1 (g.2.2 111)) := by rw [eG_99]; exact rfl
  have u_113 : G_99.2.2 111 = some (g.2.2 111) := by rw [eG_99]; exact hI.r111
  have u_114 : G_99.2.2 112 = some (g.2.2 112) := by rw [eG_99]; exact hI.r112
  clear oq hz
  refine lv_iconst (v := (-1)) hx hb dX12_groups_5 (by decide) ?_
  refine lv_istore_n (lv' := [(1, .int (-1)), (0, .ref h0)]) hx hb dX12_groups_6 rfl hl (by decide) rfl (fun ls hl => ?_)
  refine lv_iconst (v := 0) hx hb dX12_groups_7 (by decide) ?_
  refine lv_istore_n (lv' := [(2, .int 0), (1, .int (-1)), (0, .ref h0)]) hx hb dX12_groups_8 rfl hl (by decide) rfl (fun ls hl => ?_)
  refine lv_iconst (v := 0) hx hb dX12_groups_9 (by decide) ?_
  refine lv_istore_n (lv' := [(3, .int 0), (2, .int 0), (1, .int (-1)), (0, .ref h0)]) hx hb dX12_groups_10 rfl hl (by decide) rfl (fun ls hl => ?_)
  exact L_11 _ H locs G_99 (-1) 0 0 ls (by rw [u_102]; exact rg_w hI.a104 (by decide) (by decide)) fr_100 (rg_w rl_m1 (by decide) (by decide)) (rg_w rl_0 (by decide) (by decide)) (rg_w rl_0 (by decide) (by decide)) (Nat.lt_succ_self _) (lv_sub hl [3, 2, 1, 0] rfl) hH hS

set_option maxHeartbeats 4000000 in
set_option maxRecDepth 100000 in
theorem c_X12_insideOf (l : Launch) (g : Gx) (Ty : TyM) (G : Gh) (b0 : Nat) (a1 : Int32) (k_b0 : Ty b0 = some (30, 122)) (ρ : Nat → Nat) (hT : P1 (G.2.1 b0) ρ) : Met l yX12_insideOf (wsG yX12_insideOf cX12_insideOf 4 (some .int)) ({ frames := 2, cells := 0, slots := 0, locals := 43 }) (PcH g Ty G [.ref b0, .int a1]) (vp_Si (fun r => (SB (G.2.1 b0) r))) 0 0 (fun _ => False) := by
  refine Met.ofW (cc := cX12_insideOf) (maxL := 4) (ret := (some .int)) (by decide) rfl ?_
  intro p e s m args below meth c s₁ B hml hv
  obtain ⟨rfl, hK, hH⟩ := hv
  have hx := B.exec
  have hb := B.bytes
  have hr := B.returns
  have hts := atoms_spec (ws := (wsG yX12_insideOf cX12_insideOf 4 (some .int))) B.pre
  have hG : ∀ w ∈ GW, w.before ([.ref b0, .int a1] : List Value).toArray s = true := fun w h => hts w (List.mem_cons_of_mem _ h)
  have hown : s.vm.findClass RX12 = some m.cls := findClass_of_methodNamed B.named
  have hlocks := B.notSynchronized
  have hl := lv_entry [.ref b0, .int a1] (n := 4) (Nat.le_of_ble_eq_true rfl)
  rw [lg_entry_eq]
  generalize (lg_sl [.ref b0, .int a1] ++ List.replicate (4 - (lg_sl [.ref b0, .int a1]).length) Slot.unset).toArray = ls at hl ⊢
  have hl : lv_has ls 4 [(0, .ref b0), (1, .int a1)] := hl
  have L_4 : ∀ (n : Nat) (y2_4 : Int32) (y3_4 : Int32) (ls : Array Slot), rgI (0) (24) y3_4 → SB (G.2.1 b0) y2_4 → (24 - (y3_4).toInt).toNat < n → lv_has ls 4 [(0, .ref b0), (1, .int a1), (2, .int y2_4), (3, .int y3_4)] → Wm p l e (wsG yX12_insideOf cX12_insideOf 4 (some .int)) ({ frames := 2, cells := 0, slots := 0, locals := 43 }) s m [.ref b0, .int a1] below meth c s.heap [] (0) (0) (vp_Si (fun r => (SB (G.2.1 b0) r))) 0 0 (fun _ => False) (F0 m 4 ls []) := by
    intro n
    induction n with
    | zero => intro y2_4 y3_4 ls ry3_4 hi0_4 hm; exact absurd hm (Nat.not_lt_zero _)
    | succ n ih_4 =>
      intro y2_4 y3_4 ls ry3_4 hi0_4 hm_4 hl
      refine lv_iload_n hx hb dX12_insideOf_4 rfl (lv_at hl 3 rfl) ?_
      refine lv_bipush (v := 24) hx hb dX12_insideOf_5 (by decide) ?_
      refine lv_icmp_ge (tgt := 48) hx hb dX12_insideOf_7 (by decide) (fun c_1 => ?_) (fun c_1 => ?_)
      · have r_2 : rgI (24) (24) y3_4 := rg_w (rg_leR rl_24 ry3_4 c_1) (by decide) (by decide)
        refine lv_iload_n hx hb dX12_insideOf_48 rfl (lv_at hl 2 rfl) ?_
        exact W.iret hx hb hr (fun t ht hW => ⟨y2_4, rfl, hi0_4, ht⟩) (fun q h => by cases h) dX12_insideOf_49
      · have r_3 : rgI (0) (23) y3_4 := rg_w (rg_ltL ry3_4 rl_24 (nle_lt c_1)) (by decide) (by decide)
        refine lv_iload_n hx hb dX12_insideOf_10 rfl (lv_at hl 2 rfl) ?_
        refine lv_aload_n hx hb dX12_insideOf_11 rfl (lv_at hl 0 rfl) ?_
        refine lv_iload_n hx hb dX12_insideOf_12 rfl (lv_at hl 3 rfl) ?_
        refine vp_callSi (W.runS (As := [.ref b0, .int y3_4]) (rest := [.int y2_4]) ⟨hx, hb, hml, hown, hts⟩ (c_X12_isThere l g Ty G b0 y3_4 k_b0) (cwSx 2 hts hG (gwC mw_1520) mw_88 mw_1518 mw_1519 rfl rfl rfl hd_X12_isThere ⟨Nat.le_of_ble_eq_true rfl, Nat.le_of_ble_eq_true rfl⟩) ⟨PcH_blind, PcH_pre hK hH⟩ rfl rfl hl.1 rfl (lv_room (Nat.le_of_ble_eq_true rfl)) dX12_insideOf_13 ⟨Nat.zero_le _, Nat.zero_le _⟩) (fun x_4 hx_4 => ?_)
        have rx_4 : rgI (0) (1) x_4 := hx_4.1
        refine lv_if_eq (tgt := 39) hx hb dX12_insideOf_16 (by decide) (fun c_5 => ?_) (fun c_5 => ?_)
        · have r_6 : rgI (0) (0) x_4 := rg_w (rg_eq rl_0 c_5) (by decide) (by decide)
          refine lv_iconst (v := 0) hx hb dX12_insideOf_39 (by decide) ?_
          refine lv_ior hx hb dX12_insideOf_40 ?_
          refine lv_topi (fun x_7 ex_7 => ?_)
          refine lv_istore_n (lv' := [(2, .int x_7), (0, .ref b0), (1, .int a1), (3, .int y3_4)]) hx hb dX12_insideOf_41 rfl hl (by decide) rfl (fun ls hl => ?_)
          obtain ⟨x_8, ex_8⟩ : ∃ y : Int32, y = y3_4 + 1 := ⟨_, rfl⟩
          have rx_8 : rgI (1) (24) x_8 := by rw [ex_8]; exact rg_w (rg_add r_3 rl_1 (by decide) (by decide)) (by decide) (by decide)
          have qx_8 : x_8.toInt = (y3_4 : Int32).toInt + 1 := by rw [ex_8]; exact rg_addE r_3 rl_1 (by decide) (by decide)
          refine lv_iinc (v := x_8) (lv' := [(3, .int x_8), (2, .int x_7), (0, .ref b0), (1, .int a1)]) hx hb dX12_insideOf_42 hl (k := 3) rfl (by rw [ex_8]; rfl) (by decide) rfl (fun ls hl => ?_)
          refine lv_goto (tgt := 4) hx hb dX12_insideOf_45 (by decide) ?_
          exact ih_4 x_7 x_8 ls (rg_w rx_8 (by decide) (by decide)) (by rw [ex_7]; exact SB.or hi0_4 SB.zero) (by have h1 := qx_8; have h2 := r_3.1; have h3 := r_3.2; have h4 := hm_4; omega) (lv_sub hl [2, 3, 1, 0] rfl)
        · have th_9 : thr (G.2.1 b0) y3_4 := F_isThere_thr (by rw [← hx_4.2.2]; exact c_5)
          have r_10 : rgI (1) (1) x_4 := rg_w (rg_neL rx_4 rl_0 c_5) (by decide) (by decide)
          refine lv_iload_n hx hb dX12_insideOf_19 rfl (lv_at hl 3 rfl) ?_
          refine lv_iload_n hx hb dX12_insideOf_20 rfl (lv_at hl 1 rfl) ?_
          refine lv_icmp_eq (tgt := 39) hx hb dX12_insideOf_21 (by decide) (fun c_11 => ?_) (fun c_11 => ?_)
          · refine lv_iconst (v := 0) hx hb dX12_insideOf_39 (by decide) ?_
            refine lv_ior hx hb dX12_insideOf_40 ?_
            refine lv_topi (fun x_12 ex_12 => ?_)
            refine lv_istore_n (lv' := [(2, .int x_12), (0, .ref b0), (1, .int a1), (3, .int y3_4)]) hx hb dX12_insideOf_41 rfl hl (by decide) rfl (fun ls hl => ?_)
            obtain ⟨x_13, ex_13⟩ : ∃ y : Int32, y = y3_4 + 1 := ⟨_, rfl⟩
            have rx_13 : rgI (1) (24) x_13 := by rw [ex_13]; exact rg_w (rg_add r_3 rl_1 (by decide) (by decide)) (by decide) (by decide)
            have qx_13 : x_13.toInt = (y3_4 : Int32).toInt + 1 := by rw [ex_13]; exact rg_addE r_3 rl_1 (by decide) (by decide)
            refine lv_iinc (v := x_13) (lv' := [(3, .int x_13), (2, .int x_12), (0, .ref b0), (1, .int a1)]) hx hb dX12_insideOf_42 hl (k := 3) rfl (by rw [ex_13]; rfl) (by decide) rfl (fun ls hl => ?_)
            refine lv_goto (tgt := 4) hx hb dX12_insideOf_45 (by decide) ?_
            exact ih_4 x_12 x_13 ls (rg_w rx_13 (by decide) (by decide)) (by rw [ex_12]; exact SB.or hi0_4 SB.zero) (by have h1 := qx_13; have h2 := r_3.1; have h3 := r_3.2; have h4 := hm_4; omega) (lv_sub hl [2, 3, 1, 0] rfl)
          · refine lv_aload_n hx hb dX12_insideOf_24 rfl (lv_at hl 0 rfl) ?_
            refine lv_iload_n hx hb dX12_insideOf_25 rfl (lv_at hl 3 rfl) ?_
            refine lv_iload_n hx hb dX12_insideOf_26 rfl (lv_at hl 1 rfl) ?_
            refine vp_callSi (W.runS (As := [.ref b0, .int y3_4, .int a1]) (rest := [.int y2_4]) ⟨hx, hb, hml, hown, hts⟩ (c_X12_isIn l g Ty G b0 y3_4 a1 k_b0 ρ hT th_9) (cwSx 3 hts hG (gwC mw_1676) mw_88 mw_1674 mw_1675 rfl rfl rfl hd_X12_isIn ⟨Nat.le_of_ble_eq_true rfl, Nat.le_of_ble_eq_true rfl⟩) ⟨PcH_blind, PcH_pre hK hH⟩ rfl rfl hl.1 rfl (lv_room (Nat.le_of_ble_eq_true rfl)) dX12_insideOf_27 ⟨Nat.zero_le _, Nat.zero_le _⟩) (fun x_14 hx_14 => ?_)
            have rx_14 : rgI (0) (1) x_14 := hx_14.1
            refine lv_if_eq (tgt := 39) hx hb dX12_insideOf_30 (by decide) (fun c_15 => ?_) (fun c_15 => ?_)
            · have r_16 : rgI (0) (0) x_14 := rg_w (rg_eq rl_0 c_15) (by decide) (by decide)
              refine lv_iconst (v := 0) hx hb dX12_insideOf_39 (by decide) ?_
              refine lv_ior hx hb dX12_insideOf_40 ?_
              refine lv_topi (fun x_17 ex_17 => ?_)
              refine lv_istore_n (lv' := [(2, .int x_17), (0, .ref b0), (1, .int a1), (3, .int y3_4)]) hx hb dX12_insideOf_41 rfl hl (by decide) rfl (fun ls hl => ?_)
              obtain ⟨x_18, ex_18⟩ : ∃ y : Int32, y = y3_4 + 1 := ⟨_, rfl⟩
              have rx_18 : rgI (1) (24) x_18 := by rw [ex_18]; exact rg_w (rg_add r_3 rl_1 (by decide) (by decide)) (by decide) (by decide)
              have qx_18 : x_18.toInt = (y3_4 : Int32).toInt + 1 := by rw [ex_18]; exact rg_addE r_3 rl_1 (by decide) (by decide)
              refine lv_iinc (v := x_18) (lv' := [(3, .int x_18), (2, .int x_17), (0, .ref b0), (1, .int a1)]) hx hb dX12_insideOf_42 hl (k := 3) rfl (by rw [ex_18]; rfl) (by decide) rfl (fun ls hl => ?_)
              refine lv_goto (tgt := 4) hx hb dX12_insideOf_45 (by decide) ?_
              exact ih_4 x_17 x_18 ls (rg_w rx_18 (by decide) (by decide)) (by rw [ex_17]; exact SB.or hi0_4 SB.zero) (by have h1 := qx_18; have h2 := r_3.1; have h3 := r_3.2; have h4 := hm_4; omega) (lv_sub hl [2, 3, 1, 0] rfl)
            · have r_19 : rgI (1) (1) x_14 := rg_w (rg_neL rx_14 rl_0 c_15) (by decide) (by decide)
              refine lv_iconst (v := 1) hx hb dX12_insideOf_33 (by decide) ?_
              refine lv_iload_n hx hb dX12_insideOf_34 rfl (lv_at hl 3 rfl) ?_
              refine lv_ishl hx hb dX12_insideOf_35 ?_
              refine lv_topi (fun x_20 ex_20 => ?_)
              refine lv_goto (tgt := 40) hx hb dX12_insideOf_36 (by decide) ?_
              refine lv_ior hx hb dX12_insideOf_40 ?_
              refine lv_topi (fun x_21 ex_21 => ?_)
              refine lv_istore_n (lv' := [(2, .int x_21), (0, .ref b0), (1, .int a1), (3, .int y3_4)]) hx hb dX12_insideOf_41 rfl hl (by decide) rfl (fun ls hl => ?_)
              obtain ⟨x_22, ex_22⟩ : ∃ y : Int32, y = y3_4 + 1 := ⟨_, rfl⟩
              have rx_22 : rgI (1) (24) x_22 := by rw [ex_22]; exact rg_w (rg_add r_3 rl_1 (by decide) (by decide)) (by decide) (by decide)
              have qx_22 : x_22.toInt = (y3_4 : Int32).toInt + 1 := by rw [ex_22]; exact rg_addE r_3 rl_1 (by decide) (by decide)
              refine lv_iinc (v := x_22) (lv' := [(3, .int x_22), (2, .int x_21), (0, .ref b0), (1, .int a1)]) hx hb dX12_insideOf_42 hl (k := 3) rfl (by rw [ex_22]; rfl) (by decide) rfl (fun ls hl => ?_)
              refine lv_goto (tgt := 4) hx hb dX12_insideOf_45 (by decide) ?_
              exact ih_4 x_21 x_22 ls (rg_w rx_22 (by decide) (by decide)) (by rw [ex_21]; exact SB.or hi0_4 (by rw [ex_20]; exact SB.one th_9)) (by have h1 := qx_22; have h2 := r_3.1; have h3 := r_3.2; have h4 := hm_4; omega) (lv_sub hl [2, 3, 1, 0] rfl)
  refine lv_iconst (v := 0) hx hb dX12_insideOf_0 (by decide) ?_
  refine lv_istore_n (lv' := [(2, .int 0), (0, .ref b0), (1, .int a1)]) hx hb dX12_insideOf_1 rfl hl (by decide) rfl (fun ls hl => ?_)
  refine lv_iconst (v := 0) hx hb dX12_insideOf_2 (by decide) ?_
  refine lv_istore_n (lv' := [(3, .int 0), (2, .int 0), (0, .ref b0), (1, .int a1)]) hx hb dX12_insideOf_3 rfl hl (by decide) rfl (fun ls hl => ?_)
  exact L_4 _ 0 0 ls (rg_w rl_0 (by decide) (by decide)) SB.zero (Nat.lt_succ_self _) (lv_sub hl [2, 3, 1, 0] rfl)

set_option maxHeartbeats 4000000 in
set_option maxRecDepth 100000 in
theorem c_X12_inside (l : Launch) (g : Gx) (Ty : TyM) (G : Gh) (sz : Nat) (h0 : Nat) (a0 : Int32) (k_h0 : Ty h0 = some (22, 0)) (Bd : Int) (hI : OI g Bd G) (hBd : Bd ≤ 1900000) (hLD : LD g) : Met l yX12_inside (wsG yX12_inside cX12_inside 5 (some .int)) ({ frames := 3, cells := 0, slots := 0, locals := 66 }) (PcT g Ty G sz [.ref h0, .int a0]) (QwI g Ty sz (fun r u => u.1 = Ty ∧ FR [104, 105] [] [] G u.2 ∧ OI g (Bd + 1000) u.2)) 0 0 (AF Ty sz) := by
  refine Met.ofW (cc := cX12_inside) (maxL := 5) (ret := (some .int)) (by decide) rfl ?_
  intro p e s m args below meth c s₁ B hml hv
  obtain ⟨rfl, hsz, hK, hH⟩ := hv
  subst hsz
  have hx := B.exec
  have hb := B.bytes
  have hr := B.returns
  have hts := atoms_spec (ws := (wsG yX12_inside cX12_inside 5 (some .int))) B.pre
  have hG : ∀ w ∈ GW, w.before ([.ref h0, .int a0] : List Value).toArray s = true := fun w h => hts w (List.mem_cons_of_mem _ h)
  have hown : s.vm.findClass RX12 = some m.cls := findClass_of_methodNamed B.named
  have hlocks := B.notSynchronized
  have hl := lv_entry [.ref h0, .int a0] (n := 5) (Nat.le_of_ble_eq_true rfl)
  rw [lg_entry_eq]
  generalize (lg_sl [.ref h0, .int a0] ++ List.replicate (5 - (lg_sl [.ref h0, .int a0]).length) Slot.unset).toArray = ls at hl ⊢
  have hl : lv_has ls 5 [(0, .ref h0), (1, .int a0)] := hl
  have hmk : mdK g Ty := mdk_of hH k_h0
  have hS : va_S (AF Ty s.heap.size) s.heap s.heap [] := va_S.rf
  obtain ⟨⟨σ0, hTS0⟩, h10, hBB0⟩ := id hI.ti
  obtain ⟨ρ, hT⟩ := hTS0.1
  have L_32 : ∀ (n : Nat) (H : Heap) (locs : List Loc) (G_32 : Gh) (y2_32 : Int32) (y3_32 : Int32) (y4_32 : Int32) (ls : Array Slot), rgI (0) (32) (G_32.1 104) → FR [104, 105] [] [] G G_32 → rgI (0) (23) a0 → rgI (0) (23) y3_32 → rgI (0) (24) y4_32 → SB (G.2.1 (g.2.2 100)) y2_32 → thr (G.2.1 (g.2.2 100)) a0 → (24 - (y4_32).toInt).toNat < n → lv_has ls 5 [(0, .ref h0), (1, .int a0), (2, .int y2_32), (3, .int y3_32), (4, .int y4_32)] → HT g Ty G_32 H → va_S (AF Ty s.heap.size) s.heap H locs → Wm p l e (wsG yX12_inside cX12_inside 5 (some .int)) ({ frames := 3, cells := 0, slots := 0, locals := 66 }) s m [.ref h0, .int a0] below meth c H locs (0) (0) (QwI g Ty s.heap.size (fun r u => u.1 = Ty ∧ FR [104, 105] [] [] G u.2 ∧ OI g (Bd + 1000) u.2)) 0 0 (AF Ty s.heap.size) (F0 m 32 ls []) := by
    intro n
    induction n with
    | zero => intro H locs G_32 y2_32 y3_32 y4_32 ls rg104_32 fr_32 ry1_32 ry3_32 ry4_32 hi0_32 hi1_32 hm; exact absurd hm (Nat.not_lt_zero _)
    | succ n ih_32 =>
      intro H locs G_32 y2_32 y3_32 y4_32 ls rg104_32 fr_32 ry1_32 ry3_32 ry4_32 hi0_32 hi1_32 hm_32 hl hH hS
      refine lv_iload hx hb dX12_inside_32 (lv_at hl 4 rfl) ?_
      refine lv_bipush (v := 24) hx hb dX12_inside_34 (by decide) ?_
      refine lv_icmp_ge (tgt := 81) hx hb dX12_inside_36 (by decide) (fun c_1 => ?_) (fun c_1 => ?_)
      · have r_2 : rgI (24) (24) y4_32 := rg_w (rg_leR rl_24 ry4_32 c_1) (by decide) (by decide)
        refine lv_aload_n hx hb dX12_inside_81 rfl (lv_at hl 0 rfl) ?_
        refine lv_iload_n hx hb dX12_inside_82 rfl (lv_at hl 2 rfl) ?_
        obtain ⟨_, ⟨rfl, t_4, hk_5⟩, o_c_3⟩ := hH h0 _ k_h0
        refine va_calli (va_runV (As := [.int y2_32]) (rest := []) ⟨hx, hb, hml, hown, hts⟩ (c_X12_tellBits l g Ty G_32 H.size h0 y2_32 k_h0) (cwV 1 hts (gwV mw_1704 mw_1706 mw_67 mw_88 mw_1707) rfl rfl rfl hv_X12_tellBits ⟨Nat.le_of_ble_eq_true rfl, Nat.le_of_ble_eq_true rfl⟩) ⟨PcT_blind, hg_recv hK o_c_3 rfl, PcT_pre hK hH⟩ rfl rfl hl.1 rfl (lv_room (Nat.le_of_ble_eq_true rfl)) dX12_inside_83 ⟨Nat.zero_le _, Nat.zero_le _⟩) hS (fun q _ h => AF.mono hS.1 h) (fun q h => AF.mono hS.1 h) (fun x_6 ux_6 t H locs ht hvm hx_6 hB hz hk hS => ?_)
        obtain ⟨eTx_6, eGx_6⟩ := hx_6
        obtain ⟨G_7, eG_7⟩ : ∃ z, z = ux_6.2 := ⟨_, rfl⟩
        rw [← eG_7] at eGx_6
        obtain ⟨hfr_8, hex_9⟩ := eGx_6
        have fr_10 : FR [104, 105] [] [] G G_7 := FR.tr fr_32 hfr_8 (by decide) (fun _ _ => trivial) (by decide)
        have u_11 : G_7.1 102 = (G.1 102) := (hfr_8.1 102 (by decide)).trans (fr_32.1 102 (by decide))
        have u_12 : G_7.1 113 = (G.1 113) := (hfr_8.1 113 (by decide)).trans (fr_32.1 113 (by decide))
        have u_13 : G_7.1 122 = (G.1 122) := (hfr_8.1 122 (by decide)).trans (fr_32.1 122 (by decide))
        have u_14 : G_7.1 133 = (G.1 133) := (hfr_8.1 133 (by decide)).trans (fr_32.1 133 (by decide))
        have u_15 : G_7.1 137 = (G.1 137) := (hfr_8.1 137 (by decide)).trans (fr_32.1 137 (by decide))
        have w_16 : G_7.2.1 (g.2.2 100) = (G.2.1 (g.2.2 100)) := (hfr_8.2.1 (g.2.2 100) trivial).trans (fr_32.2.1 (g.2.2 100) trivial)
        have w_17 : G_7.2.1 (g.2.2 121) = (G.2.1 (g.2.2 121)) := (hfr_8.2.1 (g.2.2 121) trivial).trans (fr_32.2.1 (g.2.2 121) trivial)
        have w_18 : G_7.2.1 (g.2.2 140) = (G.2.1 (g.2.2 140)) := (hfr_8.2.1 (g.2.2 140) trivial).trans (fr_32.2.1 (g.2.2 140) trivial)
        have w_19 : G_7.2.1 (g.2.2 141) = (G.2.1 (g.2.2 141)) := (hfr_8.2.1 (g.2.2 141) trivial).trans (fr_32.2.1 (g.2.2 141) trivial)
        have w_20 : G_7.2.1 (g.2.2 111) = (G.2.1 (g.2.2 111)) := (hfr_8.2.1 (g.2.2 111) trivial).trans (fr_32.2.1 (g.2.2 111) trivial)
        have u_21 : G_7.2.2 111 = some (g.2.2 111) := (hfr_8.2.2 111 (by decide)).trans ((fr_32.2.2 111 (by decide)).trans hI.r111)
        have u_22 : G_7.2.2 112 = some (g.2.2 112) := (hfr_8.2.2 112 (by decide)).trans ((fr_32.2.2 112 (by decide)).trans hI.r112)
        have t4_23 : rgI (1) (1) (G_7.1 104) := hex_9
        have hH : HT g Ty G_7 H := by rw [← ht, ← eTx_6, eG_7]; exact hB
        refine lv_pop hx hb dX12_inside_86 rfl ?_
        refine lv_aload_n hx hb dX12_inside_87 rfl (lv_at hl 0 rfl) ?_
        refine lv_iload_n hx hb dX12_inside_88 rfl (lv_at hl 3 rfl) ?_
        refine lv_i2l hx hb dX12_inside_89 rfl ?_
        refine lv_topl (fun u_24 eu_24 => ?_)
        obtain ⟨_, ⟨rfl, t_26, hk_27⟩, o_c_25⟩ := hH h0 _ k_h0
        refine va_callv (va_runV (As := [.long u_24]) (rest := []) ⟨hx, hb, hml, hown, hts⟩ (c_X12_tell l g Ty G_7 H.size h0 u_24 k_h0 (rg_w t4_23 (by decide) (by decide))) (cwV 1 hts (gwV mw_1510 mw_1512 mw_48 mw_88 mw_1513) rfl rfl rfl hv_X12_tell ⟨Nat.le_of_ble_eq_true rfl, Nat.le_of_ble_eq_true rfl⟩) ⟨PcT_blind, hg_recv hK o_c_25 rfl, PcT_pre hK hH⟩ rfl rfl hl.1 rfl (lv_room (Nat.le_of_ble_eq_true rfl)) dX12_inside_90 ⟨Nat.zero_le _, Nat.zero_le _⟩) hS (fun q _ h => AF.mono hS.1 h) (fun q h => AF.mono hS.1 h) (fun ux_28 t H locs ht hvm hx_28 hB hz hk hS => ?_)
        obtain ⟨eTx_28, eGx_28⟩ := hx_28
        obtain ⟨G_29, eG_29⟩ : ∃ z, z = ux_28.2 := ⟨_, rfl⟩
        rw [← eG_29] at eGx_28
        obtain ⟨x_30, ex_30⟩ : ∃ z : Int32, z = (G_7.1 104) + 1 := ⟨_, rfl⟩
        have e_31 : G_29 = gset G_7 104 x_30 := by rw [ex_30]; exact eGx_28
        have rx_30 : rgI (2) (2) x_30 := by rw [ex_30]; exact rg_w (rg_add t4_23 rl_1 (by decide) (by decide)) (by decide) (by decide)
        have fr_32 : FR [104, 105] [] [] G G_29 := FR.n fr_10 e_31 (by decide)
        have u_33 : G_29.1 102 = (G.1 102) := by rw [e_31]; exact (gs_ne (by decide)).trans u_11
        have u_34 : G_29.1 113 = (G.1 113) := by rw [e_31]; exact (gs_ne (by decide)).trans u_12
        have u_35 : G_29.1 122 = (G.1 122) := by rw [e_31]; exact (gs_ne (by decide)).trans u_13
        have u_36 : G_29.1 133 = (G.1 133) := by rw [e_31]; exact (gs_ne (by decide)).trans u_14
        have u_37 : G_29.1 137 = (G.1 137) := by rw [e_31]; exact (gs_ne (by decide)).trans u_15
        have u_38 : G_29.1 104 = x_30 := by rw [e_31]; exact gs_eq
        have w_39 : G_29.2.1 (g.2.2 100) = (G.2.1 (g.2.2 100)) := by rw [e_31]; exact w_16
        have w_40 : G_29.2.1 (g.2.2 121) = (G.2.1 (g.2.2 121)) := by rw [e_31]; exact w_17
        have w_41 : G_29.2.1 (g.2.2 140) = (G.2.1 (g.2.2 140)) := by rw [e_31]; exact w_18
        have w_42 : G_29.2.1 (g.2.2 141) = (G.2.1 (g.2.2 141)) := by rw [e_31]; exact w_19
        have w_43 : G_29.2.1 (g.2.2 111) = (G.2.1 (g.2.2 111)) := by rw [e_31]; exact w_20
        have u_44 : G_29.2.2 111 = some (g.2.2 111) := by rw [e_31]; exact u_21
        have u_45 : G_29.2.2 112 = some (g.2.2 112) := by rw [e_31]; exact u_22
        have hH : HT g Ty G_29 H := by rw [← ht, ← eTx_28, eG_29]; exact hB
        refine lv_iload_n hx hb dX12_inside_93 rfl (lv_at hl 2 rfl) ?_
        exact W.iret hx hb hr (fun t ht hWm => ⟨⟨y2_32, (Ty, G_29), rfl, ⟨rfl, ⟨fr_32, ⟨(by rw [u_33]; exact (rg_w hI.a102 (by decide) (by decide))), (by rw [u_38]; exact (rg_w rx_30 (by decide) (by decide))), (by rw [u_34]; exact (rg_w hI.a113 (by decide) (by decide))), (by rw [u_35]; exact (rg_w hI.a122 (by decide) (by decide))), (by rw [u_36]; exact (rg_w hI.a133 (by decide) (by decide))), (by rw [u_37]; exact (rg_w hI.a137 (by decide) (by decide))), u_44, u_45, (by rw [w_39]; exact (hI.ti.hi (show Bd ≤ Bd + 1000 by omega))), (hI.un2 (show Bd ≤ Bd + 1000 by omega) w_40 u_35), (hI.ke2 (show Bd ≤ Bd + 1000 by omega) w_41 w_42)⟩⟩⟩, by show HT g Ty G_29 t.heap; rw [ht]; exact hH⟩, hS.F ht⟩) hS.2.2 dX12_inside_94
      · have r_46 : rgI (0) (23) y4_32 := rg_w (rg_ltL ry4_32 rl_24 (nle_lt c_1)) (by decide) (by decide)
        refine lv_iload_n hx hb dX12_inside_39 rfl (lv_at hl 2 rfl) ?_
        refine lv_iload hx hb dX12_inside_40 (lv_at hl 4 rfl) ?_
        refine vp_callSi (W.runS (As := [.int y2_32, .int y4_32]) (rest := []) ⟨hx, hb, hml, hown, hts⟩ (c_X12_has l g Ty G_32 y2_32 y4_32 ) (cwSx 2 hts hG (gwC mw_1563) mw_88 mw_1561 mw_1562 rfl rfl rfl hd_X12_has ⟨Nat.le_of_ble_eq_true rfl, Nat.le_of_ble_eq_true rfl⟩) ⟨PcH_blind, PcH_pre hK hH⟩ rfl rfl hl.1 rfl (lv_room (Nat.le_of_ble_eq_true rfl)) dX12_inside_42 ⟨Nat.zero_le _, Nat.zero_le _⟩) (fun x_47 hx_47 => ?_)
        have rx_47 : rgI (0) (1) x_47 := hx_47.1
        refine lv_if_eq (tgt := 73) hx hb dX12_inside_45 (by decide) (fun c_48 => ?_) (fun c_48 => ?_)
        · have r_49 : rgI (0) (0) x_47 := rg_w (rg_eq rl_0 c_48) (by decide) (by decide)
          have hb_50 : bt y2_32 (y4_32 : Int32).toNatClampNeg = false := has_0 (rg_w r_46 (by decide) (by decide)) (by rw [← hx_47.2]; exact c_48)
          refine lv_iload_n hx hb dX12_inside_73 rfl (lv_at hl 3 rfl) ?_
          refine lv_istore_n (lv' := [(3, .int y3_32), (0, .ref h0), (1, .int a0), (2, .int y2_32), (4, .int y4_32)]) hx hb dX12_inside_74 rfl hl (by decide) rfl (fun ls hl => ?_)
          obtain ⟨x_51, ex_51⟩ : ∃ y : Int32, y = y4_32 + 1 := ⟨_, rfl⟩
          have rx_51 : rgI (1) (24) x_51 := by rw [ex_51]; exact rg_w (rg_add r_46 rl_1 (by decide) (by decide)) (by decide) (by decide)
          have qx_51 : x_51.toInt = (y4_32 : Int32).toInt + 1 := by rw [ex_51]; exact rg_addE r_46 rl_1 (by decide) (by decide)
          refine lv_iinc (v := x_51) (lv' := [(4, .int x_51), (3, .int y3_32), (0, .ref h0), (1, .int a0), (2, .int y2_32)]) hx hb dX12_inside_75 hl (k := 4) rfl (by rw [ex_51]; rfl) (by decide) rfl (fun ls hl => ?_)
          refine lv_goto (tgt := 32) hx hb dX12_inside_78 (by decide) ?_
          exact ih_32 H locs G_32 y2_32 y3_32 x_51 ls (rg_w rg104_32 (by decide) (by decide)) fr_32 ry1_32 ry3_32 (rg_w rx_51 (by decide) (by decide)) hi0_32 hi1_32 (by have h1 := qx_51; have h2 := r_46.1; have h3 := r_46.2; have h4 := hm_32; omega) (lv_sub hl [2, 3, 4, 1, 0] rfl) hH hS
        · have r_52 : rgI (1) (1) x_47 := rg_w (rg_neL rx_47 rl_0 c_48) (by decide) (by decide)
          have hb_53 : bt y2_32 (y4_32 : Int32).toNatClampNeg = true := has_1 (rg_w r_46 (by decide) (by decide)) (by rw [← hx_47.2]; exact c_48)
          have th_54 : thr (G.2.1 (g.2.2 100)) y4_32 := SB.th hi0_32 r_46 hb_53
          refine lv_iload_n hx hb dX12_inside_48 rfl (lv_at hl 3 rfl) ?_
          refine lv_aload_n hx hb dX12_inside_49 rfl (lv_at hl 0 rfl) ?_
          obtain ⟨_, ⟨rfl, t_56, hk_57⟩, o_c_55⟩ := hH h0 _ k_h0
          refine hg_get hx hb hG igX12 hown hK o_c_55 rfl 0 (by decide) (hG _ mw_1284) rfl dX12_inside_50 ?_
          refine lv_iload hx hb dX12_inside_53 (lv_at hl 4 rfl) ?_
          refine vp_callSi (W.runS (As := [.ref (g.2.2 100), .int y4_32]) (rest := [.int y3_32]) ⟨hx, hb, hml, hown, hts⟩ (c_X12_stepsOf l g Ty G_32 (g.2.2 100) y4_32 (hk_57.1) ρ (by rw [(fr_32.2.1 (g.2.2 100) trivial)]; exact hT) (by rw [(fr_32.2.1 (g.2.2 100) trivial)]; exact th_54)) (cwSx 2 hts hG (gwC mw_1530) mw_88 mw_1528 mw_1529 rfl rfl rfl hd_X12_stepsOf ⟨Nat.le_of_ble_eq_true rfl, Nat.le_of_ble_eq_true rfl⟩) ⟨PcH_blind, PcH_pre hK hH⟩ rfl rfl hl.1 rfl (lv_room (Nat.le_of_ble_eq_true rfl)) dX12_inside_55 ⟨Nat.zero_le _, Nat.zero_le _⟩) (fun x_58 hx_58 => ?_)
          have rx_58 : rgI (0) (23) x_58 := hx_58.1
          have ex_59 : x_58 = F_X12_stepsOf (G.2.1 (g.2.2 100)) y4_32 := by rw [← (fr_32.2.1 (g.2.2 100) trivial)]; exact hx_58.2
          refine lv_aload_n hx hb dX12_inside_58 rfl (lv_at hl 0 rfl) ?_
          refine hg_get hx hb hG igX12 hown hK o_c_55 rfl 0 (by decide) (hG _ mw_1284) rfl dX12_inside_59 ?_
          refine lv_iload_n hx hb dX12_inside_62 rfl (lv_at hl 1 rfl) ?_
          refine vp_callSi (W.runS (As := [.ref (g.2.2 100), .int a0]) (rest := [.int x_58, .int y3_32]) ⟨hx, hb, hml, hown, hts⟩ (c_X12_stepsOf l g Ty G_32 (g.2.2 100) a0 (hk_57.1) ρ (by rw [(fr_32.2.1 (g.2.2 100) trivial)]; exact hT) (by rw [(fr_32.2.1 (g.2.2 100) trivial)]; exact hi1_32)) (cwSx 2 hts hG (gwC mw_1530) mw_88 mw_1528 mw_1529 rfl rfl rfl hd_X12_stepsOf ⟨Nat.le_of_ble_eq_true rfl, Nat.le_of_ble_eq_true rfl⟩) ⟨PcH_blind, PcH_pre hK hH⟩ rfl rfl hl.1 rfl (lv_room (Nat.le_of_ble_eq_true rfl)) dX12_inside_63 ⟨Nat.zero_le _, Nat.zero_le _⟩) (fun x_60 hx_60 => ?_)
          have rx_60 : rgI (0) (23) x_60 := hx_60.1
          have ex_61 : x_60 = F_X12_stepsOf (G.2.1 (g.2.2 100)) a0 := by rw [← (fr_32.2.1 (g.2.2 100) trivial)]; exact hx_60.2
          refine lv_isub hx hb dX12_inside_66 ?_
          refine lv_topi (fun x_62 ex_62 => ?_)
          have rx_62 : rgI (-23) (23) x_62 := by rw [ex_62]; exact rg_w (rg_sub rx_58 rx_60 (by decide) (by decide)) (by decide) (by decide)
          refine va_mmax hx hb (by rw [hml]; exact hl.1.symm) hown (hG _ mw_1741) (hG _ mw_473) (hG _ mw_91) (hG _ mw_474) (Nat.le_of_ble_eq_true rfl) (Nat.le_of_ble_eq_true rfl) (Nat.le_of_ble_eq_true rfl) (Nat.le_of_ble_eq_true rfl) dX12_inside_67 ?_
          refine lv_topi (fun x_63 ex_63 => ?_)
          have rx_63 : rgI (0) (23) x_63 := by rw [ex_63]; exact rg_w (show rgI (0) (23) _ from rg_mx ry3_32 rx_62 (by decide) (by decide) (by decide) (by decide)) (by decide) (by decide)
          refine lv_goto (tgt := 74) hx hb dX12_inside_70 (by decide) ?_
          refine lv_istore_n (lv' := [(3, .int x_63), (0, .ref h0), (1, .int a0), (2, .int y2_32), (4, .int y4_32)]) hx hb dX12_inside_74 rfl hl (by decide) rfl (fun ls hl => ?_)
          obtain ⟨x_64, ex_64⟩ : ∃ y : Int32, y = y4_32 + 1 := ⟨_, rfl⟩
          have rx_64 : rgI (1) (24) x_64 := by rw [ex_64]; exact rg_w (rg_add r_46 rl_1 (by decide) (by decide)) (by decide) (by decide)
          have qx_64 : x_64.toInt = (y4_32 : Int32).toInt + 1 := by rw [ex_64]; exact rg_addE r_46 rl_1 (by decide) (by decide)
          refine lv_iinc (v := x_64) (lv' := [(4, .int x_64), (3, .int x_63), (0, .ref h0), (1, .int a0), (2, .int y2_32)]) hx hb dX12_inside_75 hl (k := 4) rfl (by rw [ex_64]; rfl) (by decide) rfl (fun ls hl => ?_)
          refine lv_goto (tgt := 32) hx hb dX12_inside_78 (by decide) ?_
          exact ih_32 H locs G_32 y2_32 x_63 x_64 ls (rg_w rg104_32 (by decide) (by decide)) fr_32 ry1_32 rx_63 (rg_w rx_64 (by decide) (by decide)) hi0_32 hi1_32 (by have h1 := qx_64; have h2 := r_46.1; have h3 := r_46.2; have h4 := hm_32; omega) (lv_sub hl [2, 3, 4, 1, 0] rfl) hH hS
  refine lv_aload_n hx hb dX12_inside_0 rfl (lv_at hl 0 rfl) ?_
  refine lv_iconst (v := 0) hx hb dX12_inside_1 (by decide) ?_
  obtain ⟨_, ⟨rfl, t_66, hk_67⟩, o_c_65⟩ := hH h0 _ k_h0
  refine hg_put (ty := .int) hx hb hG igX12 tyX12 tyX12_ok nmX12 hown hK hS o_c_65 (AF.of k_h0) rfl 5 (by decide) (hG _ mw_1289) rfl (by decide +kernel) rfl rfl (Nat.le_of_ble_eq_true rfl) dX12_inside_2 (fun H locs o_c_65 hz oq hS => ?_)
  obtain ⟨G_68, eG_68⟩ : ∃ z : Gh, z = gset G 105 0 := ⟨_, rfl⟩
  have hH : HT g Ty G_68 H := by rw [eG_68]; exact HT.putN 105 0 hH k_h0 ⟨rfl, t_66, hk_67⟩ o_c_65 oq (Or.inr (Or.inr (Or.inr (Or.inr (Or.inr ⟨by decide, t_66⟩)))))
  have fr_69 : FR [104, 105] [] [] G G_68 := FR.n FR.rf eG_68 (by decide)
  have u_70 : G_68.1 102 = (G.1 102) := by rw [eG_68]; exact (gs_ne (by decide))
  have u_71 : G_68.1 104 = (G.1 104) := by rw [eG_68]; exact (gs_ne (by decide))
  have u_72 : G_68.1 113 = (G.1 113) := by rw [eG_68]; exact (gs_ne (by decide))
  have u_73 : G_68.1 122 = (G.1 122) := by rw [eG_68]; exact (gs_ne (by decide))
  have u_74 : G_68.1 133 = (G.1 133) := by rw [eG_68]; exact (gs_ne (by decide))
  have u_75 : G_68.1 137 = (G.1 137) := by rw [eG_68]; exact (gs_ne (by decide))
  have u_76 : G_68.1 105 = 0 := by rw [eG_68]; exact gs_eq
  have w_77 : G_68.2.1 (g.2.2 100) = (G.2.1 (g.2.2 100)) := by rw [eG_68]; exact rfl
  have w_78 : G_68.2.1 (g.2.2 121) = (G.2.1 (g.2.2 121)) := by rw [eG_68]; exact rfl
  have w_79 : G_68.2.1 (g.2.2 140) = (G.2.1 (g.2.2 140)) := by rw [eG_68]; exact rfl
  have w_80 : G_68.2.1 (g.2.2 141) = (G.2.1 (g.2.2 141)) := by rw [eG_68]; exact rfl
  have w_81 : G_68.2.1 (g.2.2 111) = (G.2.1 (g.2.2 111)) := by rw [eG_68]; exact rfl
  have u_82 : G_68.2.2 111 = some (g.2.2 111) := by rw [eG_68]; exact hI.r111
  have u_83 : G_68.2.2 112 = some (g.2.2 112) := by rw [eG_68]; exact hI.r112
  clear oq hz
  refine lv_aload_n hx hb dX12_inside_5 rfl (lv_at hl 0 rfl) ?_
  obtain ⟨_, ⟨rfl, t_85, hk_86⟩, o_c_84⟩ := hH h0 _ k_h0
  refine hg_get hx hb hG igX12 hown hK o_c_84 rfl 0 (by decide) (hG _ mw_1284) rfl dX12_inside_6 ?_
  refine lv_iload_n hx hb dX12_inside_9 rfl (lv_at hl 1 rfl) ?_
  refine vp_callSi (W.runS (As := [.ref (g.2.2 100), .int a0]) (rest := []) ⟨hx, hb, hml, hown, hts⟩ (c_X12_isThere l g Ty G_68 (g.2.2 100) a0 (hk_86.1)) (cwSx 2 hts hG (gwC mw_1520) mw_88 mw_1518 mw_1519 rfl rfl rfl hd_X12_isThere ⟨Nat.le_of_ble_eq_true rfl, Nat.le_of_ble_eq_true rfl⟩) ⟨PcH_blind, PcH_pre hK hH⟩ rfl rfl hl.1 rfl (lv_room (Nat.le_of_ble_eq_true rfl)) dX12_inside_10 ⟨Nat.zero_le _, Nat.zero_le _⟩) (fun x_87 hx_87 => ?_)
  have rx_87 : rgI (0) (1) x_87 := hx_87.1
  have ex_88 : x_87 = F_X12_isThere (G.2.1 (g.2.2 100)) a0 := by rw [← w_77]; exact hx_87.2.2
  refine lv_if_ne (tgt := 18) hx hb dX12_inside_13 (by decide) (fun c_89 => ?_) (fun c_89 => ?_)
  · have th_90 : thr (G.2.1 (g.2.2 100)) a0 := F_isThere_thr (by rw [← ex_88]; exact c_89)
    have r_91 : rgI (1) (1) x_87 := rg_w (rg_neL rx_87 rl_0 c_89) (by decide) (by decide)
    have r_92 : rgI (0) (23) a0 := rg_w (hx_87.2.1.resolve_left c_89) (by decide) (by decide)
    refine lv_aload_n hx hb dX12_inside_18 rfl (lv_at hl 0 rfl) ?_
    refine hg_get hx hb hG igX12 hown hK o_c_84 rfl 0 (by decide) (hG _ mw_1284) rfl dX12_inside_19 ?_
    refine lv_iload_n hx hb dX12_inside_22 rfl (lv_at hl 1 rfl) ?_
    refine vp_callSi (W.runS (As := [.ref (g.2.2 100), .int a0]) (rest := []) ⟨hx, hb, hml, hown, hts⟩ (c_X12_insideOf l g Ty G_68 (g.2.2 100) a0 (hk_86.1) ρ (by rw [w_77]; exact hT)) (cwSx 2 hts hG (gwC mw_1740) mw_88 mw_1738 mw_1739 rfl rfl rfl hd_X12_insideOf ⟨Nat.le_of_ble_eq_true rfl, Nat.le_of_ble_eq_true rfl⟩) ⟨PcH_blind, PcH_pre hK hH⟩ rfl rfl hl.1 rfl (lv_room (Nat.le_of_ble_eq_true rfl)) dX12_inside_23 ⟨Nat.zero_le _, Nat.zero_le _⟩) (fun x_93 hx_93 => ?_)
    have tx_94 := hx_93
    try rw [w_77] at tx_94
    try rw [w_81] at tx_94
    try rw [u_72] at tx_94
    refine lv_istore_n (lv' := [(2, .int x_93), (0, .ref h0), (1, .int a0)]) hx hb dX12_inside_26 rfl hl (by decide) rfl (fun ls hl => ?_)
    refine lv_iconst (v := 0) hx hb dX12_inside_27 (by decide) ?_
    refine lv_istore_n (lv' := [(3, .int 0), (2, .int x_93), (0, .ref h0), (1, .int a0)]) hx hb dX12_inside_28 rfl hl (by decide) rfl (fun ls hl => ?_)
    refine lv_iconst (v := 0) hx hb dX12_inside_29 (by decide) ?_
    refine lv_istore (lv' := [(4, .int 0), (3, .int 0), (2, .int x_93), (0, .ref h0), (1, .int a0)]) hx hb dX12_inside_30 hl (by decide) rfl (fun ls hl => ?_)
    exact L_32 _ H locs G_68 x_93 0 0 ls (by rw [u_71]; exact rg_w hI.a104 (by decide) (by decide)) fr_69 r_92 (rg_w rl_0 (by decide) (by decide)) (rg_w rl_0 (by decide) (by decide)) tx_94 th_90 (Nat.lt_succ_self _) (lv_sub hl [3, 4, 2, 1, 0] rfl) hH hS
  · have r_95 : rgI (0) (0) x_87 := rg_w (rg_eq rl_0 c_89) (by decide) (by decide)
    refine lv_iconst (v := (-1)) hx hb dX12_inside_16 (by decide) ?_
    exact W.iret hx hb hr (fun t ht hWm => ⟨⟨(-1), (Ty, G_68), rfl, ⟨rfl, ⟨fr_69, ⟨(by rw [u_70]; exact (rg_w hI.a102 (by decide) (by decide))), (by rw [u_71]; exact (rg_w hI.a104 (by decide) (by decide))), (by rw [u_72]; exact (rg_w hI.a113 (by decide) (by decide))), (by rw [u_73]; exact (rg_w hI.a122 (by decide) (by decide))), (by rw [u_74]; exact (rg_w hI.a133 (by decide) (by decide))), (by rw [u_75]; exact (rg_w hI.a137 (by decide) (by decide))), u_82, u_83, (by rw [w_77]; exact (hI.ti.hi (show Bd ≤ Bd + 1000 by omega))), (hI.un2 (show Bd ≤ Bd + 1000 by omega) w_78 u_73), (hI.ke2 (show Bd ≤ Bd + 1000 by omega) w_79 w_80)⟩⟩⟩, by show HT g Ty G_68 t.heap; rw [ht]; exact hH⟩, hS.F ht⟩) hS.2.2 dX12_inside_17

set_option maxHeartbeats 4000000 in
set_option maxRecDepth 100000 in
theorem c_X12_largest (l : Launch) (g : Gx) (Ty : TyM) (G : Gh) (sz : Nat) (h0 : Nat) (k_h0 : Ty h0 = some (22, 0)) (Bd : Int) (hI : OI g Bd G) (hBd : Bd ≤ 1900000) (hLD : LD g) : Met l yX12_largest (wsG yX12_largest cX12_largest 5 (some .int)) ({ frames := 3, cells := 0, slots := 0, locals := 66 }) (PcT g Ty G sz [.ref h0]) (QwI g Ty sz (fun r u => u.1 = Ty ∧ FR [104, 105] [] [] G u.2 ∧ OI g (Bd + 1000) u.2)) 0 0 (AF Ty sz) := by
  refine Met.ofW (cc := cX12_largest) (maxL := 5) (ret := (some .int)) (by decide) rfl ?_
  intro p e s m args below meth c s₁ B hml hv
  obtain ⟨rfl, hsz, hK, hH⟩ := hv
  subst hsz
  have hx := B.exec
  have hb := B.bytes
  have hr := B.returns
  have hts := atoms_spec (ws := (wsG yX12_largest cX12_largest 5 (some .int))) B.pre
  have hG : ∀ w ∈ GW, w.before ([.ref h0] : List Value).toArray s = true := fun w h => hts w (List.mem_cons_of_mem _ h)
  have hown : s.vm.findClass RX12 = some m.cls := findClass_of_methodNamed B.named
  have hlocks := B.notSynchronized
  have hl := lv_entry [.ref h0] (n := 5) (Nat.le_of_ble_eq_true rfl)
  rw [lg_entry_eq]
  generalize (lg_sl [.ref h0] ++ List.replicate (5 - (lg_sl [.ref h0]).length) Slot.unset).toArray = ls at hl ⊢
  have hl : lv_has ls 5 [(0, .ref h0)] := hl
  have hmk : mdK g Ty := mdk_of hH k_h0
  have hS : va_S (AF Ty s.heap.size) s.heap s.heap [] := va_S.rf
  obtain ⟨⟨σ0, hTS0⟩, h10, hBB0⟩ := id hI.ti
  obtain ⟨ρ, hT⟩ := hTS0.1
  have L_11 : ∀ (n : Nat) (H : Heap) (locs : List Loc) (G_11 : Gh) (y1_11 : Int32) (y2_11 : Int32) (y3_11 : Int32) (ls : Array Slot), rgI (0) (32) (G_11.1 104) → FR [104, 105] [] [] G G_11 → rgI (-1) (23) y1_11 → rgI (0) (64) y2_11 → rgI (1) (24) y3_11 → (24 - (y3_11).toInt).toNat < n → lv_has ls 5 [(0, .ref h0), (1, .int y1_11), (2, .int y2_11), (3, .int y3_11)] → HT g Ty G_11 H → va_S (AF Ty s.heap.size) s.heap H locs → Wm p l e (wsG yX12_largest cX12_largest 5 (some .int)) ({ frames := 3, cells := 0, slots := 0, locals := 66 }) s m [.ref h0] below meth c H locs (0) (0) (QwI g Ty s.heap.size (fun r u => u.1 = Ty ∧ FR [104, 105] [] [] G u.2 ∧ OI g (Bd + 1000) u.2)) 0 0 (AF Ty s.heap.size) (F0 m 11 ls []) := by
    intro n
    induction n with
    | zero => intro H locs G_11 y1_11 y2_11 y3_11 ls rg104_11 fr_11 ry1_11 ry2_11 ry3_11 hm; exact absurd hm (Nat.not_lt_zero _)
    | succ n ih_11 =>
      intro H locs G_11 y1_11 y2_11 y3_11 ls rg104_11 fr_11 ry1_11 ry2_11 ry3_11 hm_11 hl hH hS
      refine lv_iload_n hx hb dX12_largest_11 rfl (lv_at hl 3 rfl) ?_
      refine lv_bipush (v := 24) hx hb dX12_largest_12 (by decide) ?_
      refine lv_icmp_ge (tgt := 66) hx hb dX12_largest_14 (by decide) (fun c_1 => ?_) (fun c_1 => ?_)
      · have r_2 : rgI (24) (24) y3_11 := rg_w (rg_leR rl_24 ry3_11 c_1) (by decide) (by decide)
        refine lv_iload_n hx hb dX12_largest_66 rfl (lv_at hl 1 rfl) ?_
        refine lv_iconst (v := (-1)) hx hb dX12_largest_67 (by decide) ?_
        refine lv_icmp_ne (tgt := 74) hx hb dX12_largest_68 (by decide) (fun c_3 => ?_) (fun c_3 => ?_)
        · have r_4 : rgI (0) (23) y1_11 := rg_w (rg_neL ry1_11 rl_m1 c_3) (by decide) (by decide)
          refine lv_aload_n hx hb dX12_largest_74 rfl (lv_at hl 0 rfl) ?_
          refine lv_iconst (v := 0) hx hb dX12_largest_75 (by decide) ?_
          obtain ⟨_, ⟨rfl, t_6, hk_7⟩, o_c_5⟩ := hH h0 _ k_h0
          refine hg_put (ty := .int) hx hb hG igX12 tyX12 tyX12_ok nmX12 hown hK hS o_c_5 (AF.of k_h0) rfl 4 (by decide) (hG _ mw_1288) rfl (by decide +kernel) rfl rfl (Nat.le_of_ble_eq_true rfl) dX12_largest_76 (fun H locs o_c_5 hz oq hS => ?_)
          obtain ⟨G_8, eG_8⟩ : ∃ z : Gh, z = gset G_11 104 0 := ⟨_, rfl⟩
          have hH : HT g Ty G_8 H := by rw [eG_8]; exact HT.putN 104 0 hH k_h0 ⟨rfl, t_6, hk_7⟩ o_c_5 oq (Or.inr (Or.inr (Or.inr (Or.inr (Or.inr ⟨by decide, t_6⟩)))))
          have fr_9 : FR [104, 105] [] [] G G_8 := FR.n fr_11 eG_8 (by decide)
          have u_10 : G_8.1 102 = (G.1 102) := by rw [eG_8]; exact (gs_ne (by decide)).trans (fr_11.1 102 (by decide))
          have u_11 : G_8.1 113 = (G.1 113) := by rw [eG_8]; exact (gs_ne (by decide)).trans (fr_11.1 113 (by decide))
          have u_12 : G_8.1 122 = (G.1 122) := by rw [eG_8]; exact (gs_ne (by decide)).trans (fr_11.1 122 (by decide))
          have u_13 : G_8.1 133 = (G.1 133) := by rw [eG_8]; exact (gs_ne (by decide)).trans (fr_11.1 133 (by decide))
          have u_14 : G_8.1 137 = (G.1 137) := by rw [eG_8]; exact (gs_ne (by decide)).trans (fr_11.1 137 (by decide))
          have u_15 : G_8.1 104 = 0 := by rw [eG_8]; exact gs_eq
          have w_16 : G_8.2.1 (g.2.2 100) = (G.2.1 (g.2.2 100)) := by rw [eG_8]; exact (fr_11.2.1 (g.2.2 100) trivial)
          have w_17 : G_8.2.1 (g.2.2 121) = (G.2.1 (g.2.2 121)) := by rw [eG_8]; exact (fr_11.2.1 (g.2.2 121) trivial)
          have w_18 : G_8.2.1 (g.2.2 140) = (G.2.1 (g.2.2 140)) := by rw [eG_8]; exact (fr_11.2.1 (g.2.2 140) trivial)
          have w_19 : G_8.2.1 (g.2.2 141) = (G.2.1 (g.2.2 141)) := by rw [eG_8]; exact (fr_11.2.1 (g.2.2 141) trivial)
          have w_20 : G_8.2.1 (g.2.2 111) = (G.2.1 (g.2.2 111)) := by rw [eG_8]; exact (fr_11.2.1 (g.2.2 111) trivial)
          have u_21 : G_8.2.2 111 = some (g.2.2 111) := by rw [eG_8]; exact ((fr_11.2.2 111 (by decide)).trans hI.r111)
          have u_22 : G_8.2.2 112 = some (g.2.2 112) := by rw [eG_8]; exact ((fr_11.2.2 112 (by decide)).trans hI.r112)
          clear oq hz
          refine lv_aload_n hx hb dX12_largest_79 rfl (lv_at hl 0 rfl) ?_
          refine lv_iload_n hx hb dX12_largest_80 rfl (lv_at hl 2 rfl) ?_
          refine lv_i2l hx hb dX12_largest_81 rfl ?_
          refine lv_topl (fun u_23 eu_23 => ?_)
          obtain ⟨_, ⟨rfl, t_25, hk_26⟩, o_c_24⟩ := hH h0 _ k_h0
          refine va_callv (va_runV (As := [.long u_23]) (rest := []) ⟨hx, hb, hml, hown, hts⟩ (c_X12_tell l g Ty G_8 H.size h0 u_23 k_h0 (by rw [u_15]; exact rg_w rl_0 (by decide) (by decide))) (cwV 1 hts (gwV mw_1510 mw_1512 mw_48 mw_88 mw_1513) rfl rfl rfl hv_X12_tell ⟨Nat.le_of_ble_eq_true rfl, Nat.le_of_ble_eq_true rfl⟩) ⟨PcT_blind, hg_recv hK o_c_24 rfl, PcT_pre hK hH⟩ rfl rfl hl.1 rfl (lv_room (Nat.le_of_ble_eq_true rfl)) dX12_largest_82 ⟨Nat.zero_le _, Nat.zero_le _⟩) hS (fun q _ h => AF.mono hS.1 h) (fun q h => AF.mono hS.1 h) (fun ux_27 t H locs ht hvm hx_27 hB hz hk hS => ?_)
          obtain ⟨eTx_27, eGx_27⟩ := hx_27
          obtain ⟨G_28, eG_28⟩ : ∃ z, z = ux_27.2 := ⟨_, rfl⟩
          rw [← eG_28] at eGx_27
          obtain ⟨x_29, ex_29⟩ : ∃ z : Int32, z = 0 + 1 := ⟨_, rfl⟩
          have e_30 : G_28 = gset G_8 104 x_29 := by rw [ex_29, ← u_15]; exact eGx_27
          have rx_29 : rgI (1) (1) x_29 := by rw [ex_29]; exact rg_w (rg_add rl_0 rl_1 (by decide) (by decide)) (by decide) (by decide)
          have fr_31 : FR [104, 105] [] [] G G_28 := FR.n fr_9 e_30 (by decide)
          have u_32 : G_28.1 102 = (G.1 102) := by rw [e_30]; exact (gs_ne (by decide)).trans u_10
          have u_33 : G_28.1 113 = (G.1 113) := by rw [e_30]; exact (gs_ne (by decide)).trans u_11
          have u_34 : G_28.1 122 = (G.1 122) := by rw [e_30]; exact (gs_ne (by decide)).trans u_12
          have u_35 : G_28.1 133 = (G.1 133) := by rw [e_30]; exact (gs_ne (by decide)).trans u_13
          have u_36 : G_28.1 137 = (G.1 137) := by rw [e_30]; exact (gs_ne (by decide)).trans u_14
          have u_37 : G_28.1 104 = x_29 := by rw [e_30]; exact gs_eq
          have w_38 : G_28.2.1 (g.2.2 100) = (G.2.1 (g.2.2 100)) := by rw [e_30]; exact w_16
          have w_39 : G_28.2.1 (g.2.2 121) = (G.2.1 (g.2.2 121)) := by rw [e_30]; exact w_17
          have w_40 : G_28.2.1 (g.2.2 140) = (G.2.1 (g.2.2 140)) := by rw [e_30]; exact w_18
          have w_41 : G_28.2.1 (g.2.2 141) = (G.2.1 (g.2.2 141)) := by rw [e_30]; exact w_19
          have w_42 : G_28.2.1 (g.2.2 111) = (G.2.1 (g.2.2 111)) := by rw [e_30]; exact w_20
          have u_43 : G_28.2.2 111 = some (g.2.2 111) := by rw [e_30]; exact u_21
          have u_44 : G_28.2.2 112 = some (g.2.2 112) := by rw [e_30]; exact u_22
          have hH : HT g Ty G_28 H := by rw [← ht, ← eTx_27, eG_28]; exact hB
          refine lv_iload_n hx hb dX12_largest_85 rfl (lv_at hl 1 rfl) ?_
          exact W.iret hx hb hr (fun t ht hWm => ⟨⟨y1_11, (Ty, G_28), rfl, ⟨rfl, ⟨fr_31, ⟨(by rw [u_32]; exact (rg_w hI.a102 (by decide) (by decide))), (by rw [u_37]; exact (rg_w rx_29 (by decide) (by decide))), (by rw [u_33]; exact (rg_w hI.a113 (by decide) (by decide))), (by rw [u_34]; exact (rg_w hI.a122 (by decide) (by decide))), (by rw [u_35]; exact (rg_w hI.a133 (by decide) (by decide))), (by rw [u_36]; exact (rg_w hI.a137 (by decide) (by decide))), u_43, u_44, (by rw [w_38]; exact (hI.ti.hi (show Bd ≤ Bd + 1000 by omega))), (hI.un2 (show Bd ≤ Bd + 1000 by omega) w_39 u_34), (hI.ke2 (show Bd ≤ Bd + 1000 by omega) w_40 w_41)⟩⟩⟩, by show HT g Ty G_28 t.heap; rw [ht]; exact hH⟩, hS.F ht⟩) hS.2.2 dX12_largest_86
        · have r_45 : rgI (-1) (-1) y1_11 := rg_w (rg_eq rl_m1 c_3) (by decide) (by decide)
          refine lv_bipush (v := (-2)) hx hb dX12_largest_71 (by decide) ?_
          exact W.iret hx hb hr (fun t ht hWm => ⟨⟨(-2), (Ty, G_11), rfl, ⟨rfl, ⟨fr_11, ⟨(by rw [(fr_11.1 102 (by decide))]; exact (rg_w hI.a102 (by decide) (by decide))), (rg_w rg104_11 (by decide) (by decide)), (by rw [(fr_11.1 113 (by decide))]; exact (rg_w hI.a113 (by decide) (by decide))), (by rw [(fr_11.1 122 (by decide))]; exact (rg_w hI.a122 (by decide) (by decide))), (by rw [(fr_11.1 133 (by decide))]; exact (rg_w hI.a133 (by decide) (by decide))), (by rw [(fr_11.1 137 (by decide))]; exact (rg_w hI.a137 (by decide) (by decide))), ((fr_11.2.2 111 (by decide)).trans hI.r111), ((fr_11.2.2 112 (by decide)).trans hI.r112), (by rw [(fr_11.2.1 (g.2.2 100) trivial)]; exact (hI.ti.hi (show Bd ≤ Bd + 1000 by omega))), (hI.un2 (show Bd ≤ Bd + 1000 by omega) (fr_11.2.1 (g.2.2 121) trivial) (fr_11.1 122 (by decide))), (hI.ke2 (show Bd ≤ Bd + 1000 by omega) (fr_11.2.1 (g.2.2 140) trivial) (fr_11.2.1 (g.2.2 141) trivial))⟩⟩⟩, by show HT g Ty G_11 t.heap; rw [ht]; exact hH⟩, hS.F ht⟩) hS.2.2 dX12_largest_73
      · have r_46 : rgI (1) (23) y3_11 := rg_w (rg_ltL ry3_11 rl_24 (nle_lt c_1)) (by decide) (by decide)
        refine lv_aload_n hx hb dX12_largest_17 rfl (lv_at hl 0 rfl) ?_
        obtain ⟨_, ⟨rfl, t_48, hk_49⟩, o_c_47⟩ := hH h0 _ k_h0
        refine hg_get hx hb hG igX12 hown hK o_c_47 rfl 0 (by decide) (hG _ mw_1284) rfl dX12_largest_18 ?_
        refine lv_iload_n hx hb dX12_largest_21 rfl (lv_at hl 3 rfl) ?_
        refine vp_callSi (W.runS (As := [.ref (g.2.2 100), .int y3_11]) (rest := []) ⟨hx, hb, hml, hown, hts⟩ (c_X12_isThere l g Ty G_11 (g.2.2 100) y3_11 (hk_49.1)) (cwSx 2 hts hG (gwC mw_1520) mw_88 mw_1518 mw_1519 rfl rfl rfl hd_X12_isThere ⟨Nat.le_of_ble_eq_true rfl, Nat.le_of_ble_eq_true rfl⟩) ⟨PcH_blind, PcH_pre hK hH⟩ rfl rfl hl.1 rfl (lv_room (Nat.le_of_ble_eq_true rfl)) dX12_largest_22 ⟨Nat.zero_le _, Nat.zero_le _⟩) (fun x_50 hx_50 => ?_)
        have rx_50 : rgI (0) (1) x_50 := hx_50.1
        have ex_51 : x_50 = F_X12_isThere (G.2.1 (g.2.2 100)) y3_11 := by rw [← (fr_11.2.1 (g.2.2 100) trivial)]; exact hx_50.2.2
        refine lv_if_ne (tgt := 31) hx hb dX12_largest_25 (by decide) (fun c_52 => ?_) (fun c_52 => ?_)
        · have th_53 : thr (G.2.1 (g.2.2 100)) y3_11 := F_isThere_thr (by rw [← ex_51]; exact c_52)
          have r_54 : rgI (1) (1) x_50 := rg_w (rg_neL rx_50 rl_0 c_52) (by decide) (by decide)
          refine lv_iconst (v := 1) hx hb dX12_largest_31 (by decide) ?_
          refine lv_aload_n hx hb dX12_largest_32 rfl (lv_at hl 0 rfl) ?_
          refine hg_get hx hb hG igX12 hown hK o_c_47 rfl 0 (by decide) (hG _ mw_1284) rfl dX12_largest_33 ?_
          refine lv_iload_n hx hb dX12_largest_36 rfl (lv_at hl 3 rfl) ?_
          refine vp_callSi (W.runS (As := [.ref (g.2.2 100), .int y3_11]) (rest := [.int 1]) ⟨hx, hb, hml, hown, hts⟩ (c_X12_insideOf l g Ty G_11 (g.2.2 100) y3_11 (hk_49.1) ρ (by rw [(fr_11.2.1 (g.2.2 100) trivial)]; exact hT)) (cwSx 2 hts hG (gwC mw_1740) mw_88 mw_1738 mw_1739 rfl rfl rfl hd_X12_insideOf ⟨Nat.le_of_ble_eq_true rfl, Nat.le_of_ble_eq_true rfl⟩) ⟨PcH_blind, PcH_pre hK hH⟩ rfl rfl hl.1 rfl (lv_room (Nat.le_of_ble_eq_true rfl)) dX12_largest_37 ⟨Nat.zero_le _, Nat.zero_le _⟩) (fun x_55 hx_55 => ?_)
          have tx_56 := hx_55
          try rw [(fr_11.2.1 (g.2.2 100) trivial)] at tx_56
          try rw [(fr_11.2.1 (g.2.2 111) trivial)] at tx_56
          try rw [(fr_11.1 113 (by decide))] at tx_56
          refine vp_callSi (W.runS (As := [.int x_55]) (rest := [.int 1]) ⟨hx, hb, hml, hown, hts⟩ (c_J6_bitCount_x l g Ty G_11 x_55 ) (cwSx 1 hts hG (gwC mw_620) mw_99 mw_1553 mw_619 rfl rfl rfl hd_J6_bitCount_0f7a4 ⟨Nat.le_of_ble_eq_true rfl, Nat.le_of_ble_eq_true rfl⟩) ⟨PcH_blind, PcH_pre hK hH⟩ rfl rfl hl.1 rfl (lv_room (Nat.le_of_ble_eq_true rfl)) dX12_largest_40 ⟨Nat.zero_le _, Nat.zero_le _⟩) (fun x_57 hx_57 => ?_)
          have rx_57 : rgI (0) (63) x_57 := hx_57.1
          refine lv_iadd hx hb dX12_largest_43 ?_
          refine lv_topi (fun x_58 ex_58 => ?_)
          have rx_58 : rgI (1) (64) x_58 := by rw [ex_58]; exact rg_w (rg_add rl_1 rx_57 (by decide) (by decide)) (by decide) (by decide)
          refine lv_istore (lv' := [(4, .int x_58), (0, .ref h0), (1, .int y1_11), (2, .int y2_11), (3, .int y3_11)]) hx hb dX12_largest_44 hl (by decide) rfl (fun ls hl => ?_)
          refine lv_iload hx hb dX12_largest_46 (lv_at hl 0 rfl) ?_
          refine lv_iload_n hx hb dX12_largest_48 rfl (lv_at hl 3 rfl) ?_
          refine lv_icmp_gt (tgt := 55) hx hb dX12_largest_49 (by decide) (fun c_59 => ?_) (fun c_59 => ?_)
          · have r_60 : rgI (0) (63) y2_11 := rg_w (rg_ltL ry2_11 rx_58 c_59) (by decide) (by decide)
            refine lv_iload_n hx hb dX12_largest_55 rfl (lv_at hl 4 rfl) ?_
            refine lv_istore_n (lv' := [(1, .int y3_11), (4, .int x_58), (0, .ref h0), (2, .int y2_11), (3, .int y3_11)]) hx hb dX12_largest_56 rfl hl (by decide) rfl (fun ls hl => ?_)
            refine lv_iload hx hb dX12_largest_57 (lv_at hl 1 rfl) ?_
            refine lv_istore_n (lv' := [(2, .int x_58), (1, .int y3_11), (4, .int x_58), (0, .ref h0), (3, .int y3_11)]) hx hb dX12_largest_59 rfl hl (by decide) rfl (fun ls hl => ?_)
            obtain ⟨x_61, ex_61⟩ : ∃ y : Int32, y = y3_11 + 1 := ⟨_, rfl⟩
            have rx_61 : rgI (2) (24) x_61 := by rw [ex_61]; exact rg_w (rg_add r_46 rl_1 (by decide) (by decide)) (by decide) (by decide)
            have qx_61 : x_61.toInt = (y3_11 : Int32).toInt + 1 := by rw [ex_61]; exact rg_addE r_46 rl_1 (by decide) (by decide)
            refine lv_iinc (v := x_61) (lv' := [(3, .int x_61), (2, .int x_58), (1, .int y3_11), (4, .int x_58), (0, .ref h0)]) hx hb dX12_largest_60 hl (k := 4) rfl (by rw [ex_61]; rfl) (by decide) rfl (fun ls hl => ?_)
            refine lv_goto (tgt := 11) hx hb dX12_largest_63 (by decide) ?_
            exact ih_11 H locs G_11 y3_11 x_58 x_61 ls (rg_w rg104_11 (by decide) (by decide)) fr_11 (rg_w r_46 (by decide) (by decide)) (rg_w rx_58 (by decide) (by decide)) (rg_w rx_61 (by decide) (by decide)) (by have h1 := qx_61; have h2 := r_46.1; have h3 := r_46.2; have h4 := hm_11; omega) (lv_sub hl [4, 2, 1, 0] rfl) hH hS
          · have r_62 : rgI (1) (64) y2_11 := rg_w (rg_leR rx_58 ry2_11 (nlt_le c_59)) (by decide) (by decide)
            refine lv_goto (tgt := 60) hx hb dX12_largest_52 (by decide) ?_
            obtain ⟨x_63, ex_63⟩ : ∃ y : Int32, y = y3_11 + 1 := ⟨_, rfl⟩
            have rx_63 : rgI (2) (24) x_63 := by rw [ex_63]; exact rg_w (rg_add r_46 rl_1 (by decide) (by decide)) (by decide) (by decide)
            have qx_63 : x_63.toInt = (y3_11 : Int32).toInt + 1 := by rw [ex_63]; exact rg_addE r_46 rl_1 (by decide) (by decide)
            refine lv_iinc (v := x_63) (lv' := [(3, .int x_63), (4, .int x_58), (0, .ref h0), (1, .int y1_11), (2, .int y2_11)]) hx hb dX12_largest_60 hl (k := 4) rfl (by rw [ex_63]; rfl) (by decide) rfl (fun ls hl => ?_)
            refine lv_goto (tgt := 11) hx hb dX12_largest_63 (by decide) ?_
            exact ih_11 H locs G_11 y1_11 y2_11 x_63 ls (rg_w rg104_11 (by decide) (by decide)) fr_11 ry1_11 (rg_w r_62 (by decide) (by decide)) (rg_w rx_63 (by decide) (by decide)) (by have h1 := qx_63; have h2 := r_46.1; have h3 := r_46.2; have h4 := hm_11; omega) (lv_sub hl [2, 3, 4, 0] rfl) hH hS
        · have r_64 : rgI (0) (0) x_50 := rg_w (rg_eq rl_0 c_52) (by decide) (by decide)
          refine lv_goto (tgt := 60) hx hb dX12_largest_28 (by decide) ?_
          obtain ⟨x_65, ex_65⟩ : ∃ y : Int32, y = y3_11 + 1 := ⟨_, rfl⟩
          have rx_65 : rgI (2) (24) x_65 := by rw [ex_65]; exact rg_w (rg_add r_46 rl_1 (by decide) (by decide)) (by decide) (by decide)
          have qx_65 : x_65.toInt = (y3_11 : Int32).toInt + 1 := by rw [ex_65]; exact rg_addE r_46 rl_1 (by decide) (by decide)
          refine lv_iinc (v := x_65) (lv' := [(3, .int x_65), (0, .ref h0), (1, .int y1_11), (2, .int y2_11)]) hx hb dX12_largest_60 hl (k := 3) rfl (by rw [ex_65]; rfl) (by decide) rfl (fun ls hl => ?_)
          refine lv_goto (tgt := 11) hx hb dX12_largest_63 (by decide) ?_
          exact ih_11 H locs G_11 y1_11 y2_11 x_65 ls (rg_w rg104_11 (by decide) (by decide)) fr_11 ry1_11 ry2_11 (rg_w rx_65 (by decide) (by decide)) (by have h1 := qx_65; have h2 := r_46.1; have h3 := r_46.2; have h4 := hm_11; omega) (lv_sub hl [1, 2, 3, 0] rfl) hH hS
  refine lv_aload_n hx hb dX12_largest_0 rfl (lv_at hl 0 rfl) ?_
  refine lv_iconst (v := 0) hx hb dX12_largest_1 (by decide) ?_
  obtain ⟨_, ⟨rfl, t_67, hk_68⟩, o_c_66⟩ := hH h0 _ k_h0
  refine hg_put (ty := .int) hx hb hG igX12 tyX12 tyX12_ok nmX12 hown hK hS o_c_66 (AF.of k_h0) rfl 5 (by decide) (hG _ mw_1289) rfl (by decide +kernel) rfl rfl (Nat.le_of_ble_eq_true rfl) dX12_largest_2 (fun H locs o_c_66 hz oq hS => ?_)
  obtain ⟨G_69, eG_69⟩ : ∃ z : Gh, z = gset G 105 0 := ⟨_, rfl⟩
  have hH : HT g Ty G_69 H := by rw [eG_69]; exact HT.putN 105 0 hH k_h0 ⟨rfl, t_67, hk_68⟩ o_c_66 oq (Or.inr (Or.inr (Or.inr (Or.inr (Or.inr ⟨by decide, t_67⟩)))))
  have fr_70 : FR [104, 105] [] [] G G_69 := FR.n FR.rf eG_69 (by decide)
  have u_71 : G_69.1 102 = (G.1 102) := by rw [eG_69]; exact (gs_ne (by decide))
  have u_72 : G_69.1 104 = (G.1 104) := by rw [eG_69]; exact (gs_ne (by decide))
  have u_73 : G_69.1 113 = (G.1 113) := by rw [eG_69]; exact (gs_ne (by decide))
  have u_74 : G_69.1 122 = (G.1 122) := by rw [eG_69]; exact (gs_ne (by decide))
  have u_75 : G_69.1 133 = (G.1 133) := by rw [eG_69]; exact (gs_ne (by decide))
  have u_76 : G_69.1 137 = (G.1 137) := by rw [eG_69]; exact (gs_ne (by decide))
  have u_77 : G_69.1 105 = 0 := by rw [eG_69]; exact gs_eq
  have w_78 : G_69.2.1 (g.2.2 100) = (G.2.1 (g.2.2 100)) := by rw [eG_69]; exact rfl
  have w_79 : G_69.2.1 (g.2.2 121) = (G.2.1 (g.2.2 121)) := by rw [eG_69]; exact rfl
  have w_80 : G_69.2.1 (g.2.2 140) = (G.2.1 (g.2.2 140)) := by rw [eG_69]; exact rfl
  have w_81 : G_69.2.1 (g.2.2 141) = (G.2.1 (g.2.2 141)) := by rw [eG_69]; exact rfl
  have w_82 : G_69.2.1 (g.2.2 111) = (G.2.1 (g.2.2 111)) := by rw [eG_69]; exact rfl
  have u_83 : G_69.2.2 111 = some (g.2.2 111) := by rw [eG_69]; exact hI.r111
  have u_84 : G_69.2.2 112 = some (g.2.2 112) := by rw [eG_69]; exact hI.r112
  clear oq hz
  refine lv_iconst (v := (-1)) hx hb dX12_largest_5 (by decide) ?_
  refine lv_istore_n (lv' := [(1, .int (-1)), (0, .ref h0)]) hx hb dX12_largest_6 rfl hl (by decide) rfl (fun ls hl => ?_)
  refine lv_iconst (v := 0) hx hb dX12_largest_7 (by decide) ?_
  refine lv_istore_n (lv' := [(2, .int 0), (1, .int (-1)), (0, .ref h0)]) hx hb dX12_largest_8 rfl hl (by decide) rfl (fun ls hl => ?_)
  refine lv_iconst (v := 1) hx hb dX12_largest_9 (by decide) ?_
  refine lv_istore_n (lv' := [(3, .int 1), (2, .int 0), (1, .int (-1)), (0, .ref h0)]) hx hb dX12_largest_10 rfl hl (by decide) rfl (fun ls hl => ?_)
  exact L_11 _ H locs G_69 (-1) 0 1 ls (by rw [u_72]; exact rg_w hI.a104 (by decide) (by decide)) fr_70 (rg_w rl_m1 (by decide) (by decide)) (rg_w rl_0 (by decide) (by decide)) (rg_w rl_1 (by decide) (by decide)) (Nat.lt_succ_self _) (lv_sub hl [3, 2, 1, 0] rfl) hH hS

set_option maxHeartbeats 4000000 in
set_option maxRecDepth 100000 in
theorem c_X12_would (l : Launch) (g : Gx) (Ty : TyM) (G : Gh) (sz : Nat) (h0 : Nat) (a0 : Int32) (a1 : Int32) (k_h0 : Ty h0 = some (22, 0)) (Bd : Int) (hI : OI g Bd G) (hBd : Bd ≤ 1900000) (hLD : LD g) : Met l yX12_would (wsG yX12_would cX12_would 6 (some .int)) ({ frames := 341, cells := 0, slots := 0, locals := 7993 }) (PcT g Ty G sz [.ref h0, .int a0, .int a1]) (QwI g Ty sz (fun r u => u.1 = Ty ∧ FR [107, 108, 109, 110, 114, 104, 105] [(g.2.2 115)] [106] G u.2 ∧ OI g (Bd + 1000) u.2)) 0 0 (AF Ty sz) := by
  refine Met.ofW (cc := cX12_would) (maxL := 6) (ret := (some .int)) (by decide) rfl ?_
  intro p e s m args below meth c s₁ B hml hv
  obtain ⟨rfl, hsz, hK, hH⟩ := hv
  subst hsz
  have hx := B.exec
  have hb := B.bytes
  have hr := B.returns
  have hts := atoms_spec (ws := (wsG yX12_would cX12_would 6 (some .int))) B.pre
  have hG : ∀ w ∈ GW, w.before ([.ref h0, .int a0, .int a1] : List Value).toArray s = true := fun w h => hts w (List.mem_cons_of_mem _ h)
  have hown : s.vm.findClass RX12 = some m.cls := findClass_of_methodNamed B.named
  have hlocks := B.notSynchronized
  have hl := lv_entry [.ref h0, .int a0, .int a1] (n := 6) (Nat.le_of_ble_eq_true rfl)
  rw [lg_entry_eq]
  generalize (lg_sl [.ref h0, .int a0, .int a1] ++ List.replicate (6 - (lg_sl [.ref h0, .int a0, .int a1]).length) Slot.unset).toArray = ls at hl ⊢
  have hl : lv_has ls 6 [(0, .ref h0), (1, .int a0), (2, .int a1)] := hl
  have hmk : mdK g Ty := mdk_of hH k_h0
  have hS : va_S (AF Ty s.heap.size) s.heap s.heap [] := va_S.rf
  obtain ⟨⟨σ0, hTS0⟩, h10, hBB0⟩ := id hI.ti
  obtain ⟨ρ, hT⟩ := hTS0.1
  have L_48 : ∀ (n : Nat) (H : Heap) (locs : List Loc) (G_48 : Gh) (y4_48 : Int32) (y5_48 : Int32) (ls : Array Slot), rgI (1) (32) (G_48.1 104) → FR [107, 108, 109, 110, 114, 104, 105] [(g.2.2 115)] [106] G G_48 → rgI (0) (24) y5_48 → (24 - (y5_48).toInt).toNat < n → lv_has ls 6 [(0, .ref h0), (4, .int y4_48), (5, .int y5_48)] → HT g Ty G_48 H → va_S (AF Ty s.heap.size) s.heap H locs → Wm p l e (wsG yX12_would cX12_would 6 (some .int)) ({ frames := 341, cells := 0, slots := 0, locals := 7993 }) s m [.ref h0, .int a0, .int a1] below meth c H locs (0) (0) (QwI g Ty s.heap.size (fun r u => u.1 = Ty ∧ FR [107, 108, 109, 110, 114, 104, 105] [(g.2.2 115)] [106] G u.2 ∧ OI g (Bd + 1000) u.2)) 0 0 (AF Ty s.heap.size) (F0 m 48 ls []) := by
    intro n
    induction n with
    | zero => intro H locs G_48 y4_48 y5_48 ls rg104_48 fr_48 ry5_48 hm; exact absurd hm (Nat.not_lt_zero _)
    | succ n ih_48 =>
      intro H locs G_48 y4_48 y5_48 ls rg104_48 fr_48 ry5_48 hm_48 hl hH hS
      refine lv_iload hx hb dX12_would_48 (lv_at hl 2 rfl) ?_
      refine lv_bipush (v := 24) hx hb dX12_would_50 (by decide) ?_
      refine lv_icmp_ge (tgt := 87) hx hb dX12_would_52 (by decide) (fun c_1 => ?_) (fun c_1 => ?_)
      · have r_2 : rgI (24) (24) y5_48 := rg_w (rg_leR rl_24 ry5_48 c_1) (by decide) (by decide)
        refine lv_iconst (v := 1) hx hb dX12_would_87 (by decide) ?_
        refine lv_iload hx hb dX12_would_88 (lv_at hl 1 rfl) ?_
        refine vp_callSi (W.runS (As := [.int y4_48]) (rest := [.int 1]) ⟨hx, hb, hml, hown, hts⟩ (c_J6_bitCount_x l g Ty G_48 y4_48 ) (cwSx 1 hts hG (gwC mw_620) mw_99 mw_1553 mw_619 rfl rfl rfl hd_J6_bitCount_0f7a4 ⟨Nat.le_of_ble_eq_true rfl, Nat.le_of_ble_eq_true rfl⟩) ⟨PcH_blind, PcH_pre hK hH⟩ rfl rfl hl.1 rfl (lv_room (Nat.le_of_ble_eq_true rfl)) dX12_would_90 ⟨Nat.zero_le _, Nat.zero_le _⟩) (fun x_3 hx_3 => ?_)
        have rx_3 : rgI (0) (63) x_3 := hx_3.1
        refine lv_iadd hx hb dX12_would_93 ?_
        refine lv_topi (fun x_4 ex_4 => ?_)
        have rx_4 : rgI (1) (64) x_4 := by rw [ex_4]; exact rg_w (rg_add rl_1 rx_3 (by decide) (by decide)) (by decide) (by decide)
        exact W.iret hx hb hr (fun t ht hWm => ⟨⟨x_4, (Ty, G_48), rfl, ⟨rfl, ⟨fr_48, ⟨(by rw [(fr_48.1 102 (by decide))]; exact (rg_w hI.a102 (by decide) (by decide))), (rg_w rg104_48 (by decide) (by decide)), (by rw [(fr_48.1 113 (by decide))]; exact (rg_w hI.a113 (by decide) (by decide))), (by rw [(fr_48.1 122 (by decide))]; exact (rg_w hI.a122 (by decide) (by decide))), (by rw [(fr_48.1 133 (by decide))]; exact (rg_w hI.a133 (by decide) (by decide))), (by rw [(fr_48.1 137 (by decide))]; exact (rg_w hI.a137 (by decide) (by decide))), ((fr_48.2.2 111 (by decide)).trans hI.r111), ((fr_48.2.2 112 (by decide)).trans hI.r112), (by rw [(fr_48.2.1 (g.2.2 100) ⟨(ne_kd hmk.1 hmk.2.2.2.1 (by decide)), trivial⟩)]; exact (hI.ti.hi (show Bd ≤ Bd + 1000 by omega))), (hI.un2 (show Bd ≤ Bd + 1000 by omega) (fr_48.2.1 (g.2.2 121) ⟨(ne_kd hmk.2.2.2.2.2.1 hmk.2.2.2.1 (by decide)), trivial⟩) (fr_48.1 122 (by decide))), (hI.ke2 (show Bd ≤ Bd + 1000 by omega) (fr_48.2.1 (g.2.2 140) ⟨(ne_kd hmk.2.2.2.2.2.2.2.2.2.2.2.2.2.2.2.2.2.2.1 hmk.2.2.2.1 (by decide)), trivial⟩) (fr_48.2.1 (g.2.2 141) ⟨(ne_kd hmk.2.2.2.2.2.2.2.2.2.2.2.2.2.2.2.2.2.2.2.1 hmk.2.2.2.1 (by decide)), trivial⟩))⟩⟩⟩, by show HT g Ty G_48 t.heap; rw [ht]; exact hH⟩, hS.F ht⟩) hS.2.2 dX12_would_94
      · have r_5 : rgI (0) (23) y5_48 := rg_w (rg_ltL ry5_48 rl_24 (nle_lt c_1)) (by decide) (by decide)
        refine lv_iload hx hb dX12_would_55 (lv_at hl 1 rfl) ?_
        refine lv_iload hx hb dX12_would_57 (lv_at hl 2 rfl) ?_
        refine vp_callSi (W.runS (As := [.int y4_48, .int y5_48]) (rest := []) ⟨hx, hb, hml, hown, hts⟩ (c_X12_has l g Ty G_48 y4_48 y5_48 ) (cwSx 2 hts hG (gwC mw_1563) mw_88 mw_1561 mw_1562 rfl rfl rfl hd_X12_has ⟨Nat.le_of_ble_eq_true rfl, Nat.le_of_ble_eq_true rfl⟩) ⟨PcH_blind, PcH_pre hK hH⟩ rfl rfl hl.1 rfl (lv_room (Nat.le_of_ble_eq_true rfl)) dX12_would_59 ⟨Nat.zero_le _, Nat.zero_le _⟩) (fun x_6 hx_6 => ?_)
        have rx_6 : rgI (0) (1) x_6 := hx_6.1
        refine lv_if_eq (tgt := 81) hx hb dX12_would_62 (by decide) (fun c_7 => ?_) (fun c_7 => ?_)
        · have r_8 : rgI (0) (0) x_6 := rg_w (rg_eq rl_0 c_7) (by decide) (by decide)
          have hb_9 : bt y4_48 (y5_48 : Int32).toNatClampNeg = false := has_0 (rg_w r_5 (by decide) (by decide)) (by rw [← hx_6.2]; exact c_7)
          obtain ⟨x_10, ex_10⟩ : ∃ y : Int32, y = y5_48 + 1 := ⟨_, rfl⟩
          have rx_10 : rgI (1) (24) x_10 := by rw [ex_10]; exact rg_w (rg_add r_5 rl_1 (by decide) (by decide)) (by decide) (by decide)
          have qx_10 : x_10.toInt = (y5_48 : Int32).toInt + 1 := by rw [ex_10]; exact rg_addE r_5 rl_1 (by decide) (by decide)
          refine lv_iinc (v := x_10) (lv' := [(5, .int x_10), (0, .ref h0), (4, .int y4_48)]) hx hb dX12_would_81 hl (k := 2) rfl (by rw [ex_10]; rfl) (by decide) rfl (fun ls hl => ?_)
          refine lv_goto (tgt := 48) hx hb dX12_would_84 (by decide) ?_
          exact ih_48 H locs G_48 y4_48 x_10 ls (rg_w rg104_48 (by decide) (by decide)) fr_48 (rg_w rx_10 (by decide) (by decide)) (by have h1 := qx_10; have h2 := r_5.1; have h3 := r_5.2; have h4 := hm_48; omega) (lv_sub hl [1, 2, 0] rfl) hH hS
        · have r_11 : rgI (1) (1) x_6 := rg_w (rg_neL rx_6 rl_0 c_7) (by decide) (by decide)
          have hb_12 : bt y4_48 (y5_48 : Int32).toNatClampNeg = true := has_1 (rg_w r_5 (by decide) (by decide)) (by rw [← hx_6.2]; exact c_7)
          refine lv_aload_n hx hb dX12_would_65 rfl (lv_at hl 0 rfl) ?_
          obtain ⟨_, ⟨rfl, t_14, hk_15⟩, o_c_13⟩ := hH h0 _ k_h0
          refine hg_get hx hb hG igX12 hown hK o_c_13 rfl 4 (by decide) (hG _ mw_1288) rfl dX12_would_66 ?_
          refine lv_bipush (v := 14) hx hb dX12_would_69 (by decide) ?_
          refine lv_icmp_ge (tgt := 81) hx hb dX12_would_71 (by decide) (fun c_16 => ?_) (fun c_16 => ?_)
          · have r_17 : rgI (14) (32) (G_48.1 104) := rg_w (rg_leR rl_14 rg104_48 c_16) (by decide) (by decide)
            obtain ⟨x_18, ex_18⟩ : ∃ y : Int32, y = y5_48 + 1 := ⟨_, rfl⟩
            have rx_18 : rgI (1) (24) x_18 := by rw [ex_18]; exact rg_w (rg_add r_5 rl_1 (by decide) (by decide)) (by decide) (by decide)
            have qx_18 : x_18.toInt = (y5_48 : Int32).toInt + 1 := by rw [ex_18]; exact rg_addE r_5 rl_1 (by decide) (by decide)
            refine lv_iinc (v := x_18) (lv' := [(5, .int x_18), (0, .ref h0), (4, .int y4_48)]) hx hb dX12_would_81 hl (k := 2) rfl (by rw [ex_18]; rfl) (by decide) rfl (fun ls hl => ?_)
            refine lv_goto (tgt := 48) hx hb dX12_would_84 (by decide) ?_
            exact ih_48 H locs G_48 y4_48 x_18 ls (rg_w r_17 (by decide) (by decide)) fr_48 (rg_w rx_18 (by decide) (by decide)) (by have h1 := qx_18; have h2 := r_5.1; have h3 := r_5.2; have h4 := hm_48; omega) (lv_sub hl [1, 2, 0] rfl) hH hS
          · have r_19 : rgI (1) (13) (G_48.1 104) := rg_w (rg_ltL rg104_48 rl_14 (nle_lt c_16)) (by decide) (by decide)
            refine lv_aload_n hx hb dX12_would_74 rfl (lv_at hl 0 rfl) ?_
            refine lv_iload hx hb dX12_would_75 (lv_at hl 2 rfl) ?_
            refine lv_i2l hx hb dX12_would_77 rfl ?_
            refine lv_topl (fun u_20 eu_20 => ?_)
            refine va_callv (va_runV (As := [.long u_20]) (rest := []) ⟨hx, hb, hml, hown, hts⟩ (c_X12_tell l g Ty G_48 H.size h0 u_20 k_h0 (rg_w r_19 (by decide) (by decide))) (cwV 1 hts (gwV mw_1510 mw_1512 mw_48 mw_88 mw_1513) rfl rfl rfl hv_X12_tell ⟨Nat.le_of_ble_eq_true rfl, Nat.le_of_ble_eq_true rfl⟩) ⟨PcT_blind, hg_recv hK o_c_13 rfl, PcT_pre hK hH⟩ rfl rfl hl.1 rfl (lv_room (Nat.le_of_ble_eq_true rfl)) dX12_would_78 ⟨Nat.zero_le _, Nat.zero_le _⟩) hS (fun q _ h => AF.mono hS.1 h) (fun q h => AF.mono hS.1 h) (fun ux_21 t H locs ht hvm hx_21 hB hz hk hS => ?_)
            obtain ⟨eTx_21, eGx_21⟩ := hx_21
            obtain ⟨G_22, eG_22⟩ : ∃ z, z = ux_21.2 := ⟨_, rfl⟩
            rw [← eG_22] at eGx_21
            obtain ⟨x_23, ex_23⟩ : ∃ z : Int32, z = (G_48.1 104) + 1 := ⟨_, rfl⟩
            have e_24 : G_22 = gset G_48 104 x_23 := by rw [ex_23]; exact eGx_21
            have rx_23 : rgI (2) (14) x_23 := by rw [ex_23]; exact rg_w (rg_add r_19 rl_1 (by decide) (by decide)) (by decide) (by decide)
            have fr_25 : FR [107, 108, 109, 110, 114, 104, 105] [(g.2.2 115)] [106] G G_22 := FR.n fr_48 e_24 (by decide)
            have u_26 : G_22.1 102 = (G.1 102) := by rw [e_24]; exact (gs_ne (by decide)).trans (fr_48.1 102 (by decide))
            have u_27 : G_22.1 113 = (G.1 113) := by rw [e_24]; exact (gs_ne (by decide)).trans (fr_48.1 113 (by decide))
            have u_28 : G_22.1 122 = (G.1 122) := by rw [e_24]; exact (gs_ne (by decide)).trans (fr_48.1 122 (by decide))
            have u_29 : G_22.1 133 = (G.1 133) := by rw [e_24]; exact (gs_ne (by decide)).trans (fr_48.1 133 (by decide))
            have u_30 : G_22.1 137 = (G.1 137) := by rw [e_24]; exact (gs_ne (by decide)).trans (fr_48.1 137 (by decide))
            have u_31 : G_22.1 104 = x_23 := by rw [e_24]; exact gs_eq
            have w_32 : G_22.2.1 (g.2.2 100) = (G.2.1 (g.2.2 100)) := by rw [e_24]; exact (fr_48.2.1 (g.2.2 100) ⟨(ne_kd hmk.1 hmk.2.2.2.1 (by decide)), trivial⟩)
            have w_33 : G_22.2.1 (g.2.2 121) = (G.2.1 (g.2.2 121)) := by rw [e_24]; exact (fr_48.2.1 (g.2.2 121) ⟨(ne_kd hmk.2.2.2.2.2.1 hmk.2.2.2.1 (by decide)), trivial⟩)
            have w_34 : G_22.2.1 (g.2.2 140) = (G.2.1 (g.2.2 140)) := by rw [e_24]; exact (fr_48.2.1 (g.2.2 140) ⟨(ne_kd hmk.2.2.2.2.2.2.2.2.2.2.2.2.2.2.2.2.2.2.1 hmk.2.2.2.1 (by decide)), trivial⟩)
            have w_35 : G_22.2.1 (g.2.2 141) = (G.2.1 (g.2.2 141)) := by rw [e_24]; exact (fr_48.2.1 (g.2.2 141) ⟨(ne_kd hmk.2.2.2.2.2.2.2.2.2.2.2.2.2.2.2.2.2.2.2.1 hmk.2.2.2.1 (by decide)), trivial⟩)
            have w_36 : G_22.2.1 (g.2.2 111) = (G.2.1 (g.2.2 111)) := by rw [e_24]; exact (fr_48.2.1 (g.2.2 111) ⟨(ne_kd hmk.2.2.2.2.2.2.2.2.2.2.2.2.2.2.2.2.2.2.2.2.1 hmk.2.2.2.1 (by decide)), trivial⟩)
            have u_37 : G_22.2.2 111 = some (g.2.2 111) := by rw [e_24]; exact ((fr_48.2.2 111 (by decide)).trans hI.r111)
            have u_38 : G_22.2.2 112 = some (g.2.2 112) := by rw [e_24]; exact ((fr_48.2.2 112 (by decide)).trans hI.r112)
            have hH : HT g Ty G_22 H := by rw [← ht, ← eTx_21, eG_22]; exact hB
            obtain ⟨x_39, ex_39⟩ : ∃ y : Int32, y = y5_48 + 1 := ⟨_, rfl⟩
            have rx_39 : rgI (1) (24) x_39 := by rw [ex_39]; exact rg_w (rg_add r_5 rl_1 (by decide) (by decide)) (by decide) (by decide)
            have qx_39 : x_39.toInt = (y5_48 : Int32).toInt + 1 := by rw [ex_39]; exact rg_addE r_5 rl_1 (by decide) (by decide)
            refine lv_iinc (v := x_39) (lv' := [(5, .int x_39), (0, .ref h0), (4, .int y4_48)]) hx hb dX12_would_81 hl (k := 2) rfl (by rw [ex_39]; rfl) (by decide) rfl (fun ls hl => ?_)
            refine lv_goto (tgt := 48) hx hb dX12_would_84 (by decide) ?_
            exact ih_48 H locs G_22 y4_48 x_39 ls (by rw [u_31]; exact rg_w rx_23 (by decide) (by decide)) fr_25 (rg_w rx_39 (by decide) (by decide)) (by have h1 := qx_39; have h2 := r_5.1; have h3 := r_5.2; have h4 := hm_48; omega) (lv_sub hl [1, 2, 0] rfl) hH hS
  refine lv_aload_n hx hb dX12_would_0 rfl (lv_at hl 0 rfl) ?_
  refine lv_iconst (v := 0) hx hb dX12_would_1 (by decide) ?_
  obtain ⟨_, ⟨rfl, t_41, hk_42⟩, o_c_40⟩ := hH h0 _ k_h0
  refine hg_put (ty := .int) hx hb hG igX12 tyX12 tyX12_ok nmX12 hown hK hS o_c_40 (AF.of k_h0) rfl 5 (by decide) (hG _ mw_1289) rfl (by decide +kernel) rfl rfl (Nat.le_of_ble_eq_true rfl) dX12_would_2 (fun H locs o_c_40 hz oq hS => ?_)
  obtain ⟨G_43, eG_43⟩ : ∃ z : Gh, z = gset G 105 0 := ⟨_, rfl⟩
  have hH : HT g Ty G_43 H := by rw [eG_43]; exact HT.putN 105 0 hH k_h0 ⟨rfl, t_41, hk_42⟩ o_c_40 oq (Or.inr (Or.inr (Or.inr (Or.inr (Or.inr ⟨by decide, t_41⟩)))))
  have fr_44 : FR [107, 108, 109, 110, 114, 104, 105] [(g.2.2 115)] [106] G G_43 := FR.n FR.rf eG_43 (by decide)
  have u_45 : G_43.1 102 = (G.1 102) := by rw [eG_43]; exact (gs_ne (by decide))
  have u_46 : G_43.1 104 = (G.1 104) := by rw [eG_43]; exact (gs_ne (by decide))
  have u_47 : G_43.1 113 = (G.1 113) := by rw [eG_43]; exact (gs_ne (by decide))
  have u_48 : G_43.1 122 = (G.1 122) := by rw [eG_43]; exact (gs_ne (by decide))
  have u_49 : G_43.1 133 = (G.1 133) := by rw [eG_43]; exact (gs_ne (by decide))
  have u_50 : G_43.1 137 = (G.1 137) := by rw [eG_43]; exact (gs_ne (by decide))
  have u_51 : G_43.1 105 = 0 := by rw [eG_43]; exact gs_eq
  have w_52 : G_43.2.1 (g.2.2 100) = (G.2.1 (g.2.2 100)) := by rw [eG_43]; exact rfl
  have w_53 : G_43.2.1 (g.2.2 121) = (G.2.1 (g.2.2 121)) := by rw [eG_43]; exact rfl
  have w_54 : G_43.2.1 (g.2.2 140) = (G.2.1 (g.2.2 140)) := by rw [eG_43]; exact rfl
  have w_55 : G_43.2.1 (g.2.2 141) = (G.2.1 (g.2.2 141)) := by rw [eG_43]; exact rfl
  have w_56 : G_43.2.1 (g.2.2 111) = (G.2.1 (g.2.2 111)) := by rw [eG_43]; exact rfl
  have u_57 : G_43.2.2 111 = some (g.2.2 111) := by rw [eG_43]; exact hI.r111
  have u_58 : G_43.2.2 112 = some (g.2.2 112) := by rw [eG_43]; exact hI.r112
  clear oq hz
  refine lv_aload_n hx hb dX12_would_5 rfl (lv_at hl 0 rfl) ?_
  refine lv_aload_n hx hb dX12_would_6 rfl (lv_at hl 0 rfl) ?_
  obtain ⟨_, ⟨rfl, t_60, hk_61⟩, o_c_59⟩ := hH h0 _ k_h0
  refine hg_get hx hb hG igX12 hown hK o_c_59 rfl 0 (by decide) (hG _ mw_1284) rfl dX12_would_7 ?_
  refine lv_iload_n hx hb dX12_would_10 rfl (lv_at hl 1 rfl) ?_
  refine lv_iload_n hx hb dX12_would_11 rfl (lv_at hl 2 rfl) ?_
  refine va_calli (va_runV (As := [.ref (g.2.2 100), .int a0, .int a1]) (rest := []) ⟨hx, hb, hml, hown, hts⟩ (c_X12_refusesComing l g Ty G_43 H.size h0 (g.2.2 100) a0 a1 k_h0 (hk_61.1) ρ (by rw [w_52]; exact hT) (g.2.2 111) hmk.2.2.2.2.2.2.2.2.2.2.2.2.2.2.2.2.2.2.2.2.1 u_57 (by rw [u_47]; exact hI.a113)) (cwV 3 hts (gwV mw_1546 mw_1548 mw_50 mw_88 mw_1549) rfl rfl rfl hv_X12_refusesComing ⟨Nat.le_of_ble_eq_true rfl, Nat.le_of_ble_eq_true rfl⟩) ⟨PcT_blind, hg_recv hK o_c_59 rfl, PcT_pre hK hH⟩ rfl rfl hl.1 rfl (lv_room (Nat.le_of_ble_eq_true rfl)) dX12_would_12 ⟨Nat.zero_le _, Nat.zero_le _⟩) hS (fun q _ h => AF.mono hS.1 h) (fun q h => AF.mono hS.1 h) (fun x_62 ux_62 t H locs ht hvm hx_62 hB hz hk hS => ?_)
  obtain ⟨hx_62, fx_62⟩ := hx_62
  obtain ⟨eTx_62, eGx_62⟩ := fx_62
  obtain ⟨G_63, eG_63⟩ : ∃ z, z = ux_62.2 := ⟨_, rfl⟩
  rw [← eG_63] at eGx_62
  have fr_64 : FR [107, 108, 109, 110, 114, 104, 105] [(g.2.2 115)] [106] G G_63 := FR.tr fr_44 eGx_62 (by decide) (fun b h => ⟨h.1, trivial⟩) (by decide)
  have u_65 : G_63.1 102 = (G.1 102) := (eGx_62.1 102 (by decide)).trans u_45
  have u_66 : G_63.1 104 = (G.1 104) := (eGx_62.1 104 (by decide)).trans u_46
  have u_67 : G_63.1 113 = (G.1 113) := (eGx_62.1 113 (by decide)).trans u_47
  have u_68 : G_63.1 122 = (G.1 122) := (eGx_62.1 122 (by decide)).trans u_48
  have u_69 : G_63.1 133 = (G.1 133) := (eGx_62.1 133 (by decide)).trans u_49
  have u_70 : G_63.1 137 = (G.1 137) := (eGx_62.1 137 (by decide)).trans u_50
  have u_71 : G_63.1 105 = 0 := (eGx_62.1 105 (by decide)).trans u_51
  have w_72 : G_63.2.1 (g.2.2 100) = (G.2.1 (g.2.2 100)) := (eGx_62.2.1 (g.2.2 100) ⟨(ne_kd hmk.1 hmk.2.2.2.1 (by decide)), trivial⟩).trans w_52
  have w_73 : G_63.2.1 (g.2.2 121) = (G.2.1 (g.2.2 121)) := (eGx_62.2.1 (g.2.2 121) ⟨(ne_kd hmk.2.2.2.2.2.1 hmk.2.2.2.1 (by decide)), trivial⟩).trans w_53
  have w_74 : G_63.2.1 (g.2.2 140) = (G.2.1 (g.2.2 140)) := (eGx_62.2.1 (g.2.2 140) ⟨(ne_kd hmk.2.2.2.2.2.2.2.2.2.2.2.2.2.2.2.2.2.2.1 hmk.2.2.2.1 (by decide)), trivial⟩).trans w_54
  have w_75 : G_63.2.1 (g.2.2 141) = (G.2.1 (g.2.2 141)) := (eGx_62.2.1 (g.2.2 141) ⟨(ne_kd hmk.2.2.2.2.2.2.2.2.2.2.2.2.2.2.2.2.2.2.2.1 hmk.2.2.2.1 (by decide)), trivial⟩).trans w_55
  have w_76 : G_63.2.1 (g.2.2 111) = (G.2.1 (g.2.2 111)) := (eGx_62.2.1 (g.2.2 111) ⟨(ne_kd hmk.2.2.2.2.2.2.2.2.2.2.2.2.2.2.2.2.2.2.2.2.1 hmk.2.2.2.1 (by decide)), trivial⟩).trans w_56
  have u_77 : G_63.2.2 111 = some (g.2.2 111) := (eGx_62.2.2 111 (by decide)).trans u_57
  have u_78 : G_63.2.2 112 = some (g.2.2 112) := (eGx_62.2.2 112 (by decide)).trans u_58
  have hH : HT g Ty G_63 H := by rw [← ht, ← eTx_62, eG_63]; exact hB
  have rx_62 : rgI (-9) (0) x_62 := hx_62.1
  have tx_79 := hx_62.2
  try rw [w_52] at tx_79
  try rw [w_56] at tx_79
  try rw [u_47] at tx_79
  refine lv_istore_n (lv' := [(3, .int x_62), (0, .ref h0), (1, .int a0), (2, .int a1)]) hx hb dX12_would_15 rfl hl (by decide) rfl (fun ls hl => ?_)
  refine lv_iload_n hx hb dX12_would_16 rfl (lv_at hl 0 rfl) ?_
  refine lv_if_ge (tgt := 22) hx hb dX12_would_17 (by decide) (fun c_80 => ?_) (fun c_80 => ?_)
  · have r_81 : rgI (0) (0) x_62 := rg_w (rg_leR rl_0 rx_62 c_80) (by decide) (by decide)
    have c0_82 := tx_79 (rg_00 r_81 c_80)
    refine lv_aload_n hx hb dX12_would_22 rfl (lv_at hl 1 rfl) ?_
    refine lv_aload_n hx hb dX12_would_23 rfl (lv_at hl 1 rfl) ?_
    obtain ⟨_, ⟨rfl, t_84, hk_85⟩, o_c_83⟩ := hH h0 _ k_h0
    refine hg_get hx hb hG igX12 hown hK o_c_83 rfl 0 (by decide) (hG _ mw_1284) rfl dX12_would_24 ?_
    refine lv_iload_n hx hb dX12_would_27 rfl (lv_at hl 2 rfl) ?_
    refine lv_iload_n hx hb dX12_would_28 rfl (lv_at hl 3 rfl) ?_
    refine va_calli (va_runV (As := [.ref (g.2.2 100), .int a0, .int a1]) (rest := []) ⟨hx, hb, hml, hown, hts⟩ (c_X12_hitsOf l g Ty G_63 H.size h0 (g.2.2 100) a0 a1 k_h0 (hk_85.1) ρ (by rw [w_72]; exact hT) (by rw [w_72]; exact c0_82.1) (g.2.2 111) hmk.2.2.2.2.2.2.2.2.2.2.2.2.2.2.2.2.2.2.2.2.1 u_77 (by rw [u_67]; exact hI.a113)) (cwV 3 hts (gwV mw_1554 mw_1556 mw_51 mw_88 mw_1557) rfl rfl rfl hv_X12_hitsOf ⟨Nat.le_of_ble_eq_true rfl, Nat.le_of_ble_eq_true rfl⟩) ⟨PcT_blind, hg_recv hK o_c_83 rfl, PcT_pre hK hH⟩ rfl rfl hl.1 rfl (lv_room (Nat.le_of_ble_eq_true rfl)) dX12_would_29 ⟨Nat.zero_le _, Nat.zero_le _⟩) hS (fun q _ h => AF.mono hS.1 h) (fun q h => AF.mono hS.1 h) (fun x_86 ux_86 t H locs ht hvm hx_86 hB hz hk hS => ?_)
    obtain ⟨hx_86, fx_86⟩ := hx_86
    obtain ⟨eTx_86, eGx_86⟩ := fx_86
    obtain ⟨G_87, eG_87⟩ : ∃ z, z = ux_86.2 := ⟨_, rfl⟩
    rw [← eG_87] at eGx_86
    have fr_88 : FR [107, 108, 109, 110, 114, 104, 105] [(g.2.2 115)] [106] G G_87 := FR.tr fr_64 eGx_86 (by decide) (fun b h => ⟨h.1, trivial⟩) (by decide)
    have u_89 : G_87.1 102 = (G.1 102) := (eGx_86.1 102 (by decide)).trans u_65
    have u_90 : G_87.1 104 = (G.1 104) := (eGx_86.1 104 (by decide)).trans u_66
    have u_91 : G_87.1 113 = (G.1 113) := (eGx_86.1 113 (by decide)).trans u_67
    have u_92 : G_87.1 122 = (G.1 122) := (eGx_86.1 122 (by decide)).trans u_68
    have u_93 : G_87.1 133 = (G.1 133) := (eGx_86.1 133 (by decide)).trans u_69
    have u_94 : G_87.1 137 = (G.1 137) := (eGx_86.1 137 (by decide)).trans u_70
    have u_95 : G_87.1 105 = 0 := (eGx_86.1 105 (by decide)).trans u_71
    have w_96 : G_87.2.1 (g.2.2 100) = (G.2.1 (g.2.2 100)) := (eGx_86.2.1 (g.2.2 100) ⟨(ne_kd hmk.1 hmk.2.2.2.1 (by decide)), trivial⟩).trans w_72
    have w_97 : G_87.2.1 (g.2.2 121) = (G.2.1 (g.2.2 121)) := (eGx_86.2.1 (g.2.2 121) ⟨(ne_kd hmk.2.2.2.2.2.1 hmk.2.2.2.1 (by decide)), trivial⟩).trans w_73
    have w_98 : G_87.2.1 (g.2.2 140) = (G.2.1 (g.2.2 140)) := (eGx_86.2.1 (g.2.2 140) ⟨(ne_kd hmk.2.2.2.2.2.2.2.2.2.2.2.2.2.2.2.2.2.2.1 hmk.2.2.2.1 (by decide)), trivial⟩).trans w_74
    have w_99 : G_87.2.1 (g.2.2 141) = (G.2.1 (g.2.2 141)) := (eGx_86.2.1 (g.2.2 141) ⟨(ne_kd hmk.2.2.2.2.2.2.2.2.2.2.2.2.2.2.2.2.2.2.2.1 hmk.2.2.2.1 (by decide)), trivial⟩).trans w_75
    have w_100 : G_87.2.1 (g.2.2 111) = (G.2.1 (g.2.2 111)) := (eGx_86.2.1 (g.2.2 111) ⟨(ne_kd hmk.2.2.2.2.2.2.2.2.2.2.2.2.2.2.2.2.2.2.2.2.1 hmk.2.2.2.1 (by decide)), trivial⟩).trans w_76
    have u_101 : G_87.2.2 111 = some (g.2.2 111) := (eGx_86.2.2 111 (by decide)).trans u_77
    have u_102 : G_87.2.2 112 = some (g.2.2 112) := (eGx_86.2.2 112 (by decide)).trans u_78
    have hH : HT g Ty G_87 H := by rw [← ht, ← eTx_86, eG_87]; exact hB
    have tx_103 := hx_86.1
    try rw [w_72] at tx_103
    try rw [w_76] at tx_103
    try rw [u_67] at tx_103
    have tx_104 := hx_86.2
    try rw [w_72] at tx_104
    try rw [w_76] at tx_104
    try rw [u_67] at tx_104
    refine lv_istore (lv' := [(4, .int x_86), (3, .int x_62), (0, .ref h0), (1, .int a0), (2, .int a1)]) hx hb dX12_would_32 hl (by decide) rfl (fun ls hl => ?_)
    refine lv_aload_n hx hb dX12_would_34 rfl (lv_at hl 2 rfl) ?_
    refine lv_iconst (v := 0) hx hb dX12_would_35 (by decide) ?_
    obtain ⟨_, ⟨rfl, t_106, hk_107⟩, o_c_105⟩ := hH h0 _ k_h0
    refine hg_put (ty := .int) hx hb hG igX12 tyX12 tyX12_ok nmX12 hown hK hS o_c_105 (AF.of k_h0) rfl 4 (by decide) (hG _ mw_1288) rfl (by decide +kernel) rfl rfl (Nat.le_of_ble_eq_true rfl) dX12_would_36 (fun H locs o_c_105 hz oq hS => ?_)
    obtain ⟨G_108, eG_108⟩ : ∃ z : Gh, z = gset G_87 104 0 := ⟨_, rfl⟩
    have hH : HT g Ty G_108 H := by rw [eG_108]; exact HT.putN 104 0 hH k_h0 ⟨rfl, t_106, hk_107⟩ o_c_105 oq (Or.inr (Or.inr (Or.inr (Or.inr (Or.inr ⟨by decide, t_106⟩)))))
    have fr_109 : FR [107, 108, 109, 110, 114, 104, 105] [(g.2.2 115)] [106] G G_108 := FR.n fr_88 eG_108 (by decide)
    have u_110 : G_108.1 102 = (G.1 102) := by rw [eG_108]; exact (gs_ne (by decide)).trans u_89
    have u_111 : G_108.1 113 = (G.1 113) := by rw [eG_108]; exact (gs_ne (by decide)).trans u_91
    have u_112 : G_108.1 122 = (G.1 122) := by rw [eG_108]; exact (gs_ne (by decide)).trans u_92
    have u_113 : G_108.1 133 = (G.1 133) := by rw [eG_108]; exact (gs_ne (by decide)).trans u_93
    have u_114 : G_108.1 137 = (G.1 137) := by rw [eG_108]; exact (gs_ne (by decide)).trans u_94
    have u_115 : G_108.1 105 = 0 := by rw [eG_108]; exact (gs_ne (by decide)).trans u_95
    have u_116 : G_108.1 104 = 0 := by rw [eG_108]; exact gs_eq
    have w_117 : G_108.2.1 (g.2.2 100) = (G.2.1 (g.2.2 100)) := by rw [eG_108]; exact w_96
    have w_118 : G_108.2.1 (g.2.2 121) = (G.2.1 (g.2.2 121)) := by rw [eG_108]; exact w_97
    have w_119 : G_108.2.1 (g.2.2 140) = (G.2.1 (g.2.2 140)) := by rw [eG_108]; exact w_98
    have w_120 : G_108.2.1 (g.2.2 141) = (G.2.1 (g.2.2 141)) := by rw [eG_108]; exact w_99
    have w_121 : G_108.2.1 (g.2.2 111) = (G.2.1 (g.2.2 111)) := by rw [eG_108]; exact w_100
    have u_122 : G_108.2.2 111 = some (g.2.2 111) := by rw [eG_108]; exact u_101
    have u_123 : G_108.2.2 112 = some (g.2.2 112) := by rw [eG_108]; exact u_102
    clear oq hz
    refine lv_aload_n hx hb dX12_would_39 rfl (lv_at hl 2 rfl) ?_
    refine lv_iload_n hx hb dX12_would_40 rfl (lv_at hl 3 rfl) ?_
    refine lv_i2l hx hb dX12_would_41 rfl ?_
    refine lv_topl (fun u_124 eu_124 => ?_)
    obtain ⟨_, ⟨rfl, t_126, hk_127⟩, o_c_125⟩ := hH h0 _ k_h0
    refine va_callv (va_runV (As := [.long u_124]) (rest := []) ⟨hx, hb, hml, hown, hts⟩ (c_X12_tell l g Ty G_108 H.size h0 u_124 k_h0 (by rw [u_116]; exact rg_w rl_0 (by decide) (by decide))) (cwV 1 hts (gwV mw_1510 mw_1512 mw_48 mw_88 mw_1513) rfl rfl rfl hv_X12_tell ⟨Nat.le_of_ble_eq_true rfl, Nat.le_of_ble_eq_true rfl⟩) ⟨PcT_blind, hg_recv hK o_c_125 rfl, PcT_pre hK hH⟩ rfl rfl hl.1 rfl (lv_room (Nat.le_of_ble_eq_true rfl)) dX12_would_42 ⟨Nat.zero_le _, Nat.zero_le _⟩) hS (fun q _ h => AF.mono hS.1 h) (fun q h => AF.mono hS.1 h) (fun ux_128 t H locs ht hvm hx_128 hB hz hk hS => ?_)
    obtain ⟨eTx_128, eGx_128⟩ := hx_128
    obtain ⟨G_129, eG_129⟩ : ∃ z, z = ux_128.2 := ⟨_, rfl⟩
    rw [← eG_129] at eGx_128
    obtain ⟨x_130, ex_130⟩ : ∃ z : Int32, z = 0 + 1 := ⟨_, rfl⟩
    have e_131 : G_129 = gset G_108 104 x_130 := by rw [ex_130, ← u_116]; exact eGx_128
    have rx_130 : rgI (1) (1) x_130 := by rw [ex_130]; exact rg_w (rg_add rl_0 rl_1 (by decide) (by decide)) (by decide) (by decide)
    have fr_132 : FR [107, 108, 109, 110, 114, 104, 105] [(g.2.2 115)] [106] G G_129 := FR.n fr_109 e_131 (by decide)
    have u_133 : G_129.1 102 = (G.1 102) := by rw [e_131]; exact (gs_ne (by decide)).trans u_110
    have u_134 : G_129.1 113 = (G.1 113) := by rw [e_131]; exact (gs_ne (by decide)).trans u_111
    have u_135 : G_129.1 122 = (G.1 122) := by rw [e_131]; exact (gs_ne (by decide)).trans u_112
    have u_136 : G_129.1 133 = (G.1 133) := by rw [e_131]; exact (gs_ne (by decide)).trans u_113
    have u_137 : G_129.1 137 = (G.1 137) := by rw [e_131]; exact (gs_ne (by decide)).trans u_114
    have u_138 : G_129.1 105 = 0 := by rw [e_131]; exact (gs_ne (by decide)).trans u_115
    have u_139 : G_129.1 104 = x_130 := by rw [e_131]; exact gs_eq
    have w_140 : G_129.2.1 (g.2.2 100) = (G.2.1 (g.2.2 100)) := by rw [e_131]; exact w_117
    have w_141 : G_129.2.1 (g.2.2 121) = (G.2.1 (g.2.2 121)) := by rw [e_131]; exact w_118
    have w_142 : G_129.2.1 (g.2.2 140) = (G.2.1 (g.2.2 140)) := by rw [e_131]; exact w_119
    have w_143 : G_129.2.1 (g.2.2 141) = (G.2.1 (g.2.2 141)) := by rw [e_131]; exact w_120
    have w_144 : G_129.2.1 (g.2.2 111) = (G.2.1 (g.2.2 111)) := by rw [e_131]; exact w_121
    have u_145 : G_129.2.2 111 = some (g.2.2 111) := by rw [e_131]; exact u_122
    have u_146 : G_129.2.2 112 = some (g.2.2 112) := by rw [e_131]; exact u_123
    have hH : HT g Ty G_129 H := by rw [← ht, ← eTx_128, eG_129]; exact hB
    refine lv_iconst (v := 0) hx hb dX12_would_45 (by decide) ?_
    refine lv_istore (lv' := [(5, .int 0), (4, .int x_86), (3, .int x_62), (0, .ref h0), (1, .int a0), (2, .int a1)]) hx hb dX12_would_46 hl (by decide) rfl (fun ls hl => ?_)
    exact L_48 _ H locs G_129 x_86 0 ls (by rw [u_139]; exact rg_w rx_130 (by decide) (by decide)) fr_132 (rg_w rl_0 (by decide) (by decide)) (Nat.lt_succ_self _) (lv_sub hl [3, 1, 0] rfl) hH hS
  · have r_147 : rgI (-9) (-1) x_62 := rg_w (rg_ltL rx_62 rl_0 (nle_lt c_80)) (by decide) (by decide)
    refine lv_iload_n hx hb dX12_would_20 rfl (lv_at hl 0 rfl) ?_
    exact W.iret hx hb hr (fun t ht hWm => ⟨⟨x_62, (Ty, G_63), rfl, ⟨rfl, ⟨fr_64, ⟨(by rw [u_65]; exact (rg_w hI.a102 (by decide) (by decide))), (by rw [u_66]; exact (rg_w hI.a104 (by decide) (by decide))), (by rw [u_67]; exact (rg_w hI.a113 (by decide) (by decide))), (by rw [u_68]; exact (rg_w hI.a122 (by decide) (by decide))), (by rw [u_69]; exact (rg_w hI.a133 (by decide) (by decide))), (by rw [u_70]; exact (rg_w hI.a137 (by decide) (by decide))), u_77, u_78, (by rw [w_72]; exact (hI.ti.hi (show Bd ≤ Bd + 1000 by omega))), (hI.un2 (show Bd ≤ Bd + 1000 by omega) w_73 u_68), (hI.ke2 (show Bd ≤ Bd + 1000 by omega) w_74 w_75)⟩⟩⟩, by show HT g Ty G_63 t.heap; rw [ht]; exact hH⟩, hS.F ht⟩) hS.2.2 dX12_would_21

set_option maxHeartbeats 4000000 in
set_option maxRecDepth 100000 in
theorem c_X12_widest (l : Launch) (g : Gx) (Ty : TyM) (G : Gh) (sz : Nat) (h0 : Nat) (k_h0 : Ty h0 = some (22, 0)) (Bd : Int) (hI : OI g Bd G) (hBd : Bd ≤ 1900000) (hLD : LD g) : Met l yX12_widest (wsG yX12_widest cX12_widest 6 (some .int)) ({ frames := 341, cells := 0, slots := 0, locals := 7993 }) (PcT g Ty G sz [.ref h0]) (QwI g Ty sz (fun r u => u.1 = Ty ∧ FR [107, 108, 109, 110, 114, 104, 105] [(g.2.2 115)] [106] G u.2 ∧ OI g (Bd + 1000) u.2)) 0 0 (AF Ty sz) := by
  refine Met.ofW (cc := cX12_widest) (maxL := 6) (ret := (some .int)) (by decide) rfl ?_
  intro p e s m args below meth c s₁ B hml hv
  obtain ⟨rfl, hsz, hK, hH⟩ := hv
  subst hsz
  have hx := B.exec
  have hb := B.bytes
  have hr := B.returns
  have hts := atoms_spec (ws := (wsG yX12_widest cX12_widest 6 (some .int))) B.pre
  have hG : ∀ w ∈ GW, w.before ([.ref h0] : List Value).toArray s = true := fun w h => hts w (List.mem_cons_of_mem _ h)
  have hown : s.vm.findClass RX12 = some m.cls := findClass_of_methodNamed B.named
  have hlocks := B.notSynchronized
  have hl := lv_entry [.ref h0] (n := 6) (Nat.le_of_ble_eq_true rfl)
  rw [lg_entry_eq]
  generalize (lg_sl [.ref h0] ++ List.replicate (6 - (lg_sl [.ref h0]).length) Slot.unset).toArray = ls at hl ⊢
  have hl : lv_has ls 6 [(0, .ref h0)] := hl
  have hmk : mdK g Ty := mdk_of hH k_h0
  have hS : va_S (AF Ty s.heap.size) s.heap s.heap [] := va_S.rf
  obtain ⟨⟨σ0, hTS0⟩, h10, hBB0⟩ := id hI.ti
  obtain ⟨ρ, hT⟩ := hTS0.1
  have L_11 : ∀ (n : Nat) (H : Heap) (locs : List Loc) (G_11 : Gh) (y1_11 : Int32) (y2_11 : Int32) (y3_11 : Int32) (ls : Array Slot), rgI (0) (32) (G_11.1 104) → FR [107, 108, 109, 110, 114, 104, 105] [(g.2.2 115)] [106] G G_11 → rgI (-1) (2147483647) y1_11 → rgI (0) (64) y2_11 → rgI (0) (24) y3_11 → (24 - (y3_11).toInt).toNat < n → lv_has ls 6 [(0, .ref h0), (1, .int y1_11), (2, .int y2_11), (3, .int y3_11)] → HT g Ty G_11 H → va_S (AF Ty s.heap.size) s.heap H locs → Wm p l e (wsG yX12_widest cX12_widest 6 (some .int)) ({ frames := 341, cells := 0, slots := 0, locals := 7993 }) s m [.ref h0] below meth c H locs (0) (0) (QwI g Ty s.heap.size (fun r u => u.1 = Ty ∧ FR [107, 108, 109, 110, 114, 104, 105] [(g.2.2 115)] [106] G u.2 ∧ OI g (Bd + 1000) u.2)) 0 0 (AF Ty s.heap.size) (F0 m 11 ls []) := by
    intro n
    induction n with
    | zero => intro H locs G_11 y1_11 y2_11 y3_11 ls rg104_11 fr_11 ry1_11 ry2_11 ry3_11 hm; exact absurd hm (Nat.not_lt_zero _)
    | succ n ih_11 =>
      intro H locs G_11 y1_11 y2_11 y3_11 ls rg104_11 fr_11 ry1_11 ry2_11 ry3_11 hm_11 hl hH hS
      have L_20 : ∀ (n : Nat) (H : Heap) (locs : List Loc) (G_20 : Gh) (y1_20 : Int32) (y2_20 : Int32) (y4_20 : Int32) (ls : Array Slot), rgI (0) (32) (G_20.1 104) → FR [107, 108, 109, 110, 114, 104, 105] [(g.2.2 115)] [106] G G_20 → rgI (-1) (2147483647) y1_20 → rgI (0) (64) y2_20 → rgI (0) (23) y3_11 → rgI (0) (4) y4_20 → (4 - (y4_20).toInt).toNat < n → lv_has ls 6 [(0, .ref h0), (1, .int y1_20), (2, .int y2_20), (3, .int y3_11), (4, .int y4_20)] → HT g Ty G_20 H → va_S (AF Ty s.heap.size) s.heap H locs → Wm p l e (wsG yX12_widest cX12_widest 6 (some .int)) ({ frames := 341, cells := 0, slots := 0, locals := 7993 }) s m [.ref h0] below meth c H locs (0) (0) (QwI g Ty s.heap.size (fun r u => u.1 = Ty ∧ FR [107, 108, 109, 110, 114, 104, 105] [(g.2.2 115)] [106] G u.2 ∧ OI g (Bd + 1000) u.2)) 0 0 (AF Ty s.heap.size) (F0 m 20 ls []) := by
        intro n
        induction n with
        | zero => intro H locs G_20 y1_20 y2_20 y4_20 ls rg104_20 fr_20 ry1_20 ry2_20 ry3_20 ry4_20 hm; exact absurd hm (Nat.not_lt_zero _)
        | succ n ih_20 =>
          intro H locs G_20 y1_20 y2_20 y4_20 ls rg104_20 fr_20 ry1_20 ry2_20 ry3_20 ry4_20 hm_20 hl hH hS
          refine lv_iload hx hb dX12_widest_20 (lv_at hl 4 rfl) ?_
          refine lv_iconst (v := 4) hx hb dX12_widest_22 (by decide) ?_
          refine lv_icmp_ge (tgt := 87) hx hb dX12_widest_23 (by decide) (fun c_1 => ?_) (fun c_1 => ?_)
          · have r_2 : rgI (4) (4) y4_20 := rg_w (rg_leR rl_4 ry4_20 c_1) (by decide) (by decide)
            obtain ⟨x_3, ex_3⟩ : ∃ y : Int32, y = y3_11 + 1 := ⟨_, rfl⟩
            have rx_3 : rgI (1) (24) x_3 := by rw [ex_3]; exact rg_w (rg_add ry3_20 rl_1 (by decide) (by decide)) (by decide) (by decide)
            have qx_3 : x_3.toInt = (y3_11 : Int32).toInt + 1 := by rw [ex_3]; exact rg_addE ry3_20 rl_1 (by decide) (by decide)
            refine lv_iinc (v := x_3) (lv' := [(3, .int x_3), (0, .ref h0), (1, .int y1_20), (2, .int y2_20), (4, .int y4_20)]) hx hb dX12_widest_87 hl (k := 3) rfl (by rw [ex_3]; rfl) (by decide) rfl (fun ls hl => ?_)
            refine lv_goto (tgt := 11) hx hb dX12_widest_90 (by decide) ?_
            exact ih_11 H locs G_20 y1_20 y2_20 x_3 ls (rg_w rg104_20 (by decide) (by decide)) fr_20 ry1_20 ry2_20 (rg_w rx_3 (by decide) (by decide)) (by have h1 := qx_3; have h2 := ry3_20.1; have h3 := ry3_20.2; have h4 := hm_11; omega) (lv_sub hl [1, 2, 3, 0] rfl) hH hS
          · have r_4 : rgI (0) (3) y4_20 := rg_w (rg_ltL ry4_20 rl_4 (nle_lt c_1)) (by decide) (by decide)
            refine lv_aload_n hx hb dX12_widest_26 rfl (lv_at hl 0 rfl) ?_
            refine lv_aload_n hx hb dX12_widest_27 rfl (lv_at hl 0 rfl) ?_
            obtain ⟨_, ⟨rfl, t_6, hk_7⟩, o_c_5⟩ := hH h0 _ k_h0
            refine hg_get hx hb hG igX12 hown hK o_c_5 rfl 0 (by decide) (hG _ mw_1284) rfl dX12_widest_28 ?_
            refine lv_iload_n hx hb dX12_widest_31 rfl (lv_at hl 3 rfl) ?_
            refine lv_iload hx hb dX12_widest_32 (lv_at hl 4 rfl) ?_
            refine va_calli (va_runV (As := [.ref (g.2.2 100), .int y3_11, .int y4_20]) (rest := []) ⟨hx, hb, hml, hown, hts⟩ (c_X12_refusesComing l g Ty G_20 H.size h0 (g.2.2 100) y3_11 y4_20 k_h0 (hk_7.1) ρ (by rw [(fr_20.2.1 (g.2.2 100) ⟨(ne_kd hmk.1 hmk.2.2.2.1 (by decide)), trivial⟩)]; exact hT) (g.2.2 111) hmk.2.2.2.2.2.2.2.2.2.2.2.2.2.2.2.2.2.2.2.2.1 ((fr_20.2.2 111 (by decide)).trans hI.r111) (by rw [(fr_20.1 113 (by decide))]; exact hI.a113)) (cwV 3 hts (gwV mw_1546 mw_1548 mw_50 mw_88 mw_1549) rfl rfl rfl hv_X12_refusesComing ⟨Nat.le_of_ble_eq_true rfl, Nat.le_of_ble_eq_true rfl⟩) ⟨PcT_blind, hg_recv hK o_c_5 rfl, PcT_pre hK hH⟩ rfl rfl hl.1 rfl (lv_room (Nat.le_of_ble_eq_true rfl)) dX12_widest_34 ⟨Nat.zero_le _, Nat.zero_le _⟩) hS (fun q _ h => AF.mono hS.1 h) (fun q h => AF.mono hS.1 h) (fun x_8 ux_8 t H locs ht hvm hx_8 hB hz hk hS => ?_)
            obtain ⟨hx_8, fx_8⟩ := hx_8
            obtain ⟨eTx_8, eGx_8⟩ := fx_8
            obtain ⟨G_9, eG_9⟩ : ∃ z, z = ux_8.2 := ⟨_, rfl⟩
            rw [← eG_9] at eGx_8
            have fr_10 : FR [107, 108, 109, 110, 114, 104, 105] [(g.2.2 115)] [106] G G_9 := FR.tr fr_20 eGx_8 (by decide) (fun b h => ⟨h.1, trivial⟩) (by decide)
            have u_11 : G_9.1 104 = (G_20.1 104) := (eGx_8.1 104 (by decide))
            have u_12 : G_9.1 102 = (G.1 102) := (eGx_8.1 102 (by decide)).trans (fr_20.1 102 (by decide))
            have u_13 : G_9.1 113 = (G.1 113) := (eGx_8.1 113 (by decide)).trans (fr_20.1 113 (by decide))
            have u_14 : G_9.1 122 = (G.1 122) := (eGx_8.1 122 (by decide)).trans (fr_20.1 122 (by decide))
            have u_15 : G_9.1 133 = (G.1 133) := (eGx_8.1 133 (by decide)).trans (fr_20.1 133 (by decide))
            have u_16 : G_9.1 137 = (G.1 137) := (eGx_8.1 137 (by decide)).trans (fr_20.1 137 (by decide))
            have w_17 : G_9.2.1 (g.2.2 100) = (G.2.1 (g.2.2 100)) := (eGx_8.2.1 (g.2.2 100) ⟨(ne_kd hmk.1 hmk.2.2.2.1 (by decide)), trivial⟩).trans (fr_20.2.1 (g.2.2 100) ⟨(ne_kd hmk.1 hmk.2.2.2.1 (by decide)), trivial⟩)
            have w_18 : G_9.2.1 (g.2.2 121) = (G.2.1 (g.2.2 121)) := (eGx_8.2.1 (g.2.2 121) ⟨(ne_kd hmk.2.2.2.2.2.1 hmk.2.2.2.1 (by decide)), trivial⟩).trans (fr_20.2.1 (g.2.2 121) ⟨(ne_kd hmk.2.2.2.2.2.1 hmk.2.2.2.1 (by decide)), trivial⟩)
            have w_19 : G_9.2.1 (g.2.2 140) = (G.2.1 (g.2.2 140)) := (eGx_8.2.1 (g.2.2 140) ⟨(ne_kd hmk.2.2.2.2.2.2.2.2.2.2.2.2.2.2.2.2.2.2.1 hmk.2.2.2.1 (by decide)), trivial⟩).trans (fr_20.2.1 (g.2.2 140) ⟨(ne_kd hmk.2.2.2.2.2.2.2.2.2.2.2.2.2.2.2.2.2.2.1 hmk.2.2.2.1 (by decide)), trivial⟩)
            have w_20 : G_9.2.1 (g.2.2 141) = (G.2.1 (g.2.2 141)) := (eGx_8.2.1 (g.2.2 141) ⟨(ne_kd hmk.2.2.2.2.2.2.2.2.2.2.2.2.2.2.2.2.2.2.2.1 hmk.2.2.2.1 (by decide)), trivial⟩).trans (fr_20.2.1 (g.2.2 141) ⟨(ne_kd hmk.2.2.2.2.2.2.2.2.2.2.2.2.2.2.2.2.2.2.2.1 hmk.2.2.2.1 (by decide)), trivial⟩)
            have w_21 : G_9.2.1 (g.2.2 111) = (G.2.1 (g.2.2 111)) := (eGx_8.2.1 (g.2.2 111) ⟨(ne_kd hmk.2.2.2.2.2.2.2.2.2.2.2.2.2.2.2.2.2.2.2.2.1 hmk.2.2.2.1 (by decide)), trivial⟩).trans (fr_20.2.1 (g.2.2 111) ⟨(ne_kd hmk.2.2.2.2.2.2.2.2.2.2.2.2.2.2.2.2.2.2.2.2.1 hmk.2.2.2.1 (by decide)), trivial⟩)
            have u_22 : G_9.2.2 111 = some (g.2.2 111) := (eGx_8.2.2 111 (by decide)).trans ((fr_20.2.2 111 (by decide)).trans hI.r111)
            have u_23 : G_9.2.2 112 = some (g.2.2 112) := (eGx_8.2.2 112 (by decide)).trans ((fr_20.2.2 112 (by decide)).trans hI.r112)
            have hH : HT g Ty G_9 H := by rw [← ht, ← eTx_8, eG_9]; exact hB
            have rx_8 : rgI (-9) (0) x_8 := hx_8.1
            have tx_24 := hx_8.2
            try rw [(fr_20.2.1 (g.2.2 100) ⟨(ne_kd hmk.1 hmk.2.2.2.1 (by decide)), trivial⟩)] at tx_24
            try rw [(fr_20.2.1 (g.2.2 111) ⟨(ne_kd hmk.2.2.2.2.2.2.2.2.2.2.2.2.2.2.2.2.2.2.2.2.1 hmk.2.2.2.1 (by decide)), trivial⟩)] at tx_24
            try rw [(fr_20.1 113 (by decide))] at tx_24
            refine lv_if_ge (tgt := 43) hx hb dX12_widest_37 (by decide) (fun c_25 => ?_) (fun c_25 => ?_)
            · have r_26 : rgI (0) (0) x_8 := rg_w (rg_leR rl_0 rx_8 c_25) (by decide) (by decide)
              have c0_27 := tx_24 (rg_00 rx_8 c_25)
              refine lv_iconst (v := 1) hx hb dX12_widest_43 (by decide) ?_
              refine lv_aload_n hx hb dX12_widest_44 rfl (lv_at hl 0 rfl) ?_
              refine lv_aload_n hx hb dX12_widest_45 rfl (lv_at hl 0 rfl) ?_
              obtain ⟨_, ⟨rfl, t_29, hk_30⟩, o_c_28⟩ := hH h0 _ k_h0
              refine hg_get hx hb hG igX12 hown hK o_c_28 rfl 0 (by decide) (hG _ mw_1284) rfl dX12_widest_46 ?_
              refine lv_iload_n hx hb dX12_widest_49 rfl (lv_at hl 3 rfl) ?_
              refine lv_iload hx hb dX12_widest_50 (lv_at hl 4 rfl) ?_
              refine va_calli (va_runV (As := [.ref (g.2.2 100), .int y3_11, .int y4_20]) (rest := [.int 1]) ⟨hx, hb, hml, hown, hts⟩ (c_X12_hitsOf l g Ty G_9 H.size h0 (g.2.2 100) y3_11 y4_20 k_h0 (hk_30.1) ρ (by rw [w_17]; exact hT) (by rw [w_17]; exact c0_27.1) (g.2.2 111) hmk.2.2.2.2.2.2.2.2.2.2.2.2.2.2.2.2.2.2.2.2.1 u_22 (by rw [u_13]; exact hI.a113)) (cwV 3 hts (gwV mw_1554 mw_1556 mw_51 mw_88 mw_1557) rfl rfl rfl hv_X12_hitsOf ⟨Nat.le_of_ble_eq_true rfl, Nat.le_of_ble_eq_true rfl⟩) ⟨PcT_blind, hg_recv hK o_c_28 rfl, PcT_pre hK hH⟩ rfl rfl hl.1 rfl (lv_room (Nat.le_of_ble_eq_true rfl)) dX12_widest_52 ⟨Nat.zero_le _, Nat.zero_le _⟩) hS (fun q _ h => AF.mono hS.1 h) (fun q h => AF.mono hS.1 h) (fun x_31 ux_31 t H locs ht hvm hx_31 hB hz hk hS => ?_)
              obtain ⟨hx_31, fx_31⟩ := hx_31
              obtain ⟨eTx_31, eGx_31⟩ := fx_31
              obtain ⟨G_32, eG_32⟩ : ∃ z, z = ux_31.2 := ⟨_, rfl⟩
              rw [← eG_32] at eGx_31
              have fr_33 : FR [107, 108, 109, 110, 114, 104, 105] [(g.2.2 115)] [106] G G_32 := FR.tr fr_10 eGx_31 (by decide) (fun b h => ⟨h.1, trivial⟩) (by decide)
              have u_34 : G_32.1 104 = (G_20.1 104) := (eGx_31.1 104 (by decide)).trans u_11
              have u_35 : G_32.1 102 = (G.1 102) := (eGx_31.1 102 (by decide)).trans u_12
              have u_36 : G_32.1 113 = (G.1 113) := (eGx_31.1 113 (by decide)).trans u_13
              have u_37 : G_32.1 122 = (G.1 122) := (eGx_31.1 122 (by decide)).trans u_14
              have u_38 : G_32.1 133 = (G.1 133) := (eGx_31.1 133 (by decide)).trans u_15
              have u_39 : G_32.1 137 = (G.1 137) := (eGx_31.1 137 (by decide)).trans u_16
              have w_40 : G_32.2.1 (g.2.2 100) = (G.2.1 (g.2.2 100)) := (eGx_31.2.1 (g.2.2 100) ⟨(ne_kd hmk.1 hmk.2.2.2.1 (by decide)), trivial⟩).trans w_17
              have w_41 : G_32.2.1 (g.2.2 121) = (G.2.1 (g.2.2 121)) := (eGx_31.2.1 (g.2.2 121) ⟨(ne_kd hmk.2.2.2.2.2.1 hmk.2.2.2.1 (by decide)), trivial⟩).trans w_18
              have w_42 : G_32.2.1 (g.2.2 140) = (G.2.1 (g.2.2 140)) := (eGx_31.2.1 (g.2.2 140) ⟨(ne_kd hmk.2.2.2.2.2.2.2.2.2.2.2.2.2.2.2.2.2.2.1 hmk.2.2.2.1 (by decide)), trivial⟩).trans w_19
              have w_43 : G_32.2.1 (g.2.2 141) = (G.2.1 (g.2.2 141)) := (eGx_31.2.1 (g.2.2 141) ⟨(ne_kd hmk.2.2.2.2.2.2.2.2.2.2.2.2.2.2.2.2.2.2.2.1 hmk.2.2.2.1 (by decide)), trivial⟩).trans w_20
              have w_44 : G_32.2.1 (g.2.2 111) = (G.2.1 (g.2.2 111)) := (eGx_31.2.1 (g.2.2 111) ⟨(ne_kd hmk.2.2.2.2.2.2.2.2.2.2.2.2.2.2.2.2.2.2.2.2.1 hmk.2.2.2.1 (by decide)), trivial⟩).trans w_21
              have u_45 : G_32.2.2 111 = some (g.2.2 111) := (eGx_31.2.2 111 (by decide)).trans u_22
              have u_46 : G_32.2.2 112 = some (g.2.2 112) := (eGx_31.2.2 112 (by decide)).trans u_23
              have hH : HT g Ty G_32 H := by rw [← ht, ← eTx_31, eG_32]; exact hB
              have tx_47 := hx_31.1
              try rw [w_17] at tx_47
              try rw [w_21] at tx_47
              try rw [u_13] at tx_47
              have tx_48 := hx_31.2
              try rw [w_17] at tx_48
              try rw [w_21] at tx_48
              try rw [u_13] at tx_48
              refine vp_callSi (W.runS (As := [.int x_31]) (rest := [.int 1]) ⟨hx, hb, hml, hown, hts⟩ (c_J6_bitCount_x l g Ty G_32 x_31 ) (cwSx 1 hts hG (gwC mw_620) mw_99 mw_1553 mw_619 rfl rfl rfl hd_J6_bitCount_0f7a4 ⟨Nat.le_of_ble_eq_true rfl, Nat.le_of_ble_eq_true rfl⟩) ⟨PcH_blind, PcH_pre hK hH⟩ rfl rfl hl.1 rfl (lv_room (Nat.le_of_ble_eq_true rfl)) dX12_widest_55 ⟨Nat.zero_le _, Nat.zero_le _⟩) (fun x_49 hx_49 => ?_)
              have rx_49 : rgI (0) (63) x_49 := hx_49.1
              refine lv_iadd hx hb dX12_widest_58 ?_
              refine lv_topi (fun x_50 ex_50 => ?_)
              have rx_50 : rgI (1) (64) x_50 := by rw [ex_50]; exact rg_w (rg_add rl_1 rx_49 (by decide) (by decide)) (by decide) (by decide)
              refine lv_istore (lv' := [(5, .int x_50), (0, .ref h0), (1, .int y1_20), (2, .int y2_20), (3, .int y3_11), (4, .int y4_20)]) hx hb dX12_widest_59 hl (by decide) rfl (fun ls hl => ?_)
              refine lv_iload hx hb dX12_widest_61 (lv_at hl 0 rfl) ?_
              refine lv_iload_n hx hb dX12_widest_63 rfl (lv_at hl 3 rfl) ?_
              refine lv_icmp_gt (tgt := 70) hx hb dX12_widest_64 (by decide) (fun c_51 => ?_) (fun c_51 => ?_)
              · have r_52 : rgI (0) (63) y2_20 := rg_w (rg_ltL ry2_20 rx_50 c_51) (by decide) (by decide)
                refine lv_bipush (v := 10) hx hb dX12_widest_70 (by decide) ?_
                refine lv_iload_n hx hb dX12_widest_72 rfl (lv_at hl 4 rfl) ?_
                refine lv_imul hx hb dX12_widest_73 ?_
                refine lv_topi (fun x_53 ex_53 => ?_)
                have rx_53 : rgI (0) (230) x_53 := by rw [ex_53]; exact rg_w (rg_mul rl_10 ry3_20 (by decide) (by decide) (by decide)) (by decide) (by decide)
                refine lv_iload hx hb dX12_widest_74 (lv_at hl 5 rfl) ?_
                refine lv_iadd hx hb dX12_widest_76 ?_
                refine lv_topi (fun x_54 ex_54 => ?_)
                have rx_54 : rgI (0) (233) x_54 := by rw [ex_54]; exact rg_w (rg_add rx_53 r_4 (by decide) (by decide)) (by decide) (by decide)
                refine lv_istore_n (lv' := [(1, .int x_54), (5, .int x_50), (0, .ref h0), (2, .int y2_20), (3, .int y3_11), (4, .int y4_20)]) hx hb dX12_widest_77 rfl hl (by decide) rfl (fun ls hl => ?_)
                refine lv_iload hx hb dX12_widest_78 (lv_at hl 1 rfl) ?_
                refine lv_istore_n (lv' := [(2, .int x_50), (1, .int x_54), (5, .int x_50), (0, .ref h0), (3, .int y3_11), (4, .int y4_20)]) hx hb dX12_widest_80 rfl hl (by decide) rfl (fun ls hl => ?_)
                obtain ⟨x_55, ex_55⟩ : ∃ y : Int32, y = y4_20 + 1 := ⟨_, rfl⟩
                have rx_55 : rgI (1) (4) x_55 := by rw [ex_55]; exact rg_w (rg_add r_4 rl_1 (by decide) (by decide)) (by decide) (by decide)
                have qx_55 : x_55.toInt = (y4_20 : Int32).toInt + 1 := by rw [ex_55]; exact rg_addE r_4 rl_1 (by decide) (by decide)
                refine lv_iinc (v := x_55) (lv' := [(4, .int x_55), (2, .int x_50), (1, .int x_54), (5, .int x_50), (0, .ref h0), (3, .int y3_11)]) hx hb dX12_widest_81 hl (k := 5) rfl (by rw [ex_55]; rfl) (by decide) rfl (fun ls hl => ?_)
                refine lv_goto (tgt := 20) hx hb dX12_widest_84 (by decide) ?_
                exact ih_20 H locs G_32 x_54 x_50 x_55 ls (by rw [u_34]; exact rg_w rg104_20 (by decide) (by decide)) fr_33 (rg_w rx_54 (by decide) (by decide)) (rg_w rx_50 (by decide) (by decide)) ry3_20 (rg_w rx_55 (by decide) (by decide)) (by have h1 := qx_55; have h2 := r_4.1; have h3 := r_4.2; have h4 := hm_20; omega) (lv_sub hl [4, 2, 1, 5, 0] rfl) hH hS
              · have r_56 : rgI (1) (64) y2_20 := rg_w (rg_leR rx_50 ry2_20 (nlt_le c_51)) (by decide) (by decide)
                refine lv_goto (tgt := 81) hx hb dX12_widest_67 (by decide) ?_
                obtain ⟨x_57, ex_57⟩ : ∃ y : Int32, y = y4_20 + 1 := ⟨_, rfl⟩
                have rx_57 : rgI (1) (4) x_57 := by rw [ex_57]; exact rg_w (rg_add r_4 rl_1 (by decide) (by decide)) (by decide) (by decide)
                have qx_57 : x_57.toInt = (y4_20 : Int32).toInt + 1 := by rw [ex_57]; exact rg_addE r_4 rl_1 (by decide) (by decide)
                refine lv_iinc (v := x_57) (lv' := [(4, .int x_57), (5, .int x_50), (0, .ref h0), (1, .int y1_20), (2, .int y2_20), (3, .int y3_11)]) hx hb dX12_widest_81 hl (k := 5) rfl (by rw [ex_57]; rfl) (by decide) rfl (fun ls hl => ?_)
                refine lv_goto (tgt := 20) hx hb dX12_widest_84 (by decide) ?_
                exact ih_20 H locs G_32 y1_20 y2_20 x_57 ls (by rw [u_34]; exact rg_w rg104_20 (by decide) (by decide)) fr_33 ry1_20 (rg_w r_56 (by decide) (by decide)) ry3_20 (rg_w rx_57 (by decide) (by decide)) (by have h1 := qx_57; have h2 := r_4.1; have h3 := r_4.2; have h4 := hm_20; omega) (lv_sub hl [2, 3, 4, 5, 0] rfl) hH hS
            · have r_58 : rgI (-9) (-1) x_8 := rg_w (rg_ltL rx_8 rl_0 (nle_lt c_25)) (by decide) (by decide)
              refine lv_goto (tgt := 81) hx hb dX12_widest_40 (by decide) ?_
              obtain ⟨x_59, ex_59⟩ : ∃ y : Int32, y = y4_20 + 1 := ⟨_, rfl⟩
              have rx_59 : rgI (1) (4) x_59 := by rw [ex_59]; exact rg_w (rg_add r_4 rl_1 (by decide) (by decide)) (by decide) (by decide)
              have qx_59 : x_59.toInt = (y4_20 : Int32).toInt + 1 := by rw [ex_59]; exact rg_addE r_4 rl_1 (by decide) (by decide)
              refine lv_iinc (v := x_59) (lv' := [(4, .int x_59), (0, .ref h0), (1, .int y1_20), (2, .int y2_20), (3, .int y3_11)]) hx hb dX12_widest_81 hl (k := 4) rfl (by rw [ex_59]; rfl) (by decide) rfl (fun ls hl => ?_)
              refine lv_goto (tgt := 20) hx hb dX12_widest_84 (by decide) ?_
              exact ih_20 H locs G_9 y1_20 y2_20 x_59 ls (by rw [u_11]; exact rg_w rg104_20 (by decide) (by decide)) fr_10 ry1_20 ry2_20 ry3_20 (rg_w rx_59 (by decide) (by decide)) (by have h1 := qx_59; have h2 := r_4.1; have h3 := r_4.2; have h4 := hm_20; omega) (lv_sub hl [1, 2, 3, 4, 0] rfl) hH hS
      refine lv_iload_n hx hb dX12_widest_11 rfl (lv_at hl 3 rfl) ?_
      refine lv_bipush (v := 24) hx hb dX12_widest_12 (by decide) ?_
      refine lv_icmp_ge (tgt := 93) hx hb dX12_widest_14 (by decide) (fun c_60 => ?_) (fun c_60 => ?_)
      · have r_61 : rgI (24) (24) y3_11 := rg_w (rg_leR rl_24 ry3_11 c_60) (by decide) (by decide)
        refine lv_iload_n hx hb dX12_widest_93 rfl (lv_at hl 1 rfl) ?_
        refine lv_iconst (v := (-1)) hx hb dX12_widest_94 (by decide) ?_
        refine lv_icmp_ne (tgt := 101) hx hb dX12_widest_95 (by decide) (fun c_62 => ?_) (fun c_62 => ?_)
        · have r_63 : rgI (0) (2147483647) y1_11 := rg_w (rg_neL ry1_11 rl_m1 c_62) (by decide) (by decide)
          refine lv_aload_n hx hb dX12_widest_101 rfl (lv_at hl 0 rfl) ?_
          refine lv_iconst (v := 0) hx hb dX12_widest_102 (by decide) ?_
          obtain ⟨_, ⟨rfl, t_65, hk_66⟩, o_c_64⟩ := hH h0 _ k_h0
          refine hg_put (ty := .int) hx hb hG igX12 tyX12 tyX12_ok nmX12 hown hK hS o_c_64 (AF.of k_h0) rfl 4 (by decide) (hG _ mw_1288) rfl (by decide +kernel) rfl rfl (Nat.le_of_ble_eq_true rfl) dX12_widest_103 (fun H locs o_c_64 hz oq hS => ?_)
          obtain ⟨G_67, eG_67⟩ : ∃ z : Gh, z = gset G_11 104 0 := ⟨_, rfl⟩
          have hH : HT g Ty G_67 H := by rw [eG_67]; exact HT.putN 104 0 hH k_h0 ⟨rfl, t_65, hk_66⟩ o_c_64 oq (Or.inr (Or.inr (Or.inr (Or.inr (Or.inr ⟨by decide, t_65⟩)))))
          have fr_68 : FR [107, 108, 109, 110, 114, 104, 105] [(g.2.2 115)] [106] G G_67 := FR.n fr_11 eG_67 (by decide)
          have u_69 : G_67.1 102 = (G.1 102) := by rw [eG_67]; exact (gs_ne (by decide)).trans (fr_11.1 102 (by decide))
          have u_70 : G_67.1 113 = (G.1 113) := by rw [eG_67]; exact (gs_ne (by decide)).trans (fr_11.1 113 (by decide))
          have u_71 : G_67.1 122 = (G.1 122) := by rw [eG_67]; exact (gs_ne (by decide)).trans (fr_11.1 122 (by decide))
          have u_72 : G_67.1 133 = (G.1 133) := by rw [eG_67]; exact (gs_ne (by decide)).trans (fr_11.1 133 (by decide))
          have u_73 : G_67.1 137 = (G.1 137) := by rw [eG_67]; exact (gs_ne (by decide)).trans (fr_11.1 137 (by decide))
          have u_74 : G_67.1 104 = 0 := by rw [eG_67]; exact gs_eq
          have w_75 : G_67.2.1 (g.2.2 100) = (G.2.1 (g.2.2 100)) := by rw [eG_67]; exact (fr_11.2.1 (g.2.2 100) ⟨(ne_kd hmk.1 hmk.2.2.2.1 (by decide)), trivial⟩)
          have w_76 : G_67.2.1 (g.2.2 121) = (G.2.1 (g.2.2 121)) := by rw [eG_67]; exact (fr_11.2.1 (g.2.2 121) ⟨(ne_kd hmk.2.2.2.2.2.1 hmk.2.2.2.1 (by decide)), trivial⟩)
          have w_77 : G_67.2.1 (g.2.2 140) = (G.2.1 (g.2.2 140)) := by rw [eG_67]; exact (fr_11.2.1 (g.2.2 140) ⟨(ne_kd hmk.2.2.2.2.2.2.2.2.2.2.2.2.2.2.2.2.2.2.1 hmk.2.2.2.1 (by decide)), trivial⟩)
          have w_78 : G_67.2.1 (g.2.2 141) = (G.2.1 (g.2.2 141)) := by rw [eG_67]; exact (fr_11.2.1 (g.2.2 141) ⟨(ne_kd hmk.2.2.2.2.2.2.2.2.2.2.2.2.2.2.2.2.2.2.2.1 hmk.2.2.2.1 (by decide)), trivial⟩)
          have w_79 : G_67.2.1 (g.2.2 111) = (G.2.1 (g.2.2 111)) := by rw [eG_67]; exact (fr_11.2.1 (g.2.2 111) ⟨(ne_kd hmk.2.2.2.2.2.2.2.2.2.2.2.2.2.2.2.2.2.2.2.2.1 hmk.2.2.2.1 (by decide)), trivial⟩)
          have u_80 : G_67.2.2 111 = some (g.2.2 111) := by rw [eG_67]; exact ((fr_11.2.2 111 (by decide)).trans hI.r111)
          have u_81 : G_67.2.2 112 = some (g.2.2 112) := by rw [eG_67]; exact ((fr_11.2.2 112 (by decide)).trans hI.r112)
          clear oq hz
          refine lv_aload_n hx hb dX12_widest_106 rfl (lv_at hl 0 rfl) ?_
          refine lv_iload_n hx hb dX12_widest_107 rfl (lv_at hl 2 rfl) ?_
          refine lv_i2l hx hb dX12_widest_108 rfl ?_
          refine lv_topl (fun u_82 eu_82 => ?_)
          obtain ⟨_, ⟨rfl, t_84, hk_85⟩, o_c_83⟩ := hH h0 _ k_h0
          refine va_callv (va_runV (As := [.long u_82]) (rest := []) ⟨hx, hb, hml, hown, hts⟩ (c_X12_tell l g Ty G_67 H.size h0 u_82 k_h0 (by rw [u_74]; exact rg_w rl_0 (by decide) (by decide))) (cwV 1 hts (gwV mw_1510 mw_1512 mw_48 mw_88 mw_1513) rfl rfl rfl hv_X12_tell ⟨Nat.le_of_ble_eq_true rfl, Nat.le_of_ble_eq_true rfl⟩) ⟨PcT_blind, hg_recv hK o_c_83 rfl, PcT_pre hK hH⟩ rfl rfl hl.1 rfl (lv_room (Nat.le_of_ble_eq_true rfl)) dX12_widest_109 ⟨Nat.zero_le _, Nat.zero_le _⟩) hS (fun q _ h => AF.mono hS.1 h) (fun q h => AF.mono hS.1 h) (fun ux_86 t H locs ht hvm hx_86 hB hz hk hS => ?_)
          obtain ⟨eTx_86, eGx_86⟩ := hx_86
          obtain ⟨G_87, eG_87⟩ : ∃ z, z = ux_86.2 := ⟨_, rfl⟩
          rw [← eG_87] at eGx_86
          obtain ⟨x_88, ex_88⟩ : ∃ z : Int32, z = 0 + 1 := ⟨_, rfl⟩
          have e_89 : G_87 = gset G_67 104 x_88 := by rw [ex_88, ← u_74]; exact eGx_86
          have rx_88 : rgI (1) (1) x_88 := by rw [ex_88]; exact rg_w (rg_add rl_0 rl_1 (by decide) (by decide)) (by decide) (by decide)
          have fr_90 : FR [107, 108, 109, 110, 114, 104, 105] [(g.2.2 115)] [106] G G_87 := FR.n fr_68 e_89 (by decide)
          have u_91 : G_87.1 102 = (G.1 102) := by rw [e_89]; exact (gs_ne (by decide)).trans u_69
          have u_92 : G_87.1 113 = (G.1 113) := by rw [e_89]; exact (gs_ne (by decide)).trans u_70
          have u_93 : G_87.1 122 = (G.1 122) := by rw [e_89]; exact (gs_ne (by decide)).trans u_71
          have u_94 : G_87.1 133 = (G.1 133) := by rw [e_89]; exact (gs_ne (by decide)).trans u_72
          have u_95 : G_87.1 137 = (G.1 137) := by rw [e_89]; exact (gs_ne (by decide)).trans u_73
          have u_96 : G_87.1 104 = x_88 := by rw [e_89]; exact gs_eq
          have w_97 : G_87.2.1 (g.2.2 100) = (G.2.1 (g.2.2 100)) := by rw [e_89]; exact w_75
          have w_98 : G_87.2.1 (g.2.2 121) = (G.2.1 (g.2.2 121)) := by rw [e_89]; exact w_76
          have w_99 : G_87.2.1 (g.2.2 140) = (G.2.1 (g.2.2 140)) := by rw [e_89]; exact w_77
          have w_100 : G_87.2.1 (g.2.2 141) = (G.2.1 (g.2.2 141)) := by rw [e_89]; exact w_78
          have w_101 : G_87.2.1 (g.2.2 111) = (G.2.1 (g.2.2 111)) := by rw [e_89]; exact w_79
          have u_102 : G_87.2.2 111 = some (g.2.2 111) := by rw [e_89]; exact u_80
          have u_103 : G_87.2.2 112 = some (g.2.2 112) := by rw [e_89]; exact u_81
          have hH : HT g Ty G_87 H := by rw [← ht, ← eTx_86, eG_87]; exact hB
          refine lv_iload_n hx hb dX12_widest_112 rfl (lv_at hl 1 rfl) ?_
          exact W.iret hx hb hr (fun t ht hWm => ⟨⟨y1_11, (Ty, G_87), rfl, ⟨rfl, ⟨fr_90, ⟨(by rw [u_91]; exact (rg_w hI.a102 (by decide) (by decide))), (by rw [u_96]; exact (rg_w rx_88 (by decide) (by decide))), (by rw [u_92]; exact (rg_w hI.a113 (by decide) (by decide))), (by rw [u_93]; exact (rg_w hI.a122 (by decide) (by decide))), (by rw [u_94]; exact (rg_w hI.a133 (by decide) (by decide))), (by rw [u_95]; exact (rg_w hI.a137 (by decide) (by decide))), u_102, u_103, (by rw [w_97]; exact (hI.ti.hi (show Bd ≤ Bd + 1000 by omega))), (hI.un2 (show Bd ≤ Bd + 1000 by omega) w_98 u_93), (hI.ke2 (show Bd ≤ Bd + 1000 by omega) w_99 w_100)⟩⟩⟩, by show HT g Ty G_87 t.heap; rw [ht]; exact hH⟩, hS.F ht⟩) hS.2.2 dX12_widest_113
        · have r_104 : rgI (-1) (-1) y1_11 := rg_w (rg_eq rl_m1 c_62) (by decide) (by decide)
          refine lv_bipush (v := (-2)) hx hb dX12_widest_98 (by decide) ?_
          exact W.iret hx hb hr (fun t ht hWm => ⟨⟨(-2), (Ty, G_11), rfl, ⟨rfl, ⟨fr_11, ⟨(by rw [(fr_11.1 102 (by decide))]; exact (rg_w hI.a102 (by decide) (by decide))), (rg_w rg104_11 (by decide) (by decide)), (by rw [(fr_11.1 113 (by decide))]; exact (rg_w hI.a113 (by decide) (by decide))), (by rw [(fr_11.1 122 (by decide))]; exact (rg_w hI.a122 (by decide) (by decide))), (by rw [(fr_11.1 133 (by decide))]; exact (rg_w hI.a133 (by decide) (by decide))), (by rw [(fr_11.1 137 (by decide))]; exact (rg_w hI.a137 (by decide) (by decide))), ((fr_11.2.2 111 (by decide)).trans hI.r111), ((fr_11.2.2 112 (by decide)).trans hI.r112), (by rw [(fr_11.2.1 (g.2.2 100) ⟨(ne_kd hmk.1 hmk.2.2.2.1 (by decide)), trivial⟩)]; exact (hI.ti.hi (show Bd ≤ Bd + 1000 by omega))), (hI.un2 (show Bd ≤ Bd + 1000 by omega) (fr_11.2.1 (g.2.2 121) ⟨(ne_kd hmk.2.2.2.2.2.1 hmk.2.2.2.1 (by decide)), trivial⟩) (fr_11.1 122 (by decide))), (hI.ke2 (show Bd ≤ Bd + 1000 by omega) (fr_11.2.1 (g.2.2 140) ⟨(ne_kd hmk.2.2.2.2.2.2.2.2.2.2.2.2.2.2.2.2.2.2.1 hmk.2.2.2.1 (by decide)), trivial⟩) (fr_11.2.1 (g.2.2 141) ⟨(ne_kd hmk.2.2.2.2.2.2.2.2.2.2.2.2.2.2.2.2.2.2.2.1 hmk.2.2.2.1 (by decide)), trivial⟩))⟩⟩⟩, by show HT g Ty G_11 t.heap; rw [ht]; exact hH⟩, hS.F ht⟩) hS.2.2 dX12_widest_100
      · have r_105 : rgI (0) (23) y3_11 := rg_w (rg_ltL ry3_11 rl_24 (nle_lt c_60)) (by decide) (by decide)
        refine lv_iconst (v := 0) hx hb dX12_widest_17 (by decide) ?_
        refine lv_istore (lv' := [(4, .int 0), (0, .ref h0), (1, .int y1_11), (2, .int y2_11), (3, .int y3_11)]) hx hb dX12_widest_18 hl (by decide) rfl (fun ls hl => ?_)
        exact L_20 _ H locs G_11 y1_11 y2_11 0 ls (rg_w rg104_11 (by decide) (by decide)) fr_11 ry1_11 ry2_11 r_105 (rg_w rl_0 (by decide) (by decide)) (Nat.lt_succ_self _) (lv_sub hl [1, 2, 3, 4, 0] rfl) hH hS
  refine lv_aload_n hx hb dX12_widest_0 rfl (lv_at hl 0 rfl) ?_
  refine lv_iconst (v := 0) hx hb dX12_widest_1 (by decide) ?_
  obtain ⟨_, ⟨rfl, t_107, hk_108⟩, o_c_106⟩ := hH h0 _ k_h0
  refine hg_put (ty := .int) hx hb hG igX12 tyX12 tyX12_ok nmX12 hown hK hS o_c_106 (AF.of k_h0) rfl 5 (by decide) (hG _ mw_1289) rfl (by decide +kernel) rfl rfl (Nat.le_of_ble_eq_true rfl) dX12_widest_2 (fun H locs o_c_106 hz oq hS => ?_)
  obtain ⟨G_109, eG_109⟩ : ∃ z : Gh, z = gset G 105 0 := ⟨_, rfl⟩
  have hH : HT g Ty G_109 H := by rw [eG_109]; exact HT.putN 105 0 hH k_h0 ⟨rfl, t_107, hk_108⟩ o_c_106 oq (Or.inr (Or.inr (Or.inr (Or.inr (Or.inr ⟨by decide, t_107⟩)))))
  have fr_110 : FR [107, 108, 109, 110, 114, 104, 105] [(g.2.2 115)] [106] G G_109 := FR.n FR.rf eG_109 (by decide)
  have u_111 : G_109.1 102 = (G.1 102) := by rw [eG_109]; exact (gs_ne (by decide))
  have u_112 : G_109.1 104 = (G.1 104) := by rw [eG_109]; exact (gs_ne (by decide))
  have u_113 : G_109.1 113 = (G.1 113) := by rw [eG_109]; exact (gs_ne (by decide))
  have u_114 : G_109.1 122 = (G.1 122) := by rw [eG_109]; exact (gs_ne (by decide))
  have u_115 : G_109.1 133 = (G.1 133) := by rw [eG_109]; exact (gs_ne (by decide))
  have u_116 : G_109.1 137 = (G.1 137) := by rw [eG_109]; exact (gs_ne (by decide))
  have u_117 : G_109.1 105 = 0 := by rw [eG_109]; exact gs_eq
  have w_118 : G_109.2.1 (g.2.2 100) = (G.2.1 (g.2.2 100)) := by rw [eG_109]; exact rfl
  have w_119 : G_109.2.1 (g.2.2 121) = (G.2.1 (g.2.2 121)) := by rw [eG_109]; exact rfl
  have w_120 : G_109.2.1 (g.2.2 140) = (G.2.1 (g.2.2 140)) := by rw [eG_109]; exact rfl
  have w_121 : G_109.2.1 (g.2.2 141) = (G.2.1 (g.2.2 141)) := by rw [eG_109]; exact rfl
  have w_122 : G_109.2.1 (g.2.2 111) = (G.2.1 (g.2.2 111)) := by rw [eG_109]; exact rfl
  have u_123 : G_109.2.2 111 = some (g.2.2 111) := by rw [eG_109]; exact hI.r111
  have u_124 : G_109.2.2 112 = some (g.2.2 112) := by rw [eG_109]; exact hI.r112
  clear oq hz
  refine lv_iconst (v := (-1)) hx hb dX12_widest_5 (by decide) ?_
  refine lv_istore_n (lv' := [(1, .int (-1)), (0, .ref h0)]) hx hb dX12_widest_6 rfl hl (by decide) rfl (fun ls hl => ?_)
  refine lv_iconst (v := 0) hx hb dX12_widest_7 (by decide) ?_
  refine lv_istore_n (lv' := [(2, .int 0), (1, .int (-1)), (0, .ref h0)]) hx hb dX12_widest_8 rfl hl (by decide) rfl (fun ls hl => ?_)
  refine lv_iconst (v := 0) hx hb dX12_widest_9 (by decide) ?_
  refine lv_istore_n (lv' := [(3, .int 0), (2, .int 0), (1, .int (-1)), (0, .ref h0)]) hx hb dX12_widest_10 rfl hl (by decide) rfl (fun ls hl => ?_)
  exact L_11 _ H locs G_109 (-1) 0 0 ls (by rw [u_112]; exact rg_w hI.a104 (by decide) (by decide)) fr_110 (rg_w rl_m1 (by decide) (by decide)) (rg_w rl_0 (by decide) (by decide)) (rg_w rl_0 (by decide) (by decide)) (Nat.lt_succ_self _) (lv_sub hl [3, 2, 1, 0] rfl) hH hS
