set_option maxHeartbeats 4000000 in
set_option maxRecDepth 100000 in
theorem c_X12_mount (l : Launch) (g : Gx) (Ty : TyM) (G : Gh) (sz : Nat) (h0 : Nat) (a0 : Int32) (a1 : Int32) (k_h0 : Ty h0 = some (22, 0)) (Bd : Int) (hI : OI g Bd G) (hBd : Bd ≤ 1900000) (hLD : LD g) : Met l yX12_mount (wsG yX12_mount cX12_mount 3 (some .int)) ({ frames := 2, cells := 0, slots := 0, locals := 43 }) (PcT g Ty G sz [.ref h0, .int a0, .int a1]) (QwI g Ty sz (fun r u => u.1 = Ty ∧ FR [105] [] [] G u.2 ∧ OI g (Bd + 1000) u.2)) 0 0 (AF Ty sz) := by
  refine Met.ofW (cc := cX12_mount) (maxL := 3) (ret := (some .int)) (by decide) rfl ?_
  intro p e s m args below meth c s₁ B hml hv
  obtain ⟨rfl, hsz, hK, hH⟩ := hv
  subst hsz
  have hx := B.exec
  have hb := B.bytes
  have hr := B.returns
  have hts := atoms_spec (ws := (wsG yX12_mount cX12_mount 3 (some .int))) B.pre
  have hG : ∀ w ∈ GW, w.before ([.ref h0, .int a0, .int a1] : List Value).toArray s = true := fun w h => hts w (List.mem_cons_of_mem _ h)
  have hown : s.vm.findClass RX12 = some m.cls := findClass_of_methodNamed B.named
  have hlocks := B.notSynchronized
  have hl := lv_entry [.ref h0, .int a0, .int a1] (n := 3) (Nat.le_of_ble_eq_true rfl)
  rw [lg_entry_eq]
  generalize (lg_sl [.ref h0, .int a0, .int a1] ++ List.replicate (3 - (lg_sl [.ref h0, .int a0, .int a1]).length) Slot.unset).toArray = ls at hl ⊢
  have hl : lv_has ls 3 [(0, .ref h0), (1, .int a0), (2, .int a1)] := hl
  have hmk : mdK g Ty := mdk_of hH k_h0
  have hS : va_S (AF Ty s.heap.size) s.heap s.heap [] := va_S.rf
  obtain ⟨⟨σ0, hTS0⟩, h10, hBB0⟩ := id hI.ti
  obtain ⟨ρ, hT⟩ := hTS0.1
  refine lv_aload_n hx hb dX12_mount_0 rfl (lv_at hl 0 rfl) ?_
  refine lv_iconst (v := 0) hx hb dX12_mount_1 (by decide) ?_
  obtain ⟨_, ⟨rfl, t_2, hk_3⟩, o_c_1⟩ := hH h0 _ k_h0
  refine hg_put (ty := .int) hx hb hG igX12 tyX12 tyX12_ok nmX12 hown hK hS o_c_1 (AF.of k_h0) rfl 5 (by decide) (hG _ mw_1289) rfl (by decide +kernel) rfl rfl (Nat.le_of_ble_eq_true rfl) dX12_mount_2 (fun H locs o_c_1 hz oq hS => ?_)
  obtain ⟨G_4, eG_4⟩ : ∃ z : Gh, z = gset G 105 0 := ⟨_, rfl⟩
  have hH : HT g Ty G_4 H := by rw [eG_4]; exact HT.putN 105 0 hH k_h0 ⟨rfl, t_2, hk_3⟩ o_c_1 oq (Or.inr (Or.inr (Or.inr (Or.inr (Or.inr ⟨by decide, t_2⟩)))))
  have fr_5 : FR [105] [] [] G G_4 := FR.n FR.rf eG_4 (by decide)
  have u_6 : G_4.1 102 = (G.1 102) := by rw [eG_4]; exact (gs_ne (by decide))
  have u_7 : G_4.1 104 = (G.1 104) := by rw [eG_4]; exact (gs_ne (by decide))
  have u_8 : G_4.1 113 = (G.1 113) := by rw [eG_4]; exact (gs_ne (by decide))
  have u_9 : G_4.1 122 = (G.1 122) := by rw [eG_4]; exact (gs_ne (by decide))
  have u_10 : G_4.1 133 = (G.1 133) := by rw [eG_4]; exact (gs_ne (by decide))
  have u_11 : G_4.1 137 = (G.1 137) := by rw [eG_4]; exact (gs_ne (by decide))
  have u_12 : G_4.1 105 = 0 := by rw [eG_4]; exact gs_eq
  have w_13 : G_4.2.1 (g.2.2 100) = (G.2.1 (g.2.2 100)) := by rw [eG_4]; exact rfl
  have w_14 : G_4.2.1 (g.2.2 121) = (G.2.1 (g.2.2 121)) := by rw [eG_4]; exact rfl
  have w_15 : G_4.2.1 (g.2.2 140) = (G.2.1 (g.2.2 140)) := by rw [eG_4]; exact rfl
  have w_16 : G_4.2.1 (g.2.2 141) = (G.2.1 (g.2.2 141)) := by rw [eG_4]; exact rfl
  have w_17 : G_4.2.1 (g.2.2 111) = (G.2.1 (g.2.2 111)) := by rw [eG_4]; exact rfl
  have u_18 : G_4.2.2 111 = some (g.2.2 111) := by rw [eG_4]; exact hI.r111
  have u_19 : G_4.2.2 112 = some (g.2.2 112) := by rw [eG_4]; exact hI.r112
  clear oq hz
  refine lv_aload_n hx hb dX12_mount_5 rfl (lv_at hl 0 rfl) ?_
  obtain ⟨_, ⟨rfl, t_21, hk_22⟩, o_c_20⟩ := hH h0 _ k_h0
  refine hg_get hx hb hG igX12 hown hK o_c_20 rfl 0 (by decide) (hG _ mw_1284) rfl dX12_mount_6 ?_
  refine lv_iload_n hx hb dX12_mount_9 rfl (lv_at hl 1 rfl) ?_
  refine vp_callSi (W.runS (As := [.ref (g.2.2 100), .int a0]) (rest := []) ⟨hx, hb, hml, hown, hts⟩ (c_X12_isThere l g Ty G_4 (g.2.2 100) a0 (hk_22.1)) (cwSx 2 hts hG (gwC mw_1520) mw_88 mw_1518 mw_1519 rfl rfl rfl hd_X12_isThere ⟨Nat.le_of_ble_eq_true rfl, Nat.le_of_ble_eq_true rfl⟩) ⟨PcH_blind, PcH_pre hK hH⟩ rfl rfl hl.1 rfl (lv_room (Nat.le_of_ble_eq_true rfl)) dX12_mount_10 ⟨Nat.zero_le _, Nat.zero_le _⟩) (fun x_23 hx_23 => ?_)
  have rx_23 : rgI (0) (1) x_23 := hx_23.1
  have ex_24 : x_23 = F_X12_isThere (G.2.1 (g.2.2 100)) a0 := by rw [← w_13]; exact hx_23.2.2
  refine lv_if_eq (tgt := 25) hx hb dX12_mount_13 (by decide) (fun c_25 => ?_) (fun c_25 => ?_)
  · have r_26 : rgI (0) (0) x_23 := rg_w (rg_eq rl_0 c_25) (by decide) (by decide)
    refine lv_aload_n hx hb dX12_mount_25 rfl (lv_at hl 0 rfl) ?_
    refine va_calli (va_runV (As := []) (rest := []) ⟨hx, hb, hml, hown, hts⟩ (c_X12_lost l g Ty G_4 H.size h0 k_h0) (cwV 0 hts (gwV mw_1521 mw_1523 mw_49 mw_88 mw_1524) rfl rfl rfl hv_X12_lost ⟨Nat.le_of_ble_eq_true rfl, Nat.le_of_ble_eq_true rfl⟩) ⟨PcT_blind, hg_recv hK o_c_20 rfl, PcT_pre hK hH⟩ rfl rfl hl.1 rfl (lv_room (Nat.le_of_ble_eq_true rfl)) dX12_mount_26 ⟨Nat.zero_le _, Nat.zero_le _⟩) hS (fun q _ h => AF.mono hS.1 h) (fun q h => AF.mono hS.1 h) (fun x_27 ux_27 t H locs ht hvm hx_27 hB hz hk hS => ?_)
    obtain ⟨eTx_27, eGx_27⟩ := hx_27
    obtain ⟨G_28, eG_28⟩ : ∃ z, z = ux_27.2 := ⟨_, rfl⟩
    rw [← eG_28] at eGx_27
    have fr_29 : FR [105] [] [] G G_28 := FR.n fr_5 eGx_27 (by decide)
    have u_30 : G_28.1 102 = (G.1 102) := by rw [eGx_27]; exact (gs_ne (by decide)).trans u_6
    have u_31 : G_28.1 104 = (G.1 104) := by rw [eGx_27]; exact (gs_ne (by decide)).trans u_7
    have u_32 : G_28.1 113 = (G.1 113) := by rw [eGx_27]; exact (gs_ne (by decide)).trans u_8
    have u_33 : G_28.1 122 = (G.1 122) := by rw [eGx_27]; exact (gs_ne (by decide)).trans u_9
    have u_34 : G_28.1 133 = (G.1 133) := by rw [eGx_27]; exact (gs_ne (by decide)).trans u_10
    have u_35 : G_28.1 137 = (G.1 137) := by rw [eGx_27]; exact (gs_ne (by decide)).trans u_11
    have u_36 : G_28.1 105 = 1 := by rw [eGx_27]; exact gs_eq
    have w_37 : G_28.2.1 (g.2.2 100) = (G.2.1 (g.2.2 100)) := by rw [eGx_27]; exact w_13
    have w_38 : G_28.2.1 (g.2.2 121) = (G.2.1 (g.2.2 121)) := by rw [eGx_27]; exact w_14
    have w_39 : G_28.2.1 (g.2.2 140) = (G.2.1 (g.2.2 140)) := by rw [eGx_27]; exact w_15
    have w_40 : G_28.2.1 (g.2.2 141) = (G.2.1 (g.2.2 141)) := by rw [eGx_27]; exact w_16
    have w_41 : G_28.2.1 (g.2.2 111) = (G.2.1 (g.2.2 111)) := by rw [eGx_27]; exact w_17
    have u_42 : G_28.2.2 111 = some (g.2.2 111) := by rw [eGx_27]; exact u_18
    have u_43 : G_28.2.2 112 = some (g.2.2 112) := by rw [eGx_27]; exact u_19
    have hH : HT g Ty G_28 H := by rw [← ht, ← eTx_27, eG_28]; exact hB
    exact W.iret hx hb hr (fun t ht hWm => ⟨⟨x_27, (Ty, G_28), rfl, ⟨rfl, ⟨fr_29, ⟨(by rw [u_30]; exact (rg_w hI.a102 (by decide) (by decide))), (by rw [u_31]; exact (rg_w hI.a104 (by decide) (by decide))), (by rw [u_32]; exact (rg_w hI.a113 (by decide) (by decide))), (by rw [u_33]; exact (rg_w hI.a122 (by decide) (by decide))), (by rw [u_34]; exact (rg_w hI.a133 (by decide) (by decide))), (by rw [u_35]; exact (rg_w hI.a137 (by decide) (by decide))), u_42, u_43, (by rw [w_37]; exact (hI.ti.hi (show Bd ≤ Bd + 1000 by omega))), (hI.un2 (show Bd ≤ Bd + 1000 by omega) w_38 u_33), (hI.ke2 (show Bd ≤ Bd + 1000 by omega) w_39 w_40)⟩⟩⟩, by show HT g Ty G_28 t.heap; rw [ht]; exact hH⟩, hS.F ht⟩) hS.2.2 dX12_mount_29
  · have th_44 : thr (G.2.1 (g.2.2 100)) a0 := F_isThere_thr (by rw [← ex_24]; exact c_25)
    have r_45 : rgI (1) (1) x_23 := rg_w (rg_neL rx_23 rl_0 c_25) (by decide) (by decide)
    have r_46 : rgI (0) (23) a0 := rg_w (hx_23.2.1.resolve_left c_25) (by decide) (by decide)
    refine lv_iload_n hx hb dX12_mount_16 rfl (lv_at hl 2 rfl) ?_
    refine lv_iconst (v := 0) hx hb dX12_mount_17 (by decide) ?_
    refine lv_iconst (v := 5) hx hb dX12_mount_18 (by decide) ?_
    refine vp_callSi (W.runS (As := [.int a1, .int 0, .int 5]) (rest := []) ⟨hx, hb, hml, hown, hts⟩ (c_X12_in l g Ty G_4 a1 0 5 ) (cwSx 3 hts hG (gwC mw_1426) mw_88 mw_1424 mw_1425 rfl rfl rfl hd_X12_in ⟨Nat.le_of_ble_eq_true rfl, Nat.le_of_ble_eq_true rfl⟩) ⟨PcH_blind, PcH_pre hK hH⟩ rfl rfl hl.1 rfl (lv_room (Nat.le_of_ble_eq_true rfl)) dX12_mount_19 ⟨Nat.zero_le _, Nat.zero_le _⟩) (fun x_47 hx_47 => ?_)
    have rx_47 : rgI (0) (1) x_47 := hx_47.1
    refine lv_if_ne (tgt := 30) hx hb dX12_mount_22 (by decide) (fun c_48 => ?_) (fun c_48 => ?_)
    · have r_49 : rgI (1) (1) x_47 := rg_w (rg_neL rx_47 rl_0 c_48) (by decide) (by decide)
      have r_50 : rgI (0) (5) a1 := rg_w (in_rng hx_47.2.1 c_48 rl_0 rl_5) (by decide) (by decide)
      refine lv_iload_n hx hb dX12_mount_30 rfl (lv_at hl 2 rfl) ?_
      by_cases c_51 : a1 = 0
      · refine lv_tableIn (tgt := 64) hx hb dX12_mount_31 (by rw [c_51]; decide) (by rw [c_51]; decide) (off := 33) (by rw [c_51]; rfl) (by decide) ?_
        have r_52 : rgI (0) (0) a1 := rg_w (rg_eq rl_0 c_51) (by decide) (by decide)
        refine lv_aload_n hx hb dX12_mount_64 rfl (lv_at hl 0 rfl) ?_
        refine hg_get hx hb hG igX12 hown hK o_c_20 rfl 0 (by decide) (hG _ mw_1284) rfl dX12_mount_65 ?_
        refine lv_iload_n hx hb dX12_mount_68 rfl (lv_at hl 1 rfl) ?_
        obtain ⟨_, rfl, o_c_53⟩ := hH (g.2.2 100) _ hk_22.1
        have o_c_53 : va_at g.1 vwCl ((g.2.2 100), .inl (g.2.1 1, 122, .inl (G_4.2.1 (g.2.2 100)))) H := o_c_53
        refine hg_iald hx hb hK o_c_53 (rg_in (n := 122) r_46 (by decide) (by decide)) dX12_mount_69 ?_
        rw [w_13]
        refine lv_topi (fun x_54 ex_54 => ?_)
        exact W.iret hx hb hr (fun t ht hWm => ⟨⟨x_54, (Ty, G_4), rfl, ⟨rfl, ⟨fr_5, ⟨(by rw [u_6]; exact (rg_w hI.a102 (by decide) (by decide))), (by rw [u_7]; exact (rg_w hI.a104 (by decide) (by decide))), (by rw [u_8]; exact (rg_w hI.a113 (by decide) (by decide))), (by rw [u_9]; exact (rg_w hI.a122 (by decide) (by decide))), (by rw [u_10]; exact (rg_w hI.a133 (by decide) (by decide))), (by rw [u_11]; exact (rg_w hI.a137 (by decide) (by decide))), u_18, u_19, (by rw [w_13]; exact (hI.ti.hi (show Bd ≤ Bd + 1000 by omega))), (hI.un2 (show Bd ≤ Bd + 1000 by omega) w_14 u_9), (hI.ke2 (show Bd ≤ Bd + 1000 by omega) w_15 w_16)⟩⟩⟩, by show HT g Ty G_4 t.heap; rw [ht]; exact hH⟩, hS.F ht⟩) hS.2.2 dX12_mount_70
      by_cases c_55 : a1 = 1
      · refine lv_tableIn (tgt := 71) hx hb dX12_mount_31 (by rw [c_55]; decide) (by rw [c_55]; decide) (off := 40) (by rw [c_55]; rfl) (by decide) ?_
        have r_56 : rgI (1) (1) a1 := rg_w (rg_eq rl_1 c_55) (by decide) (by decide)
        refine lv_aload_n hx hb dX12_mount_71 rfl (lv_at hl 0 rfl) ?_
        refine hg_get hx hb hG igX12 hown hK o_c_20 rfl 0 (by decide) (hG _ mw_1284) rfl dX12_mount_72 ?_
        refine lv_bipush (v := 24) hx hb dX12_mount_75 (by decide) ?_
        refine lv_iload_n hx hb dX12_mount_77 rfl (lv_at hl 1 rfl) ?_
        refine lv_iadd hx hb dX12_mount_78 ?_
        refine lv_topi (fun x_57 ex_57 => ?_)
        have rx_57 : rgI (24) (47) x_57 := by rw [ex_57]; exact rg_w (rg_add rl_24 r_46 (by decide) (by decide)) (by decide) (by decide)
        obtain ⟨_, rfl, o_c_58⟩ := hH (g.2.2 100) _ hk_22.1
        have o_c_58 : va_at g.1 vwCl ((g.2.2 100), .inl (g.2.1 1, 122, .inl (G_4.2.1 (g.2.2 100)))) H := o_c_58
        refine hg_iald hx hb hK o_c_58 (rg_in (n := 122) rx_57 (by decide) (by decide)) dX12_mount_79 ?_
        rw [w_13]
        refine lv_topi (fun x_59 ex_59 => ?_)
        exact W.iret hx hb hr (fun t ht hWm => ⟨⟨x_59, (Ty, G_4), rfl, ⟨rfl, ⟨fr_5, ⟨(by rw [u_6]; exact (rg_w hI.a102 (by decide) (by decide))), (by rw [u_7]; exact (rg_w hI.a104 (by decide) (by decide))), (by rw [u_8]; exact (rg_w hI.a113 (by decide) (by decide))), (by rw [u_9]; exact (rg_w hI.a122 (by decide) (by decide))), (by rw [u_10]; exact (rg_w hI.a133 (by decide) (by decide))), (by rw [u_11]; exact (rg_w hI.a137 (by decide) (by decide))), u_18, u_19, (by rw [w_13]; exact (hI.ti.hi (show Bd ≤ Bd + 1000 by omega))), (hI.un2 (show Bd ≤ Bd + 1000 by omega) w_14 u_9), (hI.ke2 (show Bd ≤ Bd + 1000 by omega) w_15 w_16)⟩⟩⟩, by show HT g Ty G_4 t.heap; rw [ht]; exact hH⟩, hS.F ht⟩) hS.2.2 dX12_mount_80
      by_cases c_60 : a1 = 2
      · refine lv_tableIn (tgt := 81) hx hb dX12_mount_31 (by rw [c_60]; decide) (by rw [c_60]; decide) (off := 50) (by rw [c_60]; rfl) (by decide) ?_
        have r_61 : rgI (2) (2) a1 := rg_w (rg_eq rl_2 c_60) (by decide) (by decide)
        refine lv_aload_n hx hb dX12_mount_81 rfl (lv_at hl 0 rfl) ?_
        refine hg_get hx hb hG igX12 hown hK o_c_20 rfl 0 (by decide) (hG _ mw_1284) rfl dX12_mount_82 ?_
        refine lv_bipush (v := 48) hx hb dX12_mount_85 (by decide) ?_
        refine lv_iload_n hx hb dX12_mount_87 rfl (lv_at hl 1 rfl) ?_
        refine lv_iadd hx hb dX12_mount_88 ?_
        refine lv_topi (fun x_62 ex_62 => ?_)
        have rx_62 : rgI (48) (71) x_62 := by rw [ex_62]; exact rg_w (rg_add rl_48 r_46 (by decide) (by decide)) (by decide) (by decide)
        obtain ⟨_, rfl, o_c_63⟩ := hH (g.2.2 100) _ hk_22.1
        have o_c_63 : va_at g.1 vwCl ((g.2.2 100), .inl (g.2.1 1, 122, .inl (G_4.2.1 (g.2.2 100)))) H := o_c_63
        refine hg_iald hx hb hK o_c_63 (rg_in (n := 122) rx_62 (by decide) (by decide)) dX12_mount_89 ?_
        rw [w_13]
        refine lv_topi (fun x_64 ex_64 => ?_)
        exact W.iret hx hb hr (fun t ht hWm => ⟨⟨x_64, (Ty, G_4), rfl, ⟨rfl, ⟨fr_5, ⟨(by rw [u_6]; exact (rg_w hI.a102 (by decide) (by decide))), (by rw [u_7]; exact (rg_w hI.a104 (by decide) (by decide))), (by rw [u_8]; exact (rg_w hI.a113 (by decide) (by decide))), (by rw [u_9]; exact (rg_w hI.a122 (by decide) (by decide))), (by rw [u_10]; exact (rg_w hI.a133 (by decide) (by decide))), (by rw [u_11]; exact (rg_w hI.a137 (by decide) (by decide))), u_18, u_19, (by rw [w_13]; exact (hI.ti.hi (show Bd ≤ Bd + 1000 by omega))), (hI.un2 (show Bd ≤ Bd + 1000 by omega) w_14 u_9), (hI.ke2 (show Bd ≤ Bd + 1000 by omega) w_15 w_16)⟩⟩⟩, by show HT g Ty G_4 t.heap; rw [ht]; exact hH⟩, hS.F ht⟩) hS.2.2 dX12_mount_90
      by_cases c_65 : a1 = 3
      · refine lv_tableIn (tgt := 91) hx hb dX12_mount_31 (by rw [c_65]; decide) (by rw [c_65]; decide) (off := 60) (by rw [c_65]; rfl) (by decide) ?_
        have r_66 : rgI (3) (3) a1 := rg_w (rg_eq rl_3 c_65) (by decide) (by decide)
        refine lv_aload_n hx hb dX12_mount_91 rfl (lv_at hl 0 rfl) ?_
        refine hg_get hx hb hG igX12 hown hK o_c_20 rfl 0 (by decide) (hG _ mw_1284) rfl dX12_mount_92 ?_
        refine lv_bipush (v := 72) hx hb dX12_mount_95 (by decide) ?_
        refine lv_iload_n hx hb dX12_mount_97 rfl (lv_at hl 1 rfl) ?_
        refine lv_iadd hx hb dX12_mount_98 ?_
        refine lv_topi (fun x_67 ex_67 => ?_)
        have rx_67 : rgI (72) (95) x_67 := by rw [ex_67]; exact rg_w (rg_add rl_72 r_46 (by decide) (by decide)) (by decide) (by decide)
        obtain ⟨_, rfl, o_c_68⟩ := hH (g.2.2 100) _ hk_22.1
        have o_c_68 : va_at g.1 vwCl ((g.2.2 100), .inl (g.2.1 1, 122, .inl (G_4.2.1 (g.2.2 100)))) H := o_c_68
        refine hg_iald hx hb hK o_c_68 (rg_in (n := 122) rx_67 (by decide) (by decide)) dX12_mount_99 ?_
        rw [w_13]
        refine lv_topi (fun x_69 ex_69 => ?_)
        exact W.iret hx hb hr (fun t ht hWm => ⟨⟨x_69, (Ty, G_4), rfl, ⟨rfl, ⟨fr_5, ⟨(by rw [u_6]; exact (rg_w hI.a102 (by decide) (by decide))), (by rw [u_7]; exact (rg_w hI.a104 (by decide) (by decide))), (by rw [u_8]; exact (rg_w hI.a113 (by decide) (by decide))), (by rw [u_9]; exact (rg_w hI.a122 (by decide) (by decide))), (by rw [u_10]; exact (rg_w hI.a133 (by decide) (by decide))), (by rw [u_11]; exact (rg_w hI.a137 (by decide) (by decide))), u_18, u_19, (by rw [w_13]; exact (hI.ti.hi (show Bd ≤ Bd + 1000 by omega))), (hI.un2 (show Bd ≤ Bd + 1000 by omega) w_14 u_9), (hI.ke2 (show Bd ≤ Bd + 1000 by omega) w_15 w_16)⟩⟩⟩, by show HT g Ty G_4 t.heap; rw [ht]; exact hH⟩, hS.F ht⟩) hS.2.2 dX12_mount_100
      by_cases c_70 : a1 = 4
      · refine lv_tableIn (tgt := 101) hx hb dX12_mount_31 (by rw [c_70]; decide) (by rw [c_70]; decide) (off := 70) (by rw [c_70]; rfl) (by decide) ?_
        have r_71 : rgI (4) (4) a1 := rg_w (rg_eq rl_4 c_70) (by decide) (by decide)
        refine lv_aload_n hx hb dX12_mount_101 rfl (lv_at hl 0 rfl) ?_
        refine hg_get hx hb hG igX12 hown hK o_c_20 rfl 0 (by decide) (hG _ mw_1284) rfl dX12_mount_102 ?_
        refine lv_iload_n hx hb dX12_mount_105 rfl (lv_at hl 1 rfl) ?_
        refine vp_callSi (W.runS (As := [.ref (g.2.2 100), .int a0]) (rest := []) ⟨hx, hb, hml, hown, hts⟩ (c_X12_kindOf l g Ty G_4 (g.2.2 100) a0 (hk_22.1) (rg_w r_46 (by decide) (by decide))) (cwSx 2 hts hG (gwC mw_1527) mw_88 mw_1525 mw_1526 rfl rfl rfl hd_X12_kindOf ⟨Nat.le_of_ble_eq_true rfl, Nat.le_of_ble_eq_true rfl⟩) ⟨PcH_blind, PcH_pre hK hH⟩ rfl rfl hl.1 rfl (lv_room (Nat.le_of_ble_eq_true rfl)) dX12_mount_106 ⟨Nat.zero_le _, Nat.zero_le _⟩) (fun x_72 hx_72 => ?_)
        have ex_73 : x_72 = F_X12_kindOf (G.2.1 (g.2.2 100)) a0 := by rw [← w_13]; exact hx_72
        exact W.iret hx hb hr (fun t ht hWm => ⟨⟨x_72, (Ty, G_4), rfl, ⟨rfl, ⟨fr_5, ⟨(by rw [u_6]; exact (rg_w hI.a102 (by decide) (by decide))), (by rw [u_7]; exact (rg_w hI.a104 (by decide) (by decide))), (by rw [u_8]; exact (rg_w hI.a113 (by decide) (by decide))), (by rw [u_9]; exact (rg_w hI.a122 (by decide) (by decide))), (by rw [u_10]; exact (rg_w hI.a133 (by decide) (by decide))), (by rw [u_11]; exact (rg_w hI.a137 (by decide) (by decide))), u_18, u_19, (by rw [w_13]; exact (hI.ti.hi (show Bd ≤ Bd + 1000 by omega))), (hI.un2 (show Bd ≤ Bd + 1000 by omega) w_14 u_9), (hI.ke2 (show Bd ≤ Bd + 1000 by omega) w_15 w_16)⟩⟩⟩, by show HT g Ty G_4 t.heap; rw [ht]; exact hH⟩, hS.F ht⟩) hS.2.2 dX12_mount_109
      refine lv_tableOut (tgt := 110) hx hb dX12_mount_31 (by have := lv_neT (a := 0) c_51 rfl; have := lv_neT (a := 1) c_55 rfl; have := lv_neT (a := 2) c_60 rfl; have := lv_neT (a := 3) c_65 rfl; have := lv_neT (a := 4) c_70 rfl; omega) (by decide) ?_
      have r_74 : rgI (1) (5) a1 := rg_w (rg_neL r_50 rl_0 c_51) (by decide) (by decide)
      have r_75 : rgI (2) (5) a1 := rg_w (rg_neL r_74 rl_1 c_55) (by decide) (by decide)
      have r_76 : rgI (3) (5) a1 := rg_w (rg_neL r_75 rl_2 c_60) (by decide) (by decide)
      have r_77 : rgI (4) (5) a1 := rg_w (rg_neL r_76 rl_3 c_65) (by decide) (by decide)
      have r_78 : rgI (5) (5) a1 := rg_w (rg_neL r_77 rl_4 c_70) (by decide) (by decide)
      refine lv_aload_n hx hb dX12_mount_110 rfl (lv_at hl 0 rfl) ?_
      refine hg_get hx hb hG igX12 hown hK o_c_20 rfl 0 (by decide) (hG _ mw_1284) rfl dX12_mount_111 ?_
      refine lv_iload_n hx hb dX12_mount_114 rfl (lv_at hl 1 rfl) ?_
      refine vp_callSi (W.runS (As := [.ref (g.2.2 100), .int a0]) (rest := []) ⟨hx, hb, hml, hown, hts⟩ (c_X12_stepsOf l g Ty G_4 (g.2.2 100) a0 (hk_22.1) ρ (by rw [w_13]; exact hT) (by rw [w_13]; exact th_44)) (cwSx 2 hts hG (gwC mw_1530) mw_88 mw_1528 mw_1529 rfl rfl rfl hd_X12_stepsOf ⟨Nat.le_of_ble_eq_true rfl, Nat.le_of_ble_eq_true rfl⟩) ⟨PcH_blind, PcH_pre hK hH⟩ rfl rfl hl.1 rfl (lv_room (Nat.le_of_ble_eq_true rfl)) dX12_mount_115 ⟨Nat.zero_le _, Nat.zero_le _⟩) (fun x_79 hx_79 => ?_)
      have rx_79 : rgI (0) (23) x_79 := hx_79.1
      have ex_80 : x_79 = F_X12_stepsOf (G.2.1 (g.2.2 100)) a0 := by rw [← w_13]; exact hx_79.2
      exact W.iret hx hb hr (fun t ht hWm => ⟨⟨x_79, (Ty, G_4), rfl, ⟨rfl, ⟨fr_5, ⟨(by rw [u_6]; exact (rg_w hI.a102 (by decide) (by decide))), (by rw [u_7]; exact (rg_w hI.a104 (by decide) (by decide))), (by rw [u_8]; exact (rg_w hI.a113 (by decide) (by decide))), (by rw [u_9]; exact (rg_w hI.a122 (by decide) (by decide))), (by rw [u_10]; exact (rg_w hI.a133 (by decide) (by decide))), (by rw [u_11]; exact (rg_w hI.a137 (by decide) (by decide))), u_18, u_19, (by rw [w_13]; exact (hI.ti.hi (show Bd ≤ Bd + 1000 by omega))), (hI.un2 (show Bd ≤ Bd + 1000 by omega) w_14 u_9), (hI.ke2 (show Bd ≤ Bd + 1000 by omega) w_15 w_16)⟩⟩⟩, by show HT g Ty G_4 t.heap; rw [ht]; exact hH⟩, hS.F ht⟩) hS.2.2 dX12_mount_118
    · have r_81 : rgI (0) (0) x_47 := rg_w (rg_eq rl_0 c_48) (by decide) (by decide)
      refine lv_aload_n hx hb dX12_mount_25 rfl (lv_at hl 0 rfl) ?_
      refine va_calli (va_runV (As := []) (rest := []) ⟨hx, hb, hml, hown, hts⟩ (c_X12_lost l g Ty G_4 H.size h0 k_h0) (cwV 0 hts (gwV mw_1521 mw_1523 mw_49 mw_88 mw_1524) rfl rfl rfl hv_X12_lost ⟨Nat.le_of_ble_eq_true rfl, Nat.le_of_ble_eq_true rfl⟩) ⟨PcT_blind, hg_recv hK o_c_20 rfl, PcT_pre hK hH⟩ rfl rfl hl.1 rfl (lv_room (Nat.le_of_ble_eq_true rfl)) dX12_mount_26 ⟨Nat.zero_le _, Nat.zero_le _⟩) hS (fun q _ h => AF.mono hS.1 h) (fun q h => AF.mono hS.1 h) (fun x_82 ux_82 t H locs ht hvm hx_82 hB hz hk hS => ?_)
      obtain ⟨eTx_82, eGx_82⟩ := hx_82
      obtain ⟨G_83, eG_83⟩ : ∃ z, z = ux_82.2 := ⟨_, rfl⟩
      rw [← eG_83] at eGx_82
      have fr_84 : FR [105] [] [] G G_83 := FR.n fr_5 eGx_82 (by decide)
      have u_85 : G_83.1 102 = (G.1 102) := by rw [eGx_82]; exact (gs_ne (by decide)).trans u_6
      have u_86 : G_83.1 104 = (G.1 104) := by rw [eGx_82]; exact (gs_ne (by decide)).trans u_7
      have u_87 : G_83.1 113 = (G.1 113) := by rw [eGx_82]; exact (gs_ne (by decide)).trans u_8
      have u_88 : G_83.1 122 = (G.1 122) := by rw [eGx_82]; exact (gs_ne (by decide)).trans u_9
      have u_89 : G_83.1 133 = (G.1 133) := by rw [eGx_82]; exact (gs_ne (by decide)).trans u_10
      have u_90 : G_83.1 137 = (G.1 137) := by rw [eGx_82]; exact (gs_ne (by decide)).trans u_11
      have u_91 : G_83.1 105 = 1 := by rw [eGx_82]; exact gs_eq
      have w_92 : G_83.2.1 (g.2.2 100) = (G.2.1 (g.2.2 100)) := by rw [eGx_82]; exact w_13
      have w_93 : G_83.2.1 (g.2.2 121) = (G.2.1 (g.2.2 121)) := by rw [eGx_82]; exact w_14
      have w_94 : G_83.2.1 (g.2.2 140) = (G.2.1 (g.2.2 140)) := by rw [eGx_82]; exact w_15
      have w_95 : G_83.2.1 (g.2.2 141) = (G.2.1 (g.2.2 141)) := by rw [eGx_82]; exact w_16
      have w_96 : G_83.2.1 (g.2.2 111) = (G.2.1 (g.2.2 111)) := by rw [eGx_82]; exact w_17
      have u_97 : G_83.2.2 111 = some (g.2.2 111) := by rw [eGx_82]; exact u_18
      have u_98 : G_83.2.2 112 = some (g.2.2 112) := by rw [eGx_82]; exact u_19
      have hH : HT g Ty G_83 H := by rw [← ht, ← eTx_82, eG_83]; exact hB
      exact W.iret hx hb hr (fun t ht hWm => ⟨⟨x_82, (Ty, G_83), rfl, ⟨rfl, ⟨fr_84, ⟨(by rw [u_85]; exact (rg_w hI.a102 (by decide) (by decide))), (by rw [u_86]; exact (rg_w hI.a104 (by decide) (by decide))), (by rw [u_87]; exact (rg_w hI.a113 (by decide) (by decide))), (by rw [u_88]; exact (rg_w hI.a122 (by decide) (by decide))), (by rw [u_89]; exact (rg_w hI.a133 (by decide) (by decide))), (by rw [u_90]; exact (rg_w hI.a137 (by decide) (by decide))), u_97, u_98, (by rw [w_92]; exact (hI.ti.hi (show Bd ≤ Bd + 1000 by omega))), (hI.un2 (show Bd ≤ Bd + 1000 by omega) w_93 u_88), (hI.ke2 (show Bd ≤ Bd + 1000 by omega) w_94 w_95)⟩⟩⟩, by show HT g Ty G_83 t.heap; rw [ht]; exact hH⟩, hS.F ht⟩) hS.2.2 dX12_mount_29

set_option maxHeartbeats 4000000 in
set_option maxRecDepth 100000 in
theorem c_X12_at (l : Launch) (g : Gx) (Ty : TyM) (G : Gh) (sz : Nat) (h0 : Nat) (a0 : Int32) (a1 : Int32) (k_h0 : Ty h0 = some (22, 0)) (Bd : Int) (hI : OI g Bd G) (hBd : Bd ≤ 1900000) (hLD : LD g) : Met l yX12_at (wsG yX12_at cX12_at 3 (some .int)) ({ frames := 2, cells := 0, slots := 0, locals := 43 }) (PcT g Ty G sz [.ref h0, .int a0, .int a1]) (QwI g Ty sz (fun r u => u.1 = Ty ∧ FR [105] [] [] G u.2 ∧ OI g (Bd + 1000) u.2)) 0 0 (AF Ty sz) := by
  refine Met.ofW (cc := cX12_at) (maxL := 3) (ret := (some .int)) (by decide) rfl ?_
  intro p e s m args below meth c s₁ B hml hv
  obtain ⟨rfl, hsz, hK, hH⟩ := hv
  subst hsz
  have hx := B.exec
  have hb := B.bytes
  have hr := B.returns
  have hts := atoms_spec (ws := (wsG yX12_at cX12_at 3 (some .int))) B.pre
  have hG : ∀ w ∈ GW, w.before ([.ref h0, .int a0, .int a1] : List Value).toArray s = true := fun w h => hts w (List.mem_cons_of_mem _ h)
  have hown : s.vm.findClass RX12 = some m.cls := findClass_of_methodNamed B.named
  have hlocks := B.notSynchronized
  have hl := lv_entry [.ref h0, .int a0, .int a1] (n := 3) (Nat.le_of_ble_eq_true rfl)
  rw [lg_entry_eq]
  generalize (lg_sl [.ref h0, .int a0, .int a1] ++ List.replicate (3 - (lg_sl [.ref h0, .int a0, .int a1]).length) Slot.unset).toArray = ls at hl ⊢
  have hl : lv_has ls 3 [(0, .ref h0), (1, .int a0), (2, .int a1)] := hl
  have hmk : mdK g Ty := mdk_of hH k_h0
  have hS : va_S (AF Ty s.heap.size) s.heap s.heap [] := va_S.rf
  obtain ⟨⟨σ0, hTS0⟩, h10, hBB0⟩ := id hI.ti
  obtain ⟨ρ, hT⟩ := hTS0.1
  refine lv_aload_n hx hb dX12_at_0 rfl (lv_at hl 0 rfl) ?_
  refine lv_iconst (v := 0) hx hb dX12_at_1 (by decide) ?_
  obtain ⟨_, ⟨rfl, t_2, hk_3⟩, o_c_1⟩ := hH h0 _ k_h0
  refine hg_put (ty := .int) hx hb hG igX12 tyX12 tyX12_ok nmX12 hown hK hS o_c_1 (AF.of k_h0) rfl 5 (by decide) (hG _ mw_1289) rfl (by decide +kernel) rfl rfl (Nat.le_of_ble_eq_true rfl) dX12_at_2 (fun H locs o_c_1 hz oq hS => ?_)
  obtain ⟨G_4, eG_4⟩ : ∃ z : Gh, z = gset G 105 0 := ⟨_, rfl⟩
  have hH : HT g Ty G_4 H := by rw [eG_4]; exact HT.putN 105 0 hH k_h0 ⟨rfl, t_2, hk_3⟩ o_c_1 oq (Or.inr (Or.inr (Or.inr (Or.inr (Or.inr ⟨by decide, t_2⟩)))))
  have fr_5 : FR [105] [] [] G G_4 := FR.n FR.rf eG_4 (by decide)
  have u_6 : G_4.1 102 = (G.1 102) := by rw [eG_4]; exact (gs_ne (by decide))
  have u_7 : G_4.1 104 = (G.1 104) := by rw [eG_4]; exact (gs_ne (by decide))
  have u_8 : G_4.1 113 = (G.1 113) := by rw [eG_4]; exact (gs_ne (by decide))
  have u_9 : G_4.1 122 = (G.1 122) := by rw [eG_4]; exact (gs_ne (by decide))
  have u_10 : G_4.1 133 = (G.1 133) := by rw [eG_4]; exact (gs_ne (by decide))
  have u_11 : G_4.1 137 = (G.1 137) := by rw [eG_4]; exact (gs_ne (by decide))
  have u_12 : G_4.1 105 = 0 := by rw [eG_4]; exact gs_eq
  have w_13 : G_4.2.1 (g.2.2 100) = (G.2.1 (g.2.2 100)) := by rw [eG_4]; exact rfl
  have w_14 : G_4.2.1 (g.2.2 121) = (G.2.1 (g.2.2 121)) := by rw [eG_4]; exact rfl
  have w_15 : G_4.2.1 (g.2.2 140) = (G.2.1 (g.2.2 140)) := by rw [eG_4]; exact rfl
  have w_16 : G_4.2.1 (g.2.2 141) = (G.2.1 (g.2.2 141)) := by rw [eG_4]; exact rfl
  have w_17 : G_4.2.1 (g.2.2 111) = (G.2.1 (g.2.2 111)) := by rw [eG_4]; exact rfl
  have u_18 : G_4.2.2 111 = some (g.2.2 111) := by rw [eG_4]; exact hI.r111
  have u_19 : G_4.2.2 112 = some (g.2.2 112) := by rw [eG_4]; exact hI.r112
  clear oq hz
  refine lv_aload_n hx hb dX12_at_5 rfl (lv_at hl 0 rfl) ?_
  obtain ⟨_, ⟨rfl, t_21, hk_22⟩, o_c_20⟩ := hH h0 _ k_h0
  refine hg_get hx hb hG igX12 hown hK o_c_20 rfl 0 (by decide) (hG _ mw_1284) rfl dX12_at_6 ?_
  refine lv_iload_n hx hb dX12_at_9 rfl (lv_at hl 1 rfl) ?_
  refine vp_callSi (W.runS (As := [.ref (g.2.2 100), .int a0]) (rest := []) ⟨hx, hb, hml, hown, hts⟩ (c_X12_isThere l g Ty G_4 (g.2.2 100) a0 (hk_22.1)) (cwSx 2 hts hG (gwC mw_1520) mw_88 mw_1518 mw_1519 rfl rfl rfl hd_X12_isThere ⟨Nat.le_of_ble_eq_true rfl, Nat.le_of_ble_eq_true rfl⟩) ⟨PcH_blind, PcH_pre hK hH⟩ rfl rfl hl.1 rfl (lv_room (Nat.le_of_ble_eq_true rfl)) dX12_at_10 ⟨Nat.zero_le _, Nat.zero_le _⟩) (fun x_23 hx_23 => ?_)
  have rx_23 : rgI (0) (1) x_23 := hx_23.1
  have ex_24 : x_23 = F_X12_isThere (G.2.1 (g.2.2 100)) a0 := by rw [← w_13]; exact hx_23.2.2
  refine lv_if_eq (tgt := 35) hx hb dX12_at_13 (by decide) (fun c_25 => ?_) (fun c_25 => ?_)
  · have r_26 : rgI (0) (0) x_23 := rg_w (rg_eq rl_0 c_25) (by decide) (by decide)
    refine lv_aload_n hx hb dX12_at_35 rfl (lv_at hl 0 rfl) ?_
    refine va_calli (va_runV (As := []) (rest := []) ⟨hx, hb, hml, hown, hts⟩ (c_X12_lost l g Ty G_4 H.size h0 k_h0) (cwV 0 hts (gwV mw_1521 mw_1523 mw_49 mw_88 mw_1524) rfl rfl rfl hv_X12_lost ⟨Nat.le_of_ble_eq_true rfl, Nat.le_of_ble_eq_true rfl⟩) ⟨PcT_blind, hg_recv hK o_c_20 rfl, PcT_pre hK hH⟩ rfl rfl hl.1 rfl (lv_room (Nat.le_of_ble_eq_true rfl)) dX12_at_36 ⟨Nat.zero_le _, Nat.zero_le _⟩) hS (fun q _ h => AF.mono hS.1 h) (fun q h => AF.mono hS.1 h) (fun x_27 ux_27 t H locs ht hvm hx_27 hB hz hk hS => ?_)
    obtain ⟨eTx_27, eGx_27⟩ := hx_27
    obtain ⟨G_28, eG_28⟩ : ∃ z, z = ux_27.2 := ⟨_, rfl⟩
    rw [← eG_28] at eGx_27
    have fr_29 : FR [105] [] [] G G_28 := FR.n fr_5 eGx_27 (by decide)
    have u_30 : G_28.1 102 = (G.1 102) := by rw [eGx_27]; exact (gs_ne (by decide)).trans u_6
    have u_31 : G_28.1 104 = (G.1 104) := by rw [eGx_27]; exact (gs_ne (by decide)).trans u_7
    have u_32 : G_28.1 113 = (G.1 113) := by rw [eGx_27]; exact (gs_ne (by decide)).trans u_8
    have u_33 : G_28.1 122 = (G.1 122) := by rw [eGx_27]; exact (gs_ne (by decide)).trans u_9
    have u_34 : G_28.1 133 = (G.1 133) := by rw [eGx_27]; exact (gs_ne (by decide)).trans u_10
    have u_35 : G_28.1 137 = (G.1 137) := by rw [eGx_27]; exact (gs_ne (by decide)).trans u_11
    have u_36 : G_28.1 105 = 1 := by rw [eGx_27]; exact gs_eq
    have w_37 : G_28.2.1 (g.2.2 100) = (G.2.1 (g.2.2 100)) := by rw [eGx_27]; exact w_13
    have w_38 : G_28.2.1 (g.2.2 121) = (G.2.1 (g.2.2 121)) := by rw [eGx_27]; exact w_14
    have w_39 : G_28.2.1 (g.2.2 140) = (G.2.1 (g.2.2 140)) := by rw [eGx_27]; exact w_15
    have w_40 : G_28.2.1 (g.2.2 141) = (G.2.1 (g.2.2 141)) := by rw [eGx_27]; exact w_16
    have w_41 : G_28.2.1 (g.2.2 111) = (G.2.1 (g.2.2 111)) := by rw [eGx_27]; exact w_17
    have u_42 : G_28.2.2 111 = some (g.2.2 111) := by rw [eGx_27]; exact u_18
    have u_43 : G_28.2.2 112 = some (g.2.2 112) := by rw [eGx_27]; exact u_19
    have hH : HT g Ty G_28 H := by rw [← ht, ← eTx_27, eG_28]; exact hB
    exact W.iret hx hb hr (fun t ht hWm => ⟨⟨x_27, (Ty, G_28), rfl, ⟨rfl, ⟨fr_29, ⟨(by rw [u_30]; exact (rg_w hI.a102 (by decide) (by decide))), (by rw [u_31]; exact (rg_w hI.a104 (by decide) (by decide))), (by rw [u_32]; exact (rg_w hI.a113 (by decide) (by decide))), (by rw [u_33]; exact (rg_w hI.a122 (by decide) (by decide))), (by rw [u_34]; exact (rg_w hI.a133 (by decide) (by decide))), (by rw [u_35]; exact (rg_w hI.a137 (by decide) (by decide))), u_42, u_43, (by rw [w_37]; exact (hI.ti.hi (show Bd ≤ Bd + 1000 by omega))), (hI.un2 (show Bd ≤ Bd + 1000 by omega) w_38 u_33), (hI.ke2 (show Bd ≤ Bd + 1000 by omega) w_39 w_40)⟩⟩⟩, by show HT g Ty G_28 t.heap; rw [ht]; exact hH⟩, hS.F ht⟩) hS.2.2 dX12_at_39
  · have th_44 : thr (G.2.1 (g.2.2 100)) a0 := F_isThere_thr (by rw [← ex_24]; exact c_25)
    have r_45 : rgI (1) (1) x_23 := rg_w (rg_neL rx_23 rl_0 c_25) (by decide) (by decide)
    have r_46 : rgI (0) (23) a0 := rg_w (hx_23.2.1.resolve_left c_25) (by decide) (by decide)
    refine lv_iload_n hx hb dX12_at_16 rfl (lv_at hl 2 rfl) ?_
    refine vp_callSi (W.runS (As := [.int a1]) (rest := []) ⟨hx, hb, hml, hown, hts⟩ (c_X12_isDir l g Ty G_4 a1 ) (cwSx 1 hts hG (gwC mw_1537) mw_88 mw_1535 mw_1536 rfl rfl rfl hd_X12_isDir ⟨Nat.le_of_ble_eq_true rfl, Nat.le_of_ble_eq_true rfl⟩) ⟨PcH_blind, PcH_pre hK hH⟩ rfl rfl hl.1 rfl (lv_room (Nat.le_of_ble_eq_true rfl)) dX12_at_17 ⟨Nat.zero_le _, Nat.zero_le _⟩) (fun x_47 hx_47 => ?_)
    have rx_47 : rgI (0) (1) x_47 := hx_47.1
    refine lv_if_eq (tgt := 35) hx hb dX12_at_20 (by decide) (fun c_48 => ?_) (fun c_48 => ?_)
    · have r_49 : rgI (0) (0) x_47 := rg_w (rg_eq rl_0 c_48) (by decide) (by decide)
      refine lv_aload_n hx hb dX12_at_35 rfl (lv_at hl 0 rfl) ?_
      refine va_calli (va_runV (As := []) (rest := []) ⟨hx, hb, hml, hown, hts⟩ (c_X12_lost l g Ty G_4 H.size h0 k_h0) (cwV 0 hts (gwV mw_1521 mw_1523 mw_49 mw_88 mw_1524) rfl rfl rfl hv_X12_lost ⟨Nat.le_of_ble_eq_true rfl, Nat.le_of_ble_eq_true rfl⟩) ⟨PcT_blind, hg_recv hK o_c_20 rfl, PcT_pre hK hH⟩ rfl rfl hl.1 rfl (lv_room (Nat.le_of_ble_eq_true rfl)) dX12_at_36 ⟨Nat.zero_le _, Nat.zero_le _⟩) hS (fun q _ h => AF.mono hS.1 h) (fun q h => AF.mono hS.1 h) (fun x_50 ux_50 t H locs ht hvm hx_50 hB hz hk hS => ?_)
      obtain ⟨eTx_50, eGx_50⟩ := hx_50
      obtain ⟨G_51, eG_51⟩ : ∃ z, z = ux_50.2 := ⟨_, rfl⟩
      rw [← eG_51] at eGx_50
      have fr_52 : FR [105] [] [] G G_51 := FR.n fr_5 eGx_50 (by decide)
      have u_53 : G_51.1 102 = (G.1 102) := by rw [eGx_50]; exact (gs_ne (by decide)).trans u_6
      have u_54 : G_51.1 104 = (G.1 104) := by rw [eGx_50]; exact (gs_ne (by decide)).trans u_7
      have u_55 : G_51.1 113 = (G.1 113) := by rw [eGx_50]; exact (gs_ne (by decide)).trans u_8
      have u_56 : G_51.1 122 = (G.1 122) := by rw [eGx_50]; exact (gs_ne (by decide)).trans u_9
      have u_57 : G_51.1 133 = (G.1 133) := by rw [eGx_50]; exact (gs_ne (by decide)).trans u_10
      have u_58 : G_51.1 137 = (G.1 137) := by rw [eGx_50]; exact (gs_ne (by decide)).trans u_11
      have u_59 : G_51.1 105 = 1 := by rw [eGx_50]; exact gs_eq
      have w_60 : G_51.2.1 (g.2.2 100) = (G.2.1 (g.2.2 100)) := by rw [eGx_50]; exact w_13
      have w_61 : G_51.2.1 (g.2.2 121) = (G.2.1 (g.2.2 121)) := by rw [eGx_50]; exact w_14
      have w_62 : G_51.2.1 (g.2.2 140) = (G.2.1 (g.2.2 140)) := by rw [eGx_50]; exact w_15
      have w_63 : G_51.2.1 (g.2.2 141) = (G.2.1 (g.2.2 141)) := by rw [eGx_50]; exact w_16
      have w_64 : G_51.2.1 (g.2.2 111) = (G.2.1 (g.2.2 111)) := by rw [eGx_50]; exact w_17
      have u_65 : G_51.2.2 111 = some (g.2.2 111) := by rw [eGx_50]; exact u_18
      have u_66 : G_51.2.2 112 = some (g.2.2 112) := by rw [eGx_50]; exact u_19
      have hH : HT g Ty G_51 H := by rw [← ht, ← eTx_50, eG_51]; exact hB
      exact W.iret hx hb hr (fun t ht hWm => ⟨⟨x_50, (Ty, G_51), rfl, ⟨rfl, ⟨fr_52, ⟨(by rw [u_53]; exact (rg_w hI.a102 (by decide) (by decide))), (by rw [u_54]; exact (rg_w hI.a104 (by decide) (by decide))), (by rw [u_55]; exact (rg_w hI.a113 (by decide) (by decide))), (by rw [u_56]; exact (rg_w hI.a122 (by decide) (by decide))), (by rw [u_57]; exact (rg_w hI.a133 (by decide) (by decide))), (by rw [u_58]; exact (rg_w hI.a137 (by decide) (by decide))), u_65, u_66, (by rw [w_60]; exact (hI.ti.hi (show Bd ≤ Bd + 1000 by omega))), (hI.un2 (show Bd ≤ Bd + 1000 by omega) w_61 u_56), (hI.ke2 (show Bd ≤ Bd + 1000 by omega) w_62 w_63)⟩⟩⟩, by show HT g Ty G_51 t.heap; rw [ht]; exact hH⟩, hS.F ht⟩) hS.2.2 dX12_at_39
    · have r_67 : rgI (1) (1) x_47 := rg_w (rg_neL rx_47 rl_0 c_48) (by decide) (by decide)
      have r_68 : rgI (0) (3) a1 := rg_w (F_isDir_rg (by rw [← hx_47.2]; exact c_48)) (by decide) (by decide)
      refine lv_aload_n hx hb dX12_at_23 rfl (lv_at hl 0 rfl) ?_
      refine hg_get hx hb hG igX12 hown hK o_c_20 rfl 0 (by decide) (hG _ mw_1284) rfl dX12_at_24 ?_
      refine lv_iload_n hx hb dX12_at_27 rfl (lv_at hl 1 rfl) ?_
      refine lv_iload_n hx hb dX12_at_28 rfl (lv_at hl 2 rfl) ?_
      refine vp_callSi (W.runS (As := [.ref (g.2.2 100), .int a0, .int a1]) (rest := []) ⟨hx, hb, hml, hown, hts⟩ (c_X12_atOf l g Ty G_4 (g.2.2 100) a0 a1 (hk_22.1)) (cwSx 3 hts hG (gwC mw_1509) mw_88 mw_1507 mw_1508 rfl rfl rfl hd_X12_atOf ⟨Nat.le_of_ble_eq_true rfl, Nat.le_of_ble_eq_true rfl⟩) ⟨PcH_blind, PcH_pre hK hH⟩ rfl rfl hl.1 rfl (lv_room (Nat.le_of_ble_eq_true rfl)) dX12_at_29 ⟨Nat.zero_le _, Nat.zero_le _⟩) (fun x_69 hx_69 => ?_)
      have rx_69 : rgI (1) (24) x_69 := hx_69.1
      have ex_70 : x_69 = F_X12_atOf (G.2.1 (g.2.2 100)) a0 a1 := by rw [← w_13]; exact hx_69.2
      refine lv_goto (tgt := 39) hx hb dX12_at_32 (by decide) ?_
      exact W.iret hx hb hr (fun t ht hWm => ⟨⟨x_69, (Ty, G_4), rfl, ⟨rfl, ⟨fr_5, ⟨(by rw [u_6]; exact (rg_w hI.a102 (by decide) (by decide))), (by rw [u_7]; exact (rg_w hI.a104 (by decide) (by decide))), (by rw [u_8]; exact (rg_w hI.a113 (by decide) (by decide))), (by rw [u_9]; exact (rg_w hI.a122 (by decide) (by decide))), (by rw [u_10]; exact (rg_w hI.a133 (by decide) (by decide))), (by rw [u_11]; exact (rg_w hI.a137 (by decide) (by decide))), u_18, u_19, (by rw [w_13]; exact (hI.ti.hi (show Bd ≤ Bd + 1000 by omega))), (hI.un2 (show Bd ≤ Bd + 1000 by omega) w_14 u_9), (hI.ke2 (show Bd ≤ Bd + 1000 by omega) w_15 w_16)⟩⟩⟩, by show HT g Ty G_4 t.heap; rw [ht]; exact hH⟩, hS.F ht⟩) hS.2.2 dX12_at_39

set_option maxHeartbeats 4000000 in
set_option maxRecDepth 100000 in
theorem c_X12_tellBits (l : Launch) (g : Gx) (Ty : TyM) (G : Gh) (sz : Nat) (h0 : Nat) (a0 : Int32) (k_h0 : Ty h0 = some (22, 0)) : Met l yX12_tellBits (wsG yX12_tellBits cX12_tellBits 2 (some .int)) ({ frames := 1, cells := 0, slots := 0, locals := 22 }) (PcT g Ty G sz [.ref h0, .int a0]) (QwI g Ty sz (fun r u => u.1 = Ty ∧ FR [104] [] [] G u.2 ∧ rgI (1) (1) (u.2.1 104))) 0 0 (AF Ty sz) := by
  refine Met.ofW (cc := cX12_tellBits) (maxL := 2) (ret := (some .int)) (by decide) rfl ?_
  intro p e s m args below meth c s₁ B hml hv
  obtain ⟨rfl, hsz, hK, hH⟩ := hv
  subst hsz
  have hx := B.exec
  have hb := B.bytes
  have hr := B.returns
  have hts := atoms_spec (ws := (wsG yX12_tellBits cX12_tellBits 2 (some .int))) B.pre
  have hG : ∀ w ∈ GW, w.before ([.ref h0, .int a0] : List Value).toArray s = true := fun w h => hts w (List.mem_cons_of_mem _ h)
  have hown : s.vm.findClass RX12 = some m.cls := findClass_of_methodNamed B.named
  have hlocks := B.notSynchronized
  have hl := lv_entry [.ref h0, .int a0] (n := 2) (Nat.le_of_ble_eq_true rfl)
  rw [lg_entry_eq]
  generalize (lg_sl [.ref h0, .int a0] ++ List.replicate (2 - (lg_sl [.ref h0, .int a0]).length) Slot.unset).toArray = ls at hl ⊢
  have hl : lv_has ls 2 [(0, .ref h0), (1, .int a0)] := hl
  have hmk : mdK g Ty := mdk_of hH k_h0
  have hS : va_S (AF Ty s.heap.size) s.heap s.heap [] := va_S.rf
  refine lv_aload_n hx hb dX12_tellBits_0 rfl (lv_at hl 0 rfl) ?_
  refine lv_iconst (v := 0) hx hb dX12_tellBits_1 (by decide) ?_
  obtain ⟨_, ⟨rfl, t_2, hk_3⟩, o_c_1⟩ := hH h0 _ k_h0
  refine hg_put (ty := .int) hx hb hG igX12 tyX12 tyX12_ok nmX12 hown hK hS o_c_1 (AF.of k_h0) rfl 4 (by decide) (hG _ mw_1288) rfl (by decide +kernel) rfl rfl (Nat.le_of_ble_eq_true rfl) dX12_tellBits_2 (fun H locs o_c_1 hz oq hS => ?_)
  obtain ⟨G_4, eG_4⟩ : ∃ z : Gh, z = gset G 104 0 := ⟨_, rfl⟩
  have hH : HT g Ty G_4 H := by rw [eG_4]; exact HT.putN 104 0 hH k_h0 ⟨rfl, t_2, hk_3⟩ o_c_1 oq (Or.inr (Or.inr (Or.inr (Or.inr (Or.inr ⟨by decide, t_2⟩)))))
  have fr_5 : FR [104] [] [] G G_4 := FR.n FR.rf eG_4 (by decide)
  have u_6 : G_4.1 104 = 0 := by rw [eG_4]; exact gs_eq
  clear oq hz
  refine lv_aload_n hx hb dX12_tellBits_5 rfl (lv_at hl 0 rfl) ?_
  refine lv_iload_n hx hb dX12_tellBits_6 rfl (lv_at hl 1 rfl) ?_
  refine vp_callSi (W.runS (As := [.int a0]) (rest := [.ref h0]) ⟨hx, hb, hml, hown, hts⟩ (c_J6_bitCount_x l g Ty G_4 a0 ) (cwSx 1 hts hG (gwC mw_620) mw_99 mw_1553 mw_619 rfl rfl rfl hd_J6_bitCount_0f7a4 ⟨Nat.le_of_ble_eq_true rfl, Nat.le_of_ble_eq_true rfl⟩) ⟨PcH_blind, PcH_pre hK hH⟩ rfl rfl hl.1 rfl (lv_room (Nat.le_of_ble_eq_true rfl)) dX12_tellBits_7 ⟨Nat.zero_le _, Nat.zero_le _⟩) (fun x_7 hx_7 => ?_)
  have rx_7 : rgI (0) (63) x_7 := hx_7.1
  refine lv_i2l hx hb dX12_tellBits_10 rfl ?_
  refine lv_topl (fun u_8 eu_8 => ?_)
  obtain ⟨_, ⟨rfl, t_10, hk_11⟩, o_c_9⟩ := hH h0 _ k_h0
  refine va_callv (va_runV (As := [.long u_8]) (rest := []) ⟨hx, hb, hml, hown, hts⟩ (c_X12_tell l g Ty G_4 H.size h0 u_8 k_h0 (by rw [u_6]; exact rg_w rl_0 (by decide) (by decide))) (cwV 1 hts (gwV mw_1510 mw_1512 mw_48 mw_88 mw_1513) rfl rfl rfl hv_X12_tell ⟨Nat.le_of_ble_eq_true rfl, Nat.le_of_ble_eq_true rfl⟩) ⟨PcT_blind, hg_recv hK o_c_9 rfl, PcT_pre hK hH⟩ rfl rfl hl.1 rfl (lv_room (Nat.le_of_ble_eq_true rfl)) dX12_tellBits_11 ⟨Nat.zero_le _, Nat.zero_le _⟩) hS (fun q _ h => AF.mono hS.1 h) (fun q h => AF.mono hS.1 h) (fun ux_12 t H locs ht hvm hx_12 hB hz hk hS => ?_)
  obtain ⟨eTx_12, eGx_12⟩ := hx_12
  obtain ⟨G_13, eG_13⟩ : ∃ z, z = ux_12.2 := ⟨_, rfl⟩
  rw [← eG_13] at eGx_12
  obtain ⟨x_14, ex_14⟩ : ∃ z : Int32, z = 0 + 1 := ⟨_, rfl⟩
  have e_15 : G_13 = gset G_4 104 x_14 := by rw [ex_14, ← u_6]; exact eGx_12
  have rx_14 : rgI (1) (1) x_14 := by rw [ex_14]; exact rg_w (rg_add rl_0 rl_1 (by decide) (by decide)) (by decide) (by decide)
  have fr_16 : FR [104] [] [] G G_13 := FR.n fr_5 e_15 (by decide)
  have u_17 : G_13.1 104 = x_14 := by rw [e_15]; exact gs_eq
  have hH : HT g Ty G_13 H := by rw [← ht, ← eTx_12, eG_13]; exact hB
  refine lv_iload_n hx hb dX12_tellBits_14 rfl (lv_at hl 1 rfl) ?_
  exact W.iret hx hb hr (fun t ht hWm => ⟨⟨a0, (Ty, G_13), rfl, ⟨rfl, ⟨fr_16, (by rw [u_17]; exact (rg_w rx_14 (by decide) (by decide)))⟩⟩, by show HT g Ty G_13 t.heap; rw [ht]; exact hH⟩, hS.F ht⟩) hS.2.2 dX12_tellBits_15

set_option maxHeartbeats 4000000 in
set_option maxRecDepth 100000 in
theorem c_X12_tellCame (l : Launch) (g : Gx) (Ty : TyM) (G : Gh) (sz : Nat) (h0 : Nat) (a0 : Int32) (k_h0 : Ty h0 = some (22, 0)) : Met l yX12_tellCame (wsG yX12_tellCame cX12_tellCame 2 (some .int)) ({ frames := 1, cells := 0, slots := 0, locals := 22 }) (PcT g Ty G sz [.ref h0, .int a0]) (QwI g Ty sz (fun r u => u.1 = Ty ∧ FR [104] [] [] G u.2 ∧ rgI (2) (2) (u.2.1 104))) 0 0 (AF Ty sz) := by
  refine Met.ofW (cc := cX12_tellCame) (maxL := 2) (ret := (some .int)) (by decide) rfl ?_
  intro p e s m args below meth c s₁ B hml hv
  obtain ⟨rfl, hsz, hK, hH⟩ := hv
  subst hsz
  have hx := B.exec
  have hb := B.bytes
  have hr := B.returns
  have hts := atoms_spec (ws := (wsG yX12_tellCame cX12_tellCame 2 (some .int))) B.pre
  have hG : ∀ w ∈ GW, w.before ([.ref h0, .int a0] : List Value).toArray s = true := fun w h => hts w (List.mem_cons_of_mem _ h)
  have hown : s.vm.findClass RX12 = some m.cls := findClass_of_methodNamed B.named
  have hlocks := B.notSynchronized
  have hl := lv_entry [.ref h0, .int a0] (n := 2) (Nat.le_of_ble_eq_true rfl)
  rw [lg_entry_eq]
  generalize (lg_sl [.ref h0, .int a0] ++ List.replicate (2 - (lg_sl [.ref h0, .int a0]).length) Slot.unset).toArray = ls at hl ⊢
  have hl : lv_has ls 2 [(0, .ref h0), (1, .int a0)] := hl
  have hmk : mdK g Ty := mdk_of hH k_h0
  have hS : va_S (AF Ty s.heap.size) s.heap s.heap [] := va_S.rf
  refine lv_aload_n hx hb dX12_tellCame_0 rfl (lv_at hl 0 rfl) ?_
  refine lv_iconst (v := 0) hx hb dX12_tellCame_1 (by decide) ?_
  obtain ⟨_, ⟨rfl, t_2, hk_3⟩, o_c_1⟩ := hH h0 _ k_h0
  refine hg_put (ty := .int) hx hb hG igX12 tyX12 tyX12_ok nmX12 hown hK hS o_c_1 (AF.of k_h0) rfl 4 (by decide) (hG _ mw_1288) rfl (by decide +kernel) rfl rfl (Nat.le_of_ble_eq_true rfl) dX12_tellCame_2 (fun H locs o_c_1 hz oq hS => ?_)
  obtain ⟨G_4, eG_4⟩ : ∃ z : Gh, z = gset G 104 0 := ⟨_, rfl⟩
  have hH : HT g Ty G_4 H := by rw [eG_4]; exact HT.putN 104 0 hH k_h0 ⟨rfl, t_2, hk_3⟩ o_c_1 oq (Or.inr (Or.inr (Or.inr (Or.inr (Or.inr ⟨by decide, t_2⟩)))))
  have fr_5 : FR [104] [] [] G G_4 := FR.n FR.rf eG_4 (by decide)
  have u_6 : G_4.1 104 = 0 := by rw [eG_4]; exact gs_eq
  clear oq hz
  refine lv_aload_n hx hb dX12_tellCame_5 rfl (lv_at hl 0 rfl) ?_
  refine lv_aload_n hx hb dX12_tellCame_6 rfl (lv_at hl 0 rfl) ?_
  obtain ⟨_, ⟨rfl, t_8, hk_9⟩, o_c_7⟩ := hH h0 _ k_h0
  refine hg_get hx hb hG igX12 hown hK o_c_7 rfl 28 (by decide) (hG _ mw_1312) rfl dX12_tellCame_7 ?_
  refine vp_callSi (W.runS (As := [.int (G_4.1 128)]) (rest := [.ref h0]) ⟨hx, hb, hml, hown, hts⟩ (c_J6_bitCount_x l g Ty G_4 (G_4.1 128) ) (cwSx 1 hts hG (gwC mw_620) mw_99 mw_1553 mw_619 rfl rfl rfl hd_J6_bitCount_0f7a4 ⟨Nat.le_of_ble_eq_true rfl, Nat.le_of_ble_eq_true rfl⟩) ⟨PcH_blind, PcH_pre hK hH⟩ rfl rfl hl.1 rfl (lv_room (Nat.le_of_ble_eq_true rfl)) dX12_tellCame_10 ⟨Nat.zero_le _, Nat.zero_le _⟩) (fun x_10 hx_10 => ?_)
  have rx_10 : rgI (0) (63) x_10 := hx_10.1
  refine lv_i2l hx hb dX12_tellCame_13 rfl ?_
  refine lv_topl (fun u_11 eu_11 => ?_)
  refine va_callv (va_runV (As := [.long u_11]) (rest := []) ⟨hx, hb, hml, hown, hts⟩ (c_X12_tell l g Ty G_4 H.size h0 u_11 k_h0 (by rw [u_6]; exact rg_w rl_0 (by decide) (by decide))) (cwV 1 hts (gwV mw_1510 mw_1512 mw_48 mw_88 mw_1513) rfl rfl rfl hv_X12_tell ⟨Nat.le_of_ble_eq_true rfl, Nat.le_of_ble_eq_true rfl⟩) ⟨PcT_blind, hg_recv hK o_c_7 rfl, PcT_pre hK hH⟩ rfl rfl hl.1 rfl (lv_room (Nat.le_of_ble_eq_true rfl)) dX12_tellCame_14 ⟨Nat.zero_le _, Nat.zero_le _⟩) hS (fun q _ h => AF.mono hS.1 h) (fun q h => AF.mono hS.1 h) (fun ux_12 t H locs ht hvm hx_12 hB hz hk hS => ?_)
  obtain ⟨eTx_12, eGx_12⟩ := hx_12
  obtain ⟨G_13, eG_13⟩ : ∃ z, z = ux_12.2 := ⟨_, rfl⟩
  rw [← eG_13] at eGx_12
  obtain ⟨x_14, ex_14⟩ : ∃ z : Int32, z = 0 + 1 := ⟨_, rfl⟩
  have e_15 : G_13 = gset G_4 104 x_14 := by rw [ex_14, ← u_6]; exact eGx_12
  have rx_14 : rgI (1) (1) x_14 := by rw [ex_14]; exact rg_w (rg_add rl_0 rl_1 (by decide) (by decide)) (by decide) (by decide)
  have fr_16 : FR [104] [] [] G G_13 := FR.n fr_5 e_15 (by decide)
  have u_17 : G_13.1 104 = x_14 := by rw [e_15]; exact gs_eq
  have hH : HT g Ty G_13 H := by rw [← ht, ← eTx_12, eG_13]; exact hB
  refine lv_aload_n hx hb dX12_tellCame_17 rfl (lv_at hl 0 rfl) ?_
  refine lv_aload_n hx hb dX12_tellCame_18 rfl (lv_at hl 0 rfl) ?_
  obtain ⟨_, ⟨rfl, t_19, hk_20⟩, o_c_18⟩ := hH h0 _ k_h0
  refine hg_get hx hb hG igX12 hown hK o_c_18 rfl 28 (by decide) (hG _ mw_1312) rfl dX12_tellCame_19 ?_
  refine lv_i2l hx hb dX12_tellCame_22 rfl ?_
  refine lv_topl (fun u_21 eu_21 => ?_)
  refine va_callv (va_runV (As := [.long u_21]) (rest := []) ⟨hx, hb, hml, hown, hts⟩ (c_X12_tell l g Ty G_13 H.size h0 u_21 k_h0 (by rw [u_17]; exact rg_w rx_14 (by decide) (by decide))) (cwV 1 hts (gwV mw_1510 mw_1512 mw_48 mw_88 mw_1513) rfl rfl rfl hv_X12_tell ⟨Nat.le_of_ble_eq_true rfl, Nat.le_of_ble_eq_true rfl⟩) ⟨PcT_blind, hg_recv hK o_c_18 rfl, PcT_pre hK hH⟩ rfl rfl hl.1 rfl (lv_room (Nat.le_of_ble_eq_true rfl)) dX12_tellCame_23 ⟨Nat.zero_le _, Nat.zero_le _⟩) hS (fun q _ h => AF.mono hS.1 h) (fun q h => AF.mono hS.1 h) (fun ux_22 t H locs ht hvm hx_22 hB hz hk hS => ?_)
  obtain ⟨eTx_22, eGx_22⟩ := hx_22
  obtain ⟨G_23, eG_23⟩ : ∃ z, z = ux_22.2 := ⟨_, rfl⟩
  rw [← eG_23] at eGx_22
  obtain ⟨x_24, ex_24⟩ : ∃ z : Int32, z = x_14 + 1 := ⟨_, rfl⟩
  have e_25 : G_23 = gset G_13 104 x_24 := by rw [ex_24, ← u_17]; exact eGx_22
  have rx_24 : rgI (2) (2) x_24 := by rw [ex_24]; exact rg_w (rg_add rx_14 rl_1 (by decide) (by decide)) (by decide) (by decide)
  have fr_26 : FR [104] [] [] G G_23 := FR.n fr_16 e_25 (by decide)
  have u_27 : G_23.1 104 = x_24 := by rw [e_25]; exact gs_eq
  have hH : HT g Ty G_23 H := by rw [← ht, ← eTx_22, eG_23]; exact hB
  refine lv_iload_n hx hb dX12_tellCame_26 rfl (lv_at hl 1 rfl) ?_
  exact W.iret hx hb hr (fun t ht hWm => ⟨⟨a0, (Ty, G_23), rfl, ⟨rfl, ⟨fr_26, (by rw [u_27]; exact (rg_w rx_24 (by decide) (by decide)))⟩⟩, by show HT g Ty G_23 t.heap; rw [ht]; exact hH⟩, hS.F ht⟩) hS.2.2 dX12_tellCame_27

set_option maxHeartbeats 4000000 in
set_option maxRecDepth 100000 in
theorem c_X12_spread (l : Launch) (g : Gx) (Ty : TyM) (G : Gh) (sz : Nat) (h0 : Nat) (a0 : Int32) (k_h0 : Ty h0 = some (22, 0)) (Bd : Int) (hI : OI g Bd G) (hBd : Bd ≤ 1900000) (hLD : LD g) : Met l yX12_spread (wsG yX12_spread cX12_spread 2 (some .int)) ({ frames := 4, cells := 0, slots := 0, locals := 90 }) (PcT g Ty G sz [.ref h0, .int a0]) (QwI g Ty sz (fun r u => u.1 = Ty ∧ FR [104, 105] [] [] G u.2 ∧ OI g (Bd + 1000) u.2)) 0 0 (AF Ty sz) := by
  refine Met.ofW (cc := cX12_spread) (maxL := 2) (ret := (some .int)) (by decide) rfl ?_
  intro p e s m args below meth c s₁ B hml hv
  obtain ⟨rfl, hsz, hK, hH⟩ := hv
  subst hsz
  have hx := B.exec
  have hb := B.bytes
  have hr := B.returns
  have hts := atoms_spec (ws := (wsG yX12_spread cX12_spread 2 (some .int))) B.pre
  have hG : ∀ w ∈ GW, w.before ([.ref h0, .int a0] : List Value).toArray s = true := fun w h => hts w (List.mem_cons_of_mem _ h)
  have hown : s.vm.findClass RX12 = some m.cls := findClass_of_methodNamed B.named
  have hlocks := B.notSynchronized
  have hl := lv_entry [.ref h0, .int a0] (n := 2) (Nat.le_of_ble_eq_true rfl)
  rw [lg_entry_eq]
  generalize (lg_sl [.ref h0, .int a0] ++ List.replicate (2 - (lg_sl [.ref h0, .int a0]).length) Slot.unset).toArray = ls at hl ⊢
  have hl : lv_has ls 2 [(0, .ref h0), (1, .int a0)] := hl
  have hmk : mdK g Ty := mdk_of hH k_h0
  have hS : va_S (AF Ty s.heap.size) s.heap s.heap [] := va_S.rf
  obtain ⟨⟨σ0, hTS0⟩, h10, hBB0⟩ := id hI.ti
  obtain ⟨ρ, hT⟩ := hTS0.1
  refine lv_aload_n hx hb dX12_spread_0 rfl (lv_at hl 0 rfl) ?_
  refine lv_iconst (v := 0) hx hb dX12_spread_1 (by decide) ?_
  obtain ⟨_, ⟨rfl, t_2, hk_3⟩, o_c_1⟩ := hH h0 _ k_h0
  refine hg_put (ty := .int) hx hb hG igX12 tyX12 tyX12_ok nmX12 hown hK hS o_c_1 (AF.of k_h0) rfl 5 (by decide) (hG _ mw_1289) rfl (by decide +kernel) rfl rfl (Nat.le_of_ble_eq_true rfl) dX12_spread_2 (fun H locs o_c_1 hz oq hS => ?_)
  obtain ⟨G_4, eG_4⟩ : ∃ z : Gh, z = gset G 105 0 := ⟨_, rfl⟩
  have hH : HT g Ty G_4 H := by rw [eG_4]; exact HT.putN 105 0 hH k_h0 ⟨rfl, t_2, hk_3⟩ o_c_1 oq (Or.inr (Or.inr (Or.inr (Or.inr (Or.inr ⟨by decide, t_2⟩)))))
  have fr_5 : FR [104, 105] [] [] G G_4 := FR.n FR.rf eG_4 (by decide)
  have u_6 : G_4.1 102 = (G.1 102) := by rw [eG_4]; exact (gs_ne (by decide))
  have u_7 : G_4.1 104 = (G.1 104) := by rw [eG_4]; exact (gs_ne (by decide))
  have u_8 : G_4.1 113 = (G.1 113) := by rw [eG_4]; exact (gs_ne (by decide))
  have u_9 : G_4.1 122 = (G.1 122) := by rw [eG_4]; exact (gs_ne (by decide))
  have u_10 : G_4.1 133 = (G.1 133) := by rw [eG_4]; exact (gs_ne (by decide))
  have u_11 : G_4.1 137 = (G.1 137) := by rw [eG_4]; exact (gs_ne (by decide))
  have u_12 : G_4.1 105 = 0 := by rw [eG_4]; exact gs_eq
  have w_13 : G_4.2.1 (g.2.2 100) = (G.2.1 (g.2.2 100)) := by rw [eG_4]; exact rfl
  have w_14 : G_4.2.1 (g.2.2 121) = (G.2.1 (g.2.2 121)) := by rw [eG_4]; exact rfl
  have w_15 : G_4.2.1 (g.2.2 140) = (G.2.1 (g.2.2 140)) := by rw [eG_4]; exact rfl
  have w_16 : G_4.2.1 (g.2.2 141) = (G.2.1 (g.2.2 141)) := by rw [eG_4]; exact rfl
  have w_17 : G_4.2.1 (g.2.2 111) = (G.2.1 (g.2.2 111)) := by rw [eG_4]; exact rfl
  have u_18 : G_4.2.2 111 = some (g.2.2 111) := by rw [eG_4]; exact hI.r111
  have u_19 : G_4.2.2 112 = some (g.2.2 112) := by rw [eG_4]; exact hI.r112
  clear oq hz
  refine lv_aload_n hx hb dX12_spread_5 rfl (lv_at hl 0 rfl) ?_
  obtain ⟨_, ⟨rfl, t_21, hk_22⟩, o_c_20⟩ := hH h0 _ k_h0
  refine hg_get hx hb hG igX12 hown hK o_c_20 rfl 0 (by decide) (hG _ mw_1284) rfl dX12_spread_6 ?_
  refine lv_iload_n hx hb dX12_spread_9 rfl (lv_at hl 1 rfl) ?_
  refine vp_callSi (W.runS (As := [.ref (g.2.2 100), .int a0]) (rest := []) ⟨hx, hb, hml, hown, hts⟩ (c_X12_isThere l g Ty G_4 (g.2.2 100) a0 (hk_22.1)) (cwSx 2 hts hG (gwC mw_1520) mw_88 mw_1518 mw_1519 rfl rfl rfl hd_X12_isThere ⟨Nat.le_of_ble_eq_true rfl, Nat.le_of_ble_eq_true rfl⟩) ⟨PcH_blind, PcH_pre hK hH⟩ rfl rfl hl.1 rfl (lv_room (Nat.le_of_ble_eq_true rfl)) dX12_spread_10 ⟨Nat.zero_le _, Nat.zero_le _⟩) (fun x_23 hx_23 => ?_)
  have rx_23 : rgI (0) (1) x_23 := hx_23.1
  have ex_24 : x_23 = F_X12_isThere (G.2.1 (g.2.2 100)) a0 := by rw [← w_13]; exact hx_23.2.2
  refine lv_if_ne (tgt := 18) hx hb dX12_spread_13 (by decide) (fun c_25 => ?_) (fun c_25 => ?_)
  · have th_26 : thr (G.2.1 (g.2.2 100)) a0 := F_isThere_thr (by rw [← ex_24]; exact c_25)
    have r_27 : rgI (1) (1) x_23 := rg_w (rg_neL rx_23 rl_0 c_25) (by decide) (by decide)
    have r_28 : rgI (0) (23) a0 := rg_w (hx_23.2.1.resolve_left c_25) (by decide) (by decide)
    refine lv_aload_n hx hb dX12_spread_18 rfl (lv_at hl 0 rfl) ?_
    refine lv_aload_n hx hb dX12_spread_19 rfl (lv_at hl 0 rfl) ?_
    refine hg_get hx hb hG igX12 hown hK o_c_20 rfl 0 (by decide) (hG _ mw_1284) rfl dX12_spread_20 ?_
    refine lv_iload_n hx hb dX12_spread_23 rfl (lv_at hl 1 rfl) ?_
    refine vp_callSi (W.runS (As := [.ref (g.2.2 100), .int a0]) (rest := [.ref h0]) ⟨hx, hb, hml, hown, hts⟩ (c_X12_spreadOf l g Ty G_4 (g.2.2 100) a0 (hk_22.1) (by rw [w_13]; exact th_26)) (cwSx 2 hts hG (gwC mw_1560) mw_88 mw_1558 mw_1559 rfl rfl rfl hd_X12_spreadOf ⟨Nat.le_of_ble_eq_true rfl, Nat.le_of_ble_eq_true rfl⟩) ⟨PcH_blind, PcH_pre hK hH⟩ rfl rfl hl.1 rfl (lv_room (Nat.le_of_ble_eq_true rfl)) dX12_spread_24 ⟨Nat.zero_le _, Nat.zero_le _⟩) (fun x_29 hx_29 => ?_)
    have ex_30 : x_29 = F_X12_spreadOf (G.2.1 (g.2.2 100)) a0 := by rw [← w_13]; exact hx_29.2
    have tx_31 := hx_29.1
    try rw [w_13] at tx_31
    try rw [w_17] at tx_31
    try rw [u_8] at tx_31
    refine va_calli (va_runV (As := [.int x_29]) (rest := []) ⟨hx, hb, hml, hown, hts⟩ (c_X12_tellBits l g Ty G_4 H.size h0 x_29 k_h0) (cwV 1 hts (gwV mw_1704 mw_1706 mw_67 mw_88 mw_1707) rfl rfl rfl hv_X12_tellBits ⟨Nat.le_of_ble_eq_true rfl, Nat.le_of_ble_eq_true rfl⟩) ⟨PcT_blind, hg_recv hK o_c_20 rfl, PcT_pre hK hH⟩ rfl rfl hl.1 rfl (lv_room (Nat.le_of_ble_eq_true rfl)) dX12_spread_27 ⟨Nat.zero_le _, Nat.zero_le _⟩) hS (fun q _ h => AF.mono hS.1 h) (fun q h => AF.mono hS.1 h) (fun x_32 ux_32 t H locs ht hvm hx_32 hB hz hk hS => ?_)
    obtain ⟨eTx_32, eGx_32⟩ := hx_32
    obtain ⟨G_33, eG_33⟩ : ∃ z, z = ux_32.2 := ⟨_, rfl⟩
    rw [← eG_33] at eGx_32
    obtain ⟨hfr_34, hex_35⟩ := eGx_32
    have fr_36 : FR [104, 105] [] [] G G_33 := FR.tr fr_5 hfr_34 (by decide) (fun _ _ => trivial) (by decide)
    have u_37 : G_33.1 102 = (G.1 102) := (hfr_34.1 102 (by decide)).trans u_6
    have u_38 : G_33.1 113 = (G.1 113) := (hfr_34.1 113 (by decide)).trans u_8
    have u_39 : G_33.1 122 = (G.1 122) := (hfr_34.1 122 (by decide)).trans u_9
    have u_40 : G_33.1 133 = (G.1 133) := (hfr_34.1 133 (by decide)).trans u_10
    have u_41 : G_33.1 137 = (G.1 137) := (hfr_34.1 137 (by decide)).trans u_11
    have u_42 : G_33.1 105 = 0 := (hfr_34.1 105 (by decide)).trans u_12
    have w_43 : G_33.2.1 (g.2.2 100) = (G.2.1 (g.2.2 100)) := (hfr_34.2.1 (g.2.2 100) trivial).trans w_13
    have w_44 : G_33.2.1 (g.2.2 121) = (G.2.1 (g.2.2 121)) := (hfr_34.2.1 (g.2.2 121) trivial).trans w_14
    have w_45 : G_33.2.1 (g.2.2 140) = (G.2.1 (g.2.2 140)) := (hfr_34.2.1 (g.2.2 140) trivial).trans w_15
    have w_46 : G_33.2.1 (g.2.2 141) = (G.2.1 (g.2.2 141)) := (hfr_34.2.1 (g.2.2 141) trivial).trans w_16
    have w_47 : G_33.2.1 (g.2.2 111) = (G.2.1 (g.2.2 111)) := (hfr_34.2.1 (g.2.2 111) trivial).trans w_17
    have u_48 : G_33.2.2 111 = some (g.2.2 111) := (hfr_34.2.2 111 (by decide)).trans u_18
    have u_49 : G_33.2.2 112 = some (g.2.2 112) := (hfr_34.2.2 112 (by decide)).trans u_19
    have t4_50 : rgI (1) (1) (G_33.1 104) := hex_35
    have hH : HT g Ty G_33 H := by rw [← ht, ← eTx_32, eG_33]; exact hB
    exact W.iret hx hb hr (fun t ht hWm => ⟨⟨x_32, (Ty, G_33), rfl, ⟨rfl, ⟨fr_36, ⟨(by rw [u_37]; exact (rg_w hI.a102 (by decide) (by decide))), (rg_w t4_50 (by decide) (by decide)), (by rw [u_38]; exact (rg_w hI.a113 (by decide) (by decide))), (by rw [u_39]; exact (rg_w hI.a122 (by decide) (by decide))), (by rw [u_40]; exact (rg_w hI.a133 (by decide) (by decide))), (by rw [u_41]; exact (rg_w hI.a137 (by decide) (by decide))), u_48, u_49, (by rw [w_43]; exact (hI.ti.hi (show Bd ≤ Bd + 1000 by omega))), (hI.un2 (show Bd ≤ Bd + 1000 by omega) w_44 u_39), (hI.ke2 (show Bd ≤ Bd + 1000 by omega) w_45 w_46)⟩⟩⟩, by show HT g Ty G_33 t.heap; rw [ht]; exact hH⟩, hS.F ht⟩) hS.2.2 dX12_spread_30
  · have r_51 : rgI (0) (0) x_23 := rg_w (rg_eq rl_0 c_25) (by decide) (by decide)
    refine lv_iconst (v := (-1)) hx hb dX12_spread_16 (by decide) ?_
    exact W.iret hx hb hr (fun t ht hWm => ⟨⟨(-1), (Ty, G_4), rfl, ⟨rfl, ⟨fr_5, ⟨(by rw [u_6]; exact (rg_w hI.a102 (by decide) (by decide))), (by rw [u_7]; exact (rg_w hI.a104 (by decide) (by decide))), (by rw [u_8]; exact (rg_w hI.a113 (by decide) (by decide))), (by rw [u_9]; exact (rg_w hI.a122 (by decide) (by decide))), (by rw [u_10]; exact (rg_w hI.a133 (by decide) (by decide))), (by rw [u_11]; exact (rg_w hI.a137 (by decide) (by decide))), u_18, u_19, (by rw [w_13]; exact (hI.ti.hi (show Bd ≤ Bd + 1000 by omega))), (hI.un2 (show Bd ≤ Bd + 1000 by omega) w_14 u_9), (hI.ke2 (show Bd ≤ Bd + 1000 by omega) w_15 w_16)⟩⟩⟩, by show HT g Ty G_4 t.heap; rw [ht]; exact hH⟩, hS.F ht⟩) hS.2.2 dX12_spread_17
