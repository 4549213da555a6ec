set_option maxHeartbeats 4000000 in
set_option maxRecDepth 100000 in
theorem c_X12_readRule_z (l : Launch) (g : Gx) (Ty : TyM) (G : Gh) (sz : Nat) (h0 : Nat) (k_h0 : Ty h0 = some (22, 0)) (h102 : G.1 102 = 0) : Met l yX12_readRule (wsG yX12_readRule cX12_readRule 1 (some .boolean)) ({ frames := 338, cells := 0, slots := 0, locals := 7919 }) (PcT g Ty G sz [.ref h0]) (QwI g Ty sz (fun r u => (rgI (1) (1) r) ∧ u.1 = Ty ∧ FR [102, 107, 108, 109, 110, 114] [] [106] G u.2 ∧ u.2.1 102 = 0)) 0 0 (AF Ty sz) := by
  refine Met.ofW (cc := cX12_readRule) (maxL := 1) (ret := (some .boolean)) (by decide) rfl ?_
  intro p e s m args below meth c s₁ B hml hv
  obtain ⟨rfl, hsz, hK, hH⟩ := hv
  subst hsz
  have hx := B.exec
  have hb := B.bytes
  have hr := B.returns
  have hts := atoms_spec (ws := (wsG yX12_readRule cX12_readRule 1 (some .boolean))) B.pre
  have hG : ∀ w ∈ GW, w.before ([.ref h0] : List Value).toArray s = true := fun w h => hts w (List.mem_cons_of_mem _ h)
  have hown : s.vm.findClass RX12 = some m.cls := findClass_of_methodNamed B.named
  have hlocks := B.notSynchronized
  have hl := lv_entry [.ref h0] (n := 1) (Nat.le_of_ble_eq_true rfl)
  rw [lg_entry_eq]
  generalize (lg_sl [.ref h0] ++ List.replicate (1 - (lg_sl [.ref h0]).length) Slot.unset).toArray = ls at hl ⊢
  have hl : lv_has ls 1 [(0, .ref h0)] := hl
  have hmk : mdK g Ty := mdk_of hH k_h0
  have hS : va_S (AF Ty s.heap.size) s.heap s.heap [] := va_S.rf
  refine lv_aload_n hx hb dX12_readRule_0 rfl (lv_at hl 0 rfl) ?_
  refine lv_bipush (v := 40) hx hb dX12_readRule_1 (by decide) ?_
  obtain ⟨_, ⟨rfl, t_2, hk_3⟩, o_c_1⟩ := hH h0 _ k_h0
  refine va_callv (va_runV (As := [.int 40]) (rest := []) ⟨hx, hb, hml, hown, hts⟩ (c_X12_beginText l g Ty G s.heap.size h0 40 k_h0 (rg_w (rg_of0 h102) (by decide) (by decide))) (cwV 1 hts (gwV mw_1435 mw_1437 mw_32 mw_88 mw_1438) rfl rfl rfl hv_X12_beginText ⟨Nat.le_of_ble_eq_true rfl, Nat.le_of_ble_eq_true rfl⟩) ⟨PcT_blind, hg_recv hK o_c_1 rfl, PcT_pre hK hH⟩ rfl rfl hl.1 rfl (lv_room (Nat.le_of_ble_eq_true rfl)) dX12_readRule_3 ⟨Nat.zero_le _, Nat.zero_le _⟩) hS (fun q _ h => AF.mono hS.1 h) (fun q h => AF.mono hS.1 h) (fun ux_4 t H locs ht hvm hx_4 hB hz hk hS => ?_)
  obtain ⟨eTx_4, eGx_4⟩ := hx_4
  obtain ⟨G_5, eG_5⟩ : ∃ z, z = ux_4.2 := ⟨_, rfl⟩
  rw [← eG_5] at eGx_4
  obtain ⟨hfr_6, hex_7⟩ := eGx_4
  have fr_8 : FR [102, 107, 108, 109, 110, 114] [] [106] G G_5 := FR.tr FR.rf hfr_6 (by decide) (fun _ _ => trivial) (by decide)
  have u_9 : G_5.2.2 106 = some (g.2.2 101) := hex_7.1
  have u_10 : G_5.1 107 = (G.1 102) := hex_7.2.1
  have u_11 : G_5.1 108 = 40 := hex_7.2.2.1
  have u_12 : G_5.1 109 = 0 := hex_7.2.2.2.1
  have u_13 : G_5.1 110 = (-1) := hex_7.2.2.2.2.1
  have u_14 : G_5.1 102 = 0 := hex_7.2.2.2.2.2
  have hH : HT g Ty G_5 H := by rw [← ht, ← eTx_4, eG_5]; exact hB
  refine lv_aload_n hx hb dX12_readRule_6 rfl (lv_at hl 0 rfl) ?_
  refine lv_iconst (v := 0) hx hb dX12_readRule_7 (by decide) ?_
  obtain ⟨_, ⟨rfl, t_16, hk_17⟩, o_c_15⟩ := hH h0 _ k_h0
  refine hg_put (ty := .boolean) hx hb hG igX12 tyX12 tyX12_ok nmX12 hown hK hS o_c_15 (AF.of k_h0) rfl 14 (by decide) (hG _ mw_1298) rfl (by decide +kernel) (by rfl) (by rfl) (Nat.le_of_ble_eq_true rfl) dX12_readRule_8 (fun H locs o_c_15 hz oq hS => ?_)
  obtain ⟨G_18, eG_18⟩ : ∃ z : Gh, z = gset G_5 114 0 := ⟨_, rfl⟩
  have hH : HT g Ty G_18 H := by rw [eG_18]; exact HT.putN 114 0 hH k_h0 ⟨rfl, t_16, hk_17⟩ o_c_15 oq (Or.inr (Or.inr (Or.inr (Or.inr (Or.inr ⟨by decide, t_16⟩)))))
  have fr_19 : FR [102, 107, 108, 109, 110, 114] [] [106] G G_18 := FR.n fr_8 eG_18 (by decide)
  have u_20 : G_18.1 107 = (G.1 102) := by rw [eG_18]; exact (gs_ne (by decide)).trans u_10
  have u_21 : G_18.1 108 = 40 := by rw [eG_18]; exact (gs_ne (by decide)).trans u_11
  have u_22 : G_18.1 109 = 0 := by rw [eG_18]; exact (gs_ne (by decide)).trans u_12
  have u_23 : G_18.1 110 = (-1) := by rw [eG_18]; exact (gs_ne (by decide)).trans u_13
  have u_24 : G_18.1 102 = 0 := by rw [eG_18]; exact (gs_ne (by decide)).trans u_14
  have u_25 : G_18.1 114 = 0 := by rw [eG_18]; exact gs_eq
  have u_26 : G_18.2.2 106 = some (g.2.2 101) := by rw [eG_18]; exact u_9
  clear oq hz
  refine lv_aload_n hx hb dX12_readRule_11 rfl (lv_at hl 0 rfl) ?_
  obtain ⟨_, ⟨rfl, t_28, hk_29⟩, o_c_27⟩ := hH h0 _ k_h0
  refine hg_get hx hb hG igX12 hown hK o_c_27 rfl 7 (by decide) (hG _ mw_1291) rfl dX12_readRule_12 ?_
  rw [u_20]
  refine lv_if_le (tgt := 24) hx hb dX12_readRule_15 (by decide) (fun c_30 => ?_) (fun c_30 => ?_)
  · refine lv_aload_n hx hb dX12_readRule_24 rfl (lv_at hl 0 rfl) ?_
    have hPE_31 : PE g Ty G_18 (g.2.2 101) 80 (G_18.2.1 (g.2.2 101)) (G_18.2.1 (g.2.2 115)) (G.1 102) 40 0 40 0 (-1) := ⟨u_26, hmk.2.1, rfl, (fun _ _ => rfl), u_20, u_21, u_25, u_22, u_23, rg_w (rg_of0 h102) (by decide) (by decide), by decide, Or.inr (by decide), by decide, by decide, by decide, by decide⟩
    refine va_calli (va_runV (As := []) (rest := []) ⟨hx, hb, hml, hown, hts⟩ (c_X12_wasRight l g Ty G_18 H.size h0 k_h0 (g.2.2 101) 80 (G_18.2.1 (g.2.2 101)) (G_18.2.1 (g.2.2 115)) (G.1 102) 40 0 40 _ _ hPE_31) (cwV 0 hts (gwV mw_1490 mw_1492 mw_45 mw_88 mw_1493) rfl rfl rfl hv_X12_wasRight ⟨Nat.le_of_ble_eq_true rfl, Nat.le_of_ble_eq_true rfl⟩) ⟨PcT_blind, hg_recv hK o_c_27 rfl, PcT_pre hK hH⟩ rfl rfl hl.1 rfl (lv_room (Nat.le_of_ble_eq_true rfl)) dX12_readRule_25 ⟨Nat.zero_le _, Nat.zero_le _⟩) hS (fun q _ h => AF.mono hS.1 h) (fun q h => AF.mono hS.1 h) (fun x_32 ux_32 t H locs ht hvm hx_32 hB hz hk hS => ?_)
    obtain ⟨eTx_32, eGx_32⟩ := hx_32
    obtain ⟨G_33, eG_33⟩ : ∃ z, z = ux_32.2 := ⟨_, rfl⟩
    rw [← eG_33] at eGx_32
    obtain ⟨hr_34, hg_35, hm_36, hq_37⟩ := eGx_32
    have hfr_38 : FR [109, 110] [] [] G_18 G_33 := FR.ps FR.rf hg_35 (by decide) (by decide)
    have fr_39 : FR [102, 107, 108, 109, 110, 114] [] [106] G G_33 := FR.tr fr_19 hfr_38 (by decide) (fun _ _ => trivial) (by decide)
    have u_40 : G_33.1 107 = (G.1 102) := (hfr_38.1 107 (by decide)).trans u_20
    have u_41 : G_33.1 108 = 40 := (hfr_38.1 108 (by decide)).trans u_21
    have u_42 : G_33.1 102 = 0 := (hfr_38.1 102 (by decide)).trans u_24
    have u_43 : G_33.1 114 = 0 := (hfr_38.1 114 (by decide)).trans u_25
    have u_44 : G_33.2.2 106 = some (g.2.2 101) := (hfr_38.2.2 106 (by decide)).trans u_26
    have hPE_45 := PE.ps hPE_31 hg_35 hq_37
    have hH : HT g Ty G_33 H := by rw [← ht, ← eTx_32, eG_33]; exact hB
    have w01_46 : rgI 0 1 x_32 := wr_01 hr_34
    have zr_47 : rgI (1) (1) x_32 := wr_z hr_34 (rg_of0 h102) rl_0 rl_m1
    exact W.zret hx hb hr (nz01 (rg_w zr_47 (by decide) (by decide))) (fun t ht hWm => ⟨⟨x_32, (Ty, G_33), rfl, ⟨rg_w zr_47 (by decide) (by decide), ⟨rfl, ⟨fr_39, u_42⟩⟩⟩, by show HT g Ty G_33 t.heap; rw [ht]; exact hH⟩, hS.F ht⟩) hS.2.2 dX12_readRule_28
  · exact rg_no rl_0 (rg_of0 h102) (nle_lt c_30) (by decide)

set_option maxHeartbeats 4000000 in
set_option maxRecDepth 100000 in
theorem c_X12_rule_z (l : Launch) (g : Gx) (Ty : TyM) (G : Gh) (sz : Nat) (h0 : Nat) (k_h0 : Ty h0 = some (22, 0)) (Bd : Int) (hI : OI g Bd G) (hBd : Bd ≤ 1900000) (hLD : LD g) (h102 : G.1 102 = 0) : Met l yX12_rule (wsG yX12_rule cX12_rule 3 (some .int)) ({ frames := 339, cells := 0, slots := 0, locals := 7939 }) (PcT g Ty G sz [.ref h0]) (QwI g Ty sz (fun r u => (rgI (0) (0) r) ∧ u.1 = Ty ∧ FR [102, 107, 108, 109, 110, 114, 105, 113] [] [106] G u.2 ∧ OI g (Bd + 1000) u.2)) 0 0 (AF Ty sz) := by
  refine Met.ofW (cc := cX12_rule) (maxL := 3) (ret := (some .int)) (by decide) rfl ?_
  intro p e s m args below meth c s₁ B hml hv
  obtain ⟨rfl, hsz, hK, hH⟩ := hv
  subst hsz
  have hx := B.exec
  have hb := B.bytes
  have hr := B.returns
  have hts := atoms_spec (ws := (wsG yX12_rule cX12_rule 3 (some .int))) B.pre
  have hG : ∀ w ∈ GW, w.before ([.ref h0] : List Value).toArray s = true := fun w h => hts w (List.mem_cons_of_mem _ h)
  have hown : s.vm.findClass RX12 = some m.cls := findClass_of_methodNamed B.named
  have hlocks := B.notSynchronized
  have hl := lv_entry [.ref h0] (n := 3) (Nat.le_of_ble_eq_true rfl)
  rw [lg_entry_eq]
  generalize (lg_sl [.ref h0] ++ List.replicate (3 - (lg_sl [.ref h0]).length) Slot.unset).toArray = ls at hl ⊢
  have hl : lv_has ls 3 [(0, .ref h0)] := hl
  have hmk : mdK g Ty := mdk_of hH k_h0
  have hS : va_S (AF Ty s.heap.size) s.heap s.heap [] := va_S.rf
  obtain ⟨⟨σ0, hTS0⟩, h10, hBB0⟩ := id hI.ti
  obtain ⟨ρ, hT⟩ := hTS0.1
  refine lv_aload_n hx hb dX12_rule_0 rfl (lv_at hl 0 rfl) ?_
  refine lv_iconst (v := 0) hx hb dX12_rule_1 (by decide) ?_
  obtain ⟨_, ⟨rfl, t_2, hk_3⟩, o_c_1⟩ := hH h0 _ k_h0
  refine hg_put (ty := .int) hx hb hG igX12 tyX12 tyX12_ok nmX12 hown hK hS o_c_1 (AF.of k_h0) rfl 5 (by decide) (hG _ mw_1289) rfl (by decide +kernel) rfl rfl (Nat.le_of_ble_eq_true rfl) dX12_rule_2 (fun H locs o_c_1 hz oq hS => ?_)
  obtain ⟨G_4, eG_4⟩ : ∃ z : Gh, z = gset G 105 0 := ⟨_, rfl⟩
  have hH : HT g Ty G_4 H := by rw [eG_4]; exact HT.putN 105 0 hH k_h0 ⟨rfl, t_2, hk_3⟩ o_c_1 oq (Or.inr (Or.inr (Or.inr (Or.inr (Or.inr ⟨by decide, t_2⟩)))))
  have fr_5 : FR [102, 107, 108, 109, 110, 114, 105, 113] [] [106] G G_4 := FR.n FR.rf eG_4 (by decide)
  have u_6 : G_4.1 102 = 0 := by rw [eG_4]; exact (gs_ne (by decide)).trans h102
  have u_7 : G_4.1 104 = (G.1 104) := by rw [eG_4]; exact (gs_ne (by decide))
  have u_8 : G_4.1 113 = (G.1 113) := by rw [eG_4]; exact (gs_ne (by decide))
  have u_9 : G_4.1 122 = (G.1 122) := by rw [eG_4]; exact (gs_ne (by decide))
  have u_10 : G_4.1 133 = (G.1 133) := by rw [eG_4]; exact (gs_ne (by decide))
  have u_11 : G_4.1 137 = (G.1 137) := by rw [eG_4]; exact (gs_ne (by decide))
  have u_12 : G_4.1 105 = 0 := by rw [eG_4]; exact gs_eq
  have w_13 : G_4.2.1 (g.2.2 100) = (G.2.1 (g.2.2 100)) := by rw [eG_4]; exact rfl
  have w_14 : G_4.2.1 (g.2.2 121) = (G.2.1 (g.2.2 121)) := by rw [eG_4]; exact rfl
  have w_15 : G_4.2.1 (g.2.2 140) = (G.2.1 (g.2.2 140)) := by rw [eG_4]; exact rfl
  have w_16 : G_4.2.1 (g.2.2 141) = (G.2.1 (g.2.2 141)) := by rw [eG_4]; exact rfl
  have w_17 : G_4.2.1 (g.2.2 111) = (G.2.1 (g.2.2 111)) := by rw [eG_4]; exact rfl
  have u_18 : G_4.2.2 111 = some (g.2.2 111) := by rw [eG_4]; exact hI.r111
  have u_19 : G_4.2.2 112 = some (g.2.2 112) := by rw [eG_4]; exact hI.r112
  clear oq hz
  refine lv_aload_n hx hb dX12_rule_5 rfl (lv_at hl 0 rfl) ?_
  obtain ⟨_, ⟨rfl, t_21, hk_22⟩, o_c_20⟩ := hH h0 _ k_h0
  refine hg_get hx hb hG igX12 hown hK o_c_20 rfl 2 (by decide) (hG _ mw_1286) rfl dX12_rule_6 ?_
  rw [u_6]
  refine lv_istore_n (lv' := [(1, .int 0), (0, .ref h0)]) hx hb dX12_rule_9 rfl hl (by decide) rfl (fun ls hl => ?_)
  refine lv_aload_n hx hb dX12_rule_10 rfl (lv_at hl 1 rfl) ?_
  refine va_calli (va_runV (As := []) (rest := []) ⟨hx, hb, hml, hown, hts⟩ (c_X12_readRule_z l g Ty G_4 H.size h0 k_h0 u_6) (cwV 0 hts (gwV mw_1431 mw_1433 mw_31 mw_88 mw_1434) rfl rfl rfl hv_X12_readRule ⟨Nat.le_of_ble_eq_true rfl, Nat.le_of_ble_eq_true rfl⟩) ⟨PcT_blind, hg_recv hK o_c_20 rfl, PcT_pre hK hH⟩ rfl rfl hl.1 rfl (lv_room (Nat.le_of_ble_eq_true rfl)) dX12_rule_11 ⟨Nat.zero_le _, Nat.zero_le _⟩) hS (fun q _ h => AF.mono hS.1 h) (fun q h => AF.mono hS.1 h) (fun x_23 ux_23 t H locs ht hvm hx_23 hB hz hk hS => ?_)
  obtain ⟨hx_23, fx_23⟩ := hx_23
  obtain ⟨eTx_23, eGx_23⟩ := fx_23
  obtain ⟨G_24, eG_24⟩ : ∃ z, z = ux_23.2 := ⟨_, rfl⟩
  rw [← eG_24] at eGx_23
  obtain ⟨hfr_25, hex_26⟩ := eGx_23
  have fr_27 : FR [102, 107, 108, 109, 110, 114, 105, 113] [] [106] G G_24 := FR.tr fr_5 hfr_25 (by decide) (fun _ _ => trivial) (by decide)
  have u_28 : G_24.1 104 = (G.1 104) := (hfr_25.1 104 (by decide)).trans u_7
  have u_29 : G_24.1 113 = (G.1 113) := (hfr_25.1 113 (by decide)).trans u_8
  have u_30 : G_24.1 122 = (G.1 122) := (hfr_25.1 122 (by decide)).trans u_9
  have u_31 : G_24.1 133 = (G.1 133) := (hfr_25.1 133 (by decide)).trans u_10
  have u_32 : G_24.1 137 = (G.1 137) := (hfr_25.1 137 (by decide)).trans u_11
  have u_33 : G_24.1 105 = 0 := (hfr_25.1 105 (by decide)).trans u_12
  have w_34 : G_24.2.1 (g.2.2 100) = (G.2.1 (g.2.2 100)) := (hfr_25.2.1 (g.2.2 100) trivial).trans w_13
  have w_35 : G_24.2.1 (g.2.2 121) = (G.2.1 (g.2.2 121)) := (hfr_25.2.1 (g.2.2 121) trivial).trans w_14
  have w_36 : G_24.2.1 (g.2.2 140) = (G.2.1 (g.2.2 140)) := (hfr_25.2.1 (g.2.2 140) trivial).trans w_15
  have w_37 : G_24.2.1 (g.2.2 141) = (G.2.1 (g.2.2 141)) := (hfr_25.2.1 (g.2.2 141) trivial).trans w_16
  have w_38 : G_24.2.1 (g.2.2 111) = (G.2.1 (g.2.2 111)) := (hfr_25.2.1 (g.2.2 111) trivial).trans w_17
  have u_39 : G_24.2.2 111 = some (g.2.2 111) := (hfr_25.2.2 111 (by decide)).trans u_18
  have u_40 : G_24.2.2 112 = some (g.2.2 112) := (hfr_25.2.2 112 (by decide)).trans u_19
  have hH : HT g Ty G_24 H := by rw [← ht, ← eTx_23, eG_24]; exact hB
  have rx_23 : rgI (1) (1) x_23 := hx_23
  refine lv_if_ne (tgt := 24) hx hb dX12_rule_14 (by decide) (fun c_41 => ?_) (fun c_41 => ?_)
  · refine lv_iconst (v := 0) hx hb dX12_rule_24 (by decide) ?_
    refine lv_istore_n (lv' := [(2, .int 0), (1, .int 0), (0, .ref h0)]) hx hb dX12_rule_25 rfl hl (by decide) rfl (fun ls hl => ?_)
    refine lv_iload_n hx hb dX12_rule_26 rfl (lv_at hl 0 rfl) ?_
    refine lv_iload_n hx hb dX12_rule_27 rfl (lv_at hl 1 rfl) ?_
    refine lv_icmp_ge (tgt := 49) hx hb dX12_rule_28 (by decide) (fun c_42 => ?_) (fun c_42 => ?_)
    · refine lv_aload_n hx hb dX12_rule_49 rfl (lv_at hl 2 rfl) ?_
      refine lv_iload_n hx hb dX12_rule_50 rfl (lv_at hl 1 rfl) ?_
      obtain ⟨_, ⟨rfl, t_44, hk_45⟩, o_c_43⟩ := hH h0 _ k_h0
      refine hg_put (ty := .int) hx hb hG igX12 tyX12 tyX12_ok nmX12 hown hK hS o_c_43 (AF.of k_h0) rfl 13 (by decide) (hG _ mw_1297) rfl (by decide +kernel) rfl rfl (Nat.le_of_ble_eq_true rfl) dX12_rule_51 (fun H locs o_c_43 hz oq hS => ?_)
      obtain ⟨G_46, eG_46⟩ : ∃ z : Gh, z = gset G_24 113 0 := ⟨_, rfl⟩
      have hH : HT g Ty G_46 H := by rw [eG_46]; exact HT.putN 113 0 hH k_h0 ⟨rfl, t_44, hk_45⟩ o_c_43 oq (Or.inr (Or.inr (Or.inr (Or.inr (Or.inr ⟨by decide, t_44⟩)))))
      have fr_47 : FR [102, 107, 108, 109, 110, 114, 105, 113] [] [106] G G_46 := FR.n fr_27 eG_46 (by decide)
      have u_48 : G_46.1 104 = (G.1 104) := by rw [eG_46]; exact (gs_ne (by decide)).trans u_28
      have u_49 : G_46.1 122 = (G.1 122) := by rw [eG_46]; exact (gs_ne (by decide)).trans u_30
      have u_50 : G_46.1 133 = (G.1 133) := by rw [eG_46]; exact (gs_ne (by decide)).trans u_31
      have u_51 : G_46.1 137 = (G.1 137) := by rw [eG_46]; exact (gs_ne (by decide)).trans u_32
      have u_52 : G_46.1 105 = 0 := by rw [eG_46]; exact (gs_ne (by decide)).trans u_33
      have u_53 : G_46.1 102 = 0 := by rw [eG_46]; exact (gs_ne (by decide)).trans hex_26
      have u_54 : G_46.1 113 = 0 := by rw [eG_46]; exact gs_eq
      have w_55 : G_46.2.1 (g.2.2 100) = (G.2.1 (g.2.2 100)) := by rw [eG_46]; exact w_34
      have w_56 : G_46.2.1 (g.2.2 121) = (G.2.1 (g.2.2 121)) := by rw [eG_46]; exact w_35
      have w_57 : G_46.2.1 (g.2.2 140) = (G.2.1 (g.2.2 140)) := by rw [eG_46]; exact w_36
      have w_58 : G_46.2.1 (g.2.2 141) = (G.2.1 (g.2.2 141)) := by rw [eG_46]; exact w_37
      have w_59 : G_46.2.1 (g.2.2 111) = (G.2.1 (g.2.2 111)) := by rw [eG_46]; exact w_38
      have u_60 : G_46.2.2 111 = some (g.2.2 111) := by rw [eG_46]; exact u_39
      have u_61 : G_46.2.2 112 = some (g.2.2 112) := by rw [eG_46]; exact u_40
      clear oq hz
      refine lv_iconst (v := 0) hx hb dX12_rule_54 (by decide) ?_
      exact W.iret hx hb hr (fun t ht hWm => ⟨⟨0, (Ty, G_46), rfl, ⟨rg_w rl_0 (by decide) (by decide), ⟨rfl, ⟨fr_47, ⟨(by rw [u_53]; exact (rg_w rl_0 (by decide) (by decide))), (by rw [u_48]; exact (rg_w hI.a104 (by decide) (by decide))), (by rw [u_54]; exact (rg_w rl_0 (by decide) (by decide))), (by rw [u_49]; exact (rg_w hI.a122 (by decide) (by decide))), (by rw [u_50]; exact (rg_w hI.a133 (by decide) (by decide))), (by rw [u_51]; exact (rg_w hI.a137 (by decide) (by decide))), u_60, u_61, (by rw [w_55]; exact (hI.ti.hi (show Bd ≤ Bd + 1000 by omega))), (hI.un2 (show Bd ≤ Bd + 1000 by omega) w_56 u_49), (hI.ke2 (show Bd ≤ Bd + 1000 by omega) w_57 w_58)⟩⟩⟩⟩, by show HT g Ty G_46 t.heap; rw [ht]; exact hH⟩, hS.F ht⟩) hS.2.2 dX12_rule_55
    · exact rg_no rl_0 rl_0 (nle_lt c_42) (by decide)
  · exact rg_noE rx_23 rl_0 c_41 (by decide)

set_option maxHeartbeats 4000000 in
set_option maxRecDepth 100000 in
theorem c_X12_bringsOf_z (l : Launch) (g : Gx) (Ty : TyM) (G : Gh) (sz : Nat) (h0 : Nat) (a0 : Int32) (a1 : Int32) (k_h0 : Ty h0 = some (22, 0)) (pr0 : rgI (0) (0) a0) (pr1 : rgI (0) (3) a1) (ρ : Nat → Nat) (hT : P1 (G.2.1 (g.2.2 100)) ρ) (rl : Nat) (krl : Ty rl = some (31, 40)) (hr1 : G.2.2 111 = some rl) (hr3 : rgI 0 40 (G.1 113)) (hNW : (G.2.1 (g.2.2 100)) = nowF) (h113 : G.1 113 = 0) : Met l yX12_bringsOf (wsG yX12_bringsOf cX12_bringsOf 3 (some .int)) ({ frames := 341, cells := 0, slots := 0, locals := 7993 }) (PcT g Ty G sz [.ref h0, .int a0, .int a1]) (QwI g Ty sz (fun r u => (rgI (1) (1) r) ∧ u.1 = Ty ∧ FR [107, 108, 109, 110, 114] [(g.2.2 115)] [106] G u.2)) 0 0 (AF Ty sz) := by
  refine Met.ofW (cc := cX12_bringsOf) (maxL := 3) (ret := (some .int)) (by decide) rfl ?_
  intro p e s m args below meth c s₁ B hml hv
  obtain ⟨rfl, hsz, hK, hH⟩ := hv
  subst hsz
  have hx := B.exec
  have hb := B.bytes
  have hr := B.returns
  have hts := atoms_spec (ws := (wsG yX12_bringsOf cX12_bringsOf 3 (some .int))) B.pre
  have hG : ∀ w ∈ GW, w.before ([.ref h0, .int a0, .int a1] : List Value).toArray s = true := fun w h => hts w (List.mem_cons_of_mem _ h)
  have hown : s.vm.findClass RX12 = some m.cls := findClass_of_methodNamed B.named
  have hlocks := B.notSynchronized
  have hl := lv_entry [.ref h0, .int a0, .int a1] (n := 3) (Nat.le_of_ble_eq_true rfl)
  rw [lg_entry_eq]
  generalize (lg_sl [.ref h0, .int a0, .int a1] ++ List.replicate (3 - (lg_sl [.ref h0, .int a0, .int a1]).length) Slot.unset).toArray = ls at hl ⊢
  have hl : lv_has ls 3 [(0, .ref h0), (1, .int a0), (2, .int a1)] := hl
  have hmk : mdK g Ty := mdk_of hH k_h0
  have hS : va_S (AF Ty s.heap.size) s.heap s.heap [] := va_S.rf
  refine lv_aload_n hx hb dX12_bringsOf_0 rfl (lv_at hl 0 rfl) ?_
  refine lv_aload_n hx hb dX12_bringsOf_1 rfl (lv_at hl 0 rfl) ?_
  obtain ⟨_, ⟨rfl, t_2, hk_3⟩, o_c_1⟩ := hH h0 _ k_h0
  refine hg_get hx hb hG igX12 hown hK o_c_1 rfl 0 (by decide) (hG _ mw_1284) rfl dX12_bringsOf_2 ?_
  refine lv_iload_n hx hb dX12_bringsOf_5 rfl (lv_at hl 1 rfl) ?_
  refine lv_iload_n hx hb dX12_bringsOf_6 rfl (lv_at hl 2 rfl) ?_
  refine va_calli (va_runV (As := [.ref (g.2.2 100), .int a0, .int a1]) (rest := []) ⟨hx, hb, hml, hown, hts⟩ (c_X12_refusesComing_x l g Ty G s.heap.size h0 (g.2.2 100) a0 a1 k_h0 (hk_3.1) ρ hT rl krl hr1 (rg_w (rg_of0 h113) (by decide) (by decide))) (cwV 3 hts (gwV mw_1546 mw_1548 mw_50 mw_88 mw_1549) rfl rfl rfl hv_X12_refusesComing ⟨Nat.le_of_ble_eq_true rfl, Nat.le_of_ble_eq_true rfl⟩) ⟨PcT_blind, hg_recv hK o_c_1 rfl, PcT_pre hK hH⟩ rfl rfl hl.1 rfl (lv_room (Nat.le_of_ble_eq_true rfl)) dX12_bringsOf_7 ⟨Nat.zero_le _, Nat.zero_le _⟩) hS (fun q _ h => AF.mono hS.1 h) (fun q h => AF.mono hS.1 h) (fun x_4 ux_4 t H locs ht hvm hx_4 hB hz hk hS => ?_)
  obtain ⟨hx_4, fx_4⟩ := hx_4
  obtain ⟨eTx_4, eGx_4⟩ := fx_4
  obtain ⟨G_5, eG_5⟩ : ∃ z, z = ux_4.2 := ⟨_, rfl⟩
  rw [← eG_5] at eGx_4
  obtain ⟨hfr_6, hex_7⟩ := eGx_4
  have fr_8 : FR [107, 108, 109, 110, 114] [(g.2.2 115)] [106] G G_5 := FR.tr FR.rf hfr_6 (by decide) (fun b h => ⟨h.1, trivial⟩) (by decide)
  have u_9 : G_5.1 113 = (G.1 113) := (hfr_6.1 113 (by decide))
  have w_10 : G_5.2.1 (g.2.2 100) = (G.2.1 (g.2.2 100)) := (hfr_6.2.1 (g.2.2 100) ⟨(ne_kd hmk.1 hmk.2.2.2.1 (by decide)), trivial⟩)
  have w_11 : G_5.2.1 rl = (G.2.1 rl) := (hfr_6.2.1 rl ⟨(ne_kd krl hmk.2.2.2.1 (by decide)), trivial⟩)
  have u_12 : G_5.2.2 111 = some rl := (hfr_6.2.2 111 (by decide)).trans hr1
  have hq_13 : F_X12_refusesComing_x (G.2.1 (g.2.2 100)) (G.2.1 rl) (G.1 113) a0 a1 = x_4 := by have q := hex_7; exact q
  have hH : HT g Ty G_5 H := by rw [← ht, ← eTx_4, eG_5]; exact hB
  have rx_4 : rgI (-9) (0) x_4 := hx_4.1
  have zr_14 : rgI (0) (0) x_4 := fzr_com hq_13 hNW (rg_of0 h113) pr0 pr1
  refine lv_if_ge (tgt := 17) hx hb dX12_bringsOf_10 (by decide) (fun c_15 => ?_) (fun c_15 => ?_)
  · have c0_16 := hx_4.2 (rg_00 zr_14 c_15)
    refine lv_iconst (v := 1) hx hb dX12_bringsOf_17 (by decide) ?_
    refine lv_aload_n hx hb dX12_bringsOf_18 rfl (lv_at hl 0 rfl) ?_
    refine lv_aload_n hx hb dX12_bringsOf_19 rfl (lv_at hl 0 rfl) ?_
    obtain ⟨_, ⟨rfl, t_18, hk_19⟩, o_c_17⟩ := hH h0 _ k_h0
    refine hg_get hx hb hG igX12 hown hK o_c_17 rfl 0 (by decide) (hG _ mw_1284) rfl dX12_bringsOf_20 ?_
    refine lv_iload_n hx hb dX12_bringsOf_23 rfl (lv_at hl 1 rfl) ?_
    refine lv_iload_n hx hb dX12_bringsOf_24 rfl (lv_at hl 2 rfl) ?_
    refine va_calli (va_runV (As := [.ref (g.2.2 100), .int a0, .int a1]) (rest := [.int 1]) ⟨hx, hb, hml, hown, hts⟩ (c_X12_hitsOf_x l g Ty G_5 H.size h0 (g.2.2 100) a0 a1 k_h0 (hk_19.1) ρ (by rw [w_10]; exact hT) (by rw [w_10]; exact c0_16.1) rl krl u_12 (by rw [u_9]; exact (rg_w (rg_of0 h113) (by decide) (by decide)))) (cwV 3 hts (gwV mw_1554 mw_1556 mw_51 mw_88 mw_1557) rfl rfl rfl hv_X12_hitsOf ⟨Nat.le_of_ble_eq_true rfl, Nat.le_of_ble_eq_true rfl⟩) ⟨PcT_blind, hg_recv hK o_c_17 rfl, PcT_pre hK hH⟩ rfl rfl hl.1 rfl (lv_room (Nat.le_of_ble_eq_true rfl)) dX12_bringsOf_25 ⟨Nat.zero_le _, Nat.zero_le _⟩) hS (fun q _ h => AF.mono hS.1 h) (fun q h => AF.mono hS.1 h) (fun x_20 ux_20 t H locs ht hvm hx_20 hB hz hk hS => ?_)
    obtain ⟨hx_20, fx_20⟩ := hx_20
    obtain ⟨eTx_20, eGx_20⟩ := fx_20
    obtain ⟨G_21, eG_21⟩ : ∃ z, z = ux_20.2 := ⟨_, rfl⟩
    rw [← eG_21] at eGx_20
    obtain ⟨hfr_22, hex_23⟩ := eGx_20
    have fr_24 : FR [107, 108, 109, 110, 114] [(g.2.2 115)] [106] G G_21 := FR.tr fr_8 hfr_22 (by decide) (fun b h => ⟨h.1, trivial⟩) (by decide)
    have u_25 : G_21.1 113 = (G.1 113) := (hfr_22.1 113 (by decide)).trans u_9
    have w_26 : G_21.2.1 (g.2.2 100) = (G.2.1 (g.2.2 100)) := (hfr_22.2.1 (g.2.2 100) ⟨(ne_kd hmk.1 hmk.2.2.2.1 (by decide)), trivial⟩).trans w_10
    have w_27 : G_21.2.1 rl = (G.2.1 rl) := (hfr_22.2.1 rl ⟨(ne_kd krl hmk.2.2.2.1 (by decide)), trivial⟩).trans w_11
    have u_28 : G_21.2.2 111 = some rl := (hfr_22.2.2 111 (by decide)).trans u_12
    have hq_29 : F_X12_hitsOf_x (G.2.1 (g.2.2 100)) (G.2.1 rl) (G.1 113) a0 a1 = x_20 := by have q := hex_23; rw [w_10, w_11, u_9] at q; exact q
    have hH : HT g Ty G_21 H := by rw [← ht, ← eTx_20, eG_21]; exact hB
    have tx_30 := hx_20.1
    try rw [w_10] at tx_30
    try rw [w_11] at tx_30
    try rw [u_9] at tx_30
    have tx_31 := hx_20.2
    try rw [w_10] at tx_31
    try rw [w_11] at tx_31
    try rw [u_9] at tx_31
    have zr_32 : rgI (0) (0) x_20 := fzr_hits hq_29 hNW (rg_of0 h113) pr0 pr1
    refine vp_callSi (W.runS (As := [.int x_20]) (rest := [.int 1]) ⟨hx, hb, hml, hown, hts⟩ (c_J6_bitCount_x l g Ty G_21 x_20 ) (cwSx 1 hts hG (gwC mw_620) mw_99 mw_1553 mw_619 rfl rfl rfl hd_J6_bitCount_0f7a4 ⟨Nat.le_of_ble_eq_true rfl, Nat.le_of_ble_eq_true rfl⟩) ⟨PcH_blind, PcH_pre hK hH⟩ rfl rfl hl.1 rfl (lv_room (Nat.le_of_ble_eq_true rfl)) dX12_bringsOf_28 ⟨Nat.zero_le _, Nat.zero_le _⟩) (fun x_33 hx_33 => ?_)
    have rx_33 : rgI (0) (63) x_33 := hx_33.1
    try rw [← hx_33.2] at hv
    have fz_34 : rgI (0) (0) x_33 := by rw [hx_33.2]; exact (fz_bc0 zr_32)
    refine lv_iadd hx hb dX12_bringsOf_31 ?_
    refine lv_topi (fun x_35 ex_35 => ?_)
    have rx_35 : rgI (1) (1) x_35 := by rw [ex_35]; exact rg_w (rg_add rl_1 fz_34 (by decide) (by decide)) (by decide) (by decide)
    exact W.iret hx hb hr (fun t ht hWm => ⟨⟨x_35, (Ty, G_21), rfl, ⟨rg_w rx_35 (by decide) (by decide), ⟨rfl, fr_24⟩⟩, by show HT g Ty G_21 t.heap; rw [ht]; exact hH⟩, hS.F ht⟩) hS.2.2 dX12_bringsOf_32
  · exact rg_no zr_14 rl_0 (nle_lt c_15) (by decide)

def F_X12_law_z (r0 : Nat → Int32) (a0 : Int32) (a1 : Int32) : Int32 := (if (F_X12_isThere r0 a0) = (0 : Int32) then (-2 : Int32) else (if (F_X12_isDir a1) = (0 : Int32) then (-2 : Int32) else ((1 : Int32) - (1 : Int32))))
set_option maxHeartbeats 4000000 in
set_option maxRecDepth 100000 in
theorem c_X12_law_z (l : Launch) (g : Gx) (Ty : TyM) (G : Gh) (sz : Nat) (h0 : Nat) (a0 : Int32) (a1 : Int32) (k_h0 : Ty h0 = some (22, 0)) (Bd : Int) (hI : OI g Bd G) (hBd : Bd ≤ 1900000) (hLD : LD g) (h102 : G.1 102 = 0) (hNW : (G.2.1 (g.2.2 100)) = nowF) (h113 : G.1 113 = 0) : Met l yX12_law (wsG yX12_law cX12_law 8 (some .int)) ({ frames := 342, cells := 0, slots := 0, locals := 8015 }) (PcT g Ty G sz [.ref h0, .int a0, .int a1]) (QwI g Ty sz (fun r u => u.1 = Ty ∧ FR [102, 107, 108, 109, 110, 114, 104, 105, 113] [(g.2.2 115), (g.2.2 112)] [106, 111] G u.2 ∧ OI g (Bd + 1000) u.2 ∧ F_X12_law_z (G.2.1 (g.2.2 100)) a0 a1 = r)) 0 0 (AF Ty sz) := by
  refine Met.ofW (cc := cX12_law) (maxL := 8) (ret := (some .int)) (by decide) rfl ?_
  intro p e s m args below meth c s₁ B hml hv
  obtain ⟨rfl, hsz, hK, hH⟩ := hv
  subst hsz
  have hx := B.exec
  have hb := B.bytes
  have hr := B.returns
  have hts := atoms_spec (ws := (wsG yX12_law cX12_law 8 (some .int))) B.pre
  have hG : ∀ w ∈ GW, w.before ([.ref h0, .int a0, .int a1] : List Value).toArray s = true := fun w h => hts w (List.mem_cons_of_mem _ h)
  have hown : s.vm.findClass RX12 = some m.cls := findClass_of_methodNamed B.named
  have hlocks := B.notSynchronized
  have hl := lv_entry [.ref h0, .int a0, .int a1] (n := 8) (Nat.le_of_ble_eq_true rfl)
  rw [lg_entry_eq]
  generalize (lg_sl [.ref h0, .int a0, .int a1] ++ List.replicate (8 - (lg_sl [.ref h0, .int a0, .int a1]).length) Slot.unset).toArray = ls at hl ⊢
  have hl : lv_has ls 8 [(0, .ref h0), (1, .int a0), (2, .int a1)] := hl
  have hmk : mdK g Ty := mdk_of hH k_h0
  have hv : (if (F_X12_isThere (G.2.1 (g.2.2 100)) a0) = (0 : Int32) then (-2 : Int32) else (if (F_X12_isDir a1) = (0 : Int32) then (-2 : Int32) else ((1 : Int32) - (1 : Int32)))) = F_X12_law_z (G.2.1 (g.2.2 100)) a0 a1 := rfl
  have hS : va_S (AF Ty s.heap.size) s.heap s.heap [] := va_S.rf
  obtain ⟨⟨σ0, hTS0⟩, h10, hBB0⟩ := id hI.ti
  obtain ⟨ρ, hT⟩ := hTS0.1
  refine lv_aload_n hx hb dX12_law_0 rfl (lv_at hl 0 rfl) ?_
  refine lv_iconst (v := 0) hx hb dX12_law_1 (by decide) ?_
  obtain ⟨_, ⟨rfl, t_2, hk_3⟩, o_c_1⟩ := hH h0 _ k_h0
  refine hg_put (ty := .int) hx hb hG igX12 tyX12 tyX12_ok nmX12 hown hK hS o_c_1 (AF.of k_h0) rfl 5 (by decide) (hG _ mw_1289) rfl (by decide +kernel) rfl rfl (Nat.le_of_ble_eq_true rfl) dX12_law_2 (fun H locs o_c_1 hz oq hS => ?_)
  obtain ⟨G_4, eG_4⟩ : ∃ z : Gh, z = gset G 105 0 := ⟨_, rfl⟩
  have hH : HT g Ty G_4 H := by rw [eG_4]; exact HT.putN 105 0 hH k_h0 ⟨rfl, t_2, hk_3⟩ o_c_1 oq (Or.inr (Or.inr (Or.inr (Or.inr (Or.inr ⟨by decide, t_2⟩)))))
  have fr_5 : FR [102, 107, 108, 109, 110, 114, 104, 105, 113] [(g.2.2 115), (g.2.2 112)] [106, 111] G G_4 := FR.n FR.rf eG_4 (by decide)
  have u_6 : G_4.1 102 = 0 := by rw [eG_4]; exact (gs_ne (by decide)).trans h102
  have u_7 : G_4.1 104 = (G.1 104) := by rw [eG_4]; exact (gs_ne (by decide))
  have u_8 : G_4.1 113 = 0 := by rw [eG_4]; exact (gs_ne (by decide)).trans h113
  have u_9 : G_4.1 122 = (G.1 122) := by rw [eG_4]; exact (gs_ne (by decide))
  have u_10 : G_4.1 133 = (G.1 133) := by rw [eG_4]; exact (gs_ne (by decide))
  have u_11 : G_4.1 137 = (G.1 137) := by rw [eG_4]; exact (gs_ne (by decide))
  have u_12 : G_4.1 105 = 0 := by rw [eG_4]; exact gs_eq
  have w_13 : G_4.2.1 (g.2.2 100) = (G.2.1 (g.2.2 100)) := by rw [eG_4]; exact rfl
  have w_14 : G_4.2.1 (g.2.2 121) = (G.2.1 (g.2.2 121)) := by rw [eG_4]; exact rfl
  have w_15 : G_4.2.1 (g.2.2 140) = (G.2.1 (g.2.2 140)) := by rw [eG_4]; exact rfl
  have w_16 : G_4.2.1 (g.2.2 141) = (G.2.1 (g.2.2 141)) := by rw [eG_4]; exact rfl
  have w_17 : G_4.2.1 (g.2.2 111) = (G.2.1 (g.2.2 111)) := by rw [eG_4]; exact rfl
  have w_18 : G_4.2.1 (g.2.2 112) = (G.2.1 (g.2.2 112)) := by rw [eG_4]; exact rfl
  have u_19 : G_4.2.2 111 = some (g.2.2 111) := by rw [eG_4]; exact hI.r111
  have u_20 : G_4.2.2 112 = some (g.2.2 112) := by rw [eG_4]; exact hI.r112
  clear oq hz
  refine lv_aload_n hx hb dX12_law_5 rfl (lv_at hl 0 rfl) ?_
  obtain ⟨_, ⟨rfl, t_22, hk_23⟩, o_c_21⟩ := hH h0 _ k_h0
  refine hg_get hx hb hG igX12 hown hK o_c_21 rfl 2 (by decide) (hG _ mw_1286) rfl dX12_law_6 ?_
  rw [u_6]
  refine lv_istore_n (lv' := [(3, .int 0), (0, .ref h0), (1, .int a0), (2, .int a1)]) hx hb dX12_law_9 rfl hl (by decide) rfl (fun ls hl => ?_)
  refine lv_aload_n hx hb dX12_law_10 rfl (lv_at hl 1 rfl) ?_
  refine va_calli (va_runV (As := []) (rest := []) ⟨hx, hb, hml, hown, hts⟩ (c_X12_readRule_z l g Ty G_4 H.size h0 k_h0 u_6) (cwV 0 hts (gwV mw_1431 mw_1433 mw_31 mw_88 mw_1434) rfl rfl rfl hv_X12_readRule ⟨Nat.le_of_ble_eq_true rfl, Nat.le_of_ble_eq_true rfl⟩) ⟨PcT_blind, hg_recv hK o_c_21 rfl, PcT_pre hK hH⟩ rfl rfl hl.1 rfl (lv_room (Nat.le_of_ble_eq_true rfl)) dX12_law_11 ⟨Nat.zero_le _, Nat.zero_le _⟩) hS (fun q _ h => AF.mono hS.1 h) (fun q h => AF.mono hS.1 h) (fun x_24 ux_24 t H locs ht hvm hx_24 hB hz hk hS => ?_)
  obtain ⟨hx_24, fx_24⟩ := hx_24
  obtain ⟨eTx_24, eGx_24⟩ := fx_24
  obtain ⟨G_25, eG_25⟩ : ∃ z, z = ux_24.2 := ⟨_, rfl⟩
  rw [← eG_25] at eGx_24
  obtain ⟨hfr_26, hex_27⟩ := eGx_24
  have fr_28 : FR [102, 107, 108, 109, 110, 114, 104, 105, 113] [(g.2.2 115), (g.2.2 112)] [106, 111] G G_25 := FR.tr fr_5 hfr_26 (by decide) (fun _ _ => trivial) (by decide)
  have u_29 : G_25.1 104 = (G.1 104) := (hfr_26.1 104 (by decide)).trans u_7
  have u_30 : G_25.1 113 = 0 := (hfr_26.1 113 (by decide)).trans u_8
  have u_31 : G_25.1 122 = (G.1 122) := (hfr_26.1 122 (by decide)).trans u_9
  have u_32 : G_25.1 133 = (G.1 133) := (hfr_26.1 133 (by decide)).trans u_10
  have u_33 : G_25.1 137 = (G.1 137) := (hfr_26.1 137 (by decide)).trans u_11
  have u_34 : G_25.1 105 = 0 := (hfr_26.1 105 (by decide)).trans u_12
  have w_35 : G_25.2.1 (g.2.2 100) = (G.2.1 (g.2.2 100)) := (hfr_26.2.1 (g.2.2 100) trivial).trans w_13
  have w_36 : G_25.2.1 (g.2.2 121) = (G.2.1 (g.2.2 121)) := (hfr_26.2.1 (g.2.2 121) trivial).trans w_14
  have w_37 : G_25.2.1 (g.2.2 140) = (G.2.1 (g.2.2 140)) := (hfr_26.2.1 (g.2.2 140) trivial).trans w_15
  have w_38 : G_25.2.1 (g.2.2 141) = (G.2.1 (g.2.2 141)) := (hfr_26.2.1 (g.2.2 141) trivial).trans w_16
  have w_39 : G_25.2.1 (g.2.2 111) = (G.2.1 (g.2.2 111)) := (hfr_26.2.1 (g.2.2 111) trivial).trans w_17
  have w_40 : G_25.2.1 (g.2.2 112) = (G.2.1 (g.2.2 112)) := (hfr_26.2.1 (g.2.2 112) trivial).trans w_18
  have u_41 : G_25.2.2 111 = some (g.2.2 111) := (hfr_26.2.2 111 (by decide)).trans u_19
  have u_42 : G_25.2.2 112 = some (g.2.2 112) := (hfr_26.2.2 112 (by decide)).trans u_20
  have hH : HT g Ty G_25 H := by rw [← ht, ← eTx_24, eG_25]; exact hB
  have rx_24 : rgI (1) (1) x_24 := hx_24
  have ecx_24 : x_24 = (1 : Int32) := rg_is (n := 1) rx_24 rfl
  rw [ecx_24]
  refine lv_if_ne (tgt := 26) hx hb dX12_law_14 (by decide) (fun c_43 => ?_) (fun c_43 => ?_)
  · refine lv_aload_n hx hb dX12_law_26 rfl (lv_at hl 1 rfl) ?_
    obtain ⟨_, ⟨rfl, t_45, hk_46⟩, o_c_44⟩ := hH h0 _ k_h0
    refine hg_get hx hb hG igX12 hown hK o_c_44 rfl 0 (by decide) (hG _ mw_1284) rfl dX12_law_27 ?_
    refine lv_iload_n hx hb dX12_law_30 rfl (lv_at hl 2 rfl) ?_
    refine vp_callSi (W.runS (As := [.ref (g.2.2 100), .int a0]) (rest := []) ⟨hx, hb, hml, hown, hts⟩ (c_X12_isThere l g Ty G_25 (g.2.2 100) a0 (hk_46.1)) (cwSx 2 hts hG (gwC mw_1520) mw_88 mw_1518 mw_1519 rfl rfl rfl hd_X12_isThere ⟨Nat.le_of_ble_eq_true rfl, Nat.le_of_ble_eq_true rfl⟩) ⟨PcH_blind, PcH_pre hK hH⟩ rfl rfl hl.1 rfl (lv_room (Nat.le_of_ble_eq_true rfl)) dX12_law_31 ⟨Nat.zero_le _, Nat.zero_le _⟩) (fun x_47 hx_47 => ?_)
    have rx_47 : rgI (0) (1) x_47 := hx_47.1
    try rw [← hx_47.2.2] at hv
    have ex_48 : x_47 = F_X12_isThere (G.2.1 (g.2.2 100)) a0 := by rw [← w_35]; exact hx_47.2.2
    try rw [← ex_48] at hv
    refine lv_if_eq (tgt := 44) hx hb dX12_law_34 (by decide) (fun c_49 => ?_) (fun c_49 => ?_)
    · rw [if_pos c_49] at hv
      have r_50 : rgI (0) (0) x_47 := rg_w (rg_eq rl_0 c_49) (by decide) (by decide)
      refine lv_bipush (v := (-2)) hx hb dX12_law_44 (by decide) ?_
      exact W.iret hx hb hr (fun t ht hWm => ⟨⟨(-2), (Ty, G_25), rfl, ⟨rfl, ⟨fr_28, ⟨⟨(by rw [hex_27]; exact (rg_w rl_0 (by decide) (by decide))), (by rw [u_29]; exact (rg_w hI.a104 (by decide) (by decide))), (by rw [u_30]; exact (rg_w rl_0 (by decide) (by decide))), (by rw [u_31]; exact (rg_w hI.a122 (by decide) (by decide))), (by rw [u_32]; exact (rg_w hI.a133 (by decide) (by decide))), (by rw [u_33]; exact (rg_w hI.a137 (by decide) (by decide))), u_41, u_42, (by rw [w_35]; exact (hI.ti.hi (show Bd ≤ Bd + 1000 by omega))), (hI.un2 (show Bd ≤ Bd + 1000 by omega) w_36 u_31), (hI.ke2 (show Bd ≤ Bd + 1000 by omega) w_37 w_38)⟩, hv.symm⟩⟩⟩, by show HT g Ty G_25 t.heap; rw [ht]; exact hH⟩, hS.F ht⟩) hS.2.2 dX12_law_46
    · rw [if_neg c_49] at hv
      have th_51 : thr (G.2.1 (g.2.2 100)) a0 := F_isThere_thr (by rw [← ex_48]; exact c_49)
      have r_52 : rgI (1) (1) x_47 := rg_w (rg_neL rx_47 rl_0 c_49) (by decide) (by decide)
      have r_53 : rgI (0) (23) a0 := rg_w (hx_47.2.1.resolve_left c_49) (by decide) (by decide)
      refine lv_iload_n hx hb dX12_law_37 rfl (lv_at hl 3 rfl) ?_
      refine vp_callSi (W.runS (As := [.int a1]) (rest := []) ⟨hx, hb, hml, hown, hts⟩ (c_X12_isDir l g Ty G_25 a1 ) (cwSx 1 hts hG (gwC mw_1537) mw_88 mw_1535 mw_1536 rfl rfl rfl hd_X12_isDir ⟨Nat.le_of_ble_eq_true rfl, Nat.le_of_ble_eq_true rfl⟩) ⟨PcH_blind, PcH_pre hK hH⟩ rfl rfl hl.1 rfl (lv_room (Nat.le_of_ble_eq_true rfl)) dX12_law_38 ⟨Nat.zero_le _, Nat.zero_le _⟩) (fun x_54 hx_54 => ?_)
      have rx_54 : rgI (0) (1) x_54 := hx_54.1
      try rw [← hx_54.2] at hv
      try rw [← hx_54.2] at hv
      refine lv_if_ne (tgt := 47) hx hb dX12_law_41 (by decide) (fun c_55 => ?_) (fun c_55 => ?_)
      · rw [if_neg c_55] at hv
        have r_56 : rgI (1) (1) x_54 := rg_w (rg_neL rx_54 rl_0 c_55) (by decide) (by decide)
        have r_57 : rgI (0) (3) a1 := rg_w (F_isDir_rg (by rw [← hx_54.2]; exact c_55)) (by decide) (by decide)
        have r_58 : rgI (0) (0) a0 := rg_w ((thr_now th_51 hNW)) (by decide) (by decide)
        refine lv_aload_n hx hb dX12_law_47 rfl (lv_at hl 1 rfl) ?_
        refine lv_iload_n hx hb dX12_law_48 rfl (lv_at hl 2 rfl) ?_
        refine lv_iload_n hx hb dX12_law_49 rfl (lv_at hl 3 rfl) ?_
        refine va_calli (va_runV (As := [.int a0, .int a1]) (rest := []) ⟨hx, hb, hml, hown, hts⟩ (c_X12_bringsOf_z l g Ty G_25 H.size h0 a0 a1 k_h0 (rg_w r_58 (by decide) (by decide)) (rg_w r_57 (by decide) (by decide)) ρ (by rw [w_35]; exact hT) (g.2.2 111) hmk.2.2.2.2.2.2.2.2.2.2.2.2.2.2.2.2.2.2.2.2.1 u_41 (by rw [u_30]; exact (rg_w rl_0 (by decide) (by decide))) (by rw [w_35]; exact hNW) u_30) (cwV 2 hts (gwV mw_1853 mw_1855 mw_72 mw_88 mw_1856) rfl rfl rfl hv_X12_bringsOf ⟨Nat.le_of_ble_eq_true rfl, Nat.le_of_ble_eq_true rfl⟩) ⟨PcT_blind, hg_recv hK o_c_44 rfl, PcT_pre hK hH⟩ rfl rfl hl.1 rfl (lv_room (Nat.le_of_ble_eq_true rfl)) dX12_law_50 ⟨Nat.zero_le _, Nat.zero_le _⟩) hS (fun q _ h => AF.mono hS.1 h) (fun q h => AF.mono hS.1 h) (fun x_59 ux_59 t H locs ht hvm hx_59 hB hz hk hS => ?_)
        obtain ⟨hx_59, fx_59⟩ := hx_59
        obtain ⟨eTx_59, eGx_59⟩ := fx_59
        obtain ⟨G_60, eG_60⟩ : ∃ z, z = ux_59.2 := ⟨_, rfl⟩
        rw [← eG_60] at eGx_59
        have fr_61 : FR [102, 107, 108, 109, 110, 114, 104, 105, 113] [(g.2.2 115), (g.2.2 112)] [106, 111] G G_60 := FR.tr fr_28 eGx_59 (by decide) (fun b h => ⟨h.1, trivial⟩) (by decide)
        have u_62 : G_60.1 104 = (G.1 104) := (eGx_59.1 104 (by decide)).trans u_29
        have u_63 : G_60.1 113 = 0 := (eGx_59.1 113 (by decide)).trans u_30
        have u_64 : G_60.1 122 = (G.1 122) := (eGx_59.1 122 (by decide)).trans u_31
        have u_65 : G_60.1 133 = (G.1 133) := (eGx_59.1 133 (by decide)).trans u_32
        have u_66 : G_60.1 137 = (G.1 137) := (eGx_59.1 137 (by decide)).trans u_33
        have u_67 : G_60.1 105 = 0 := (eGx_59.1 105 (by decide)).trans u_34
        have u_68 : G_60.1 102 = 0 := (eGx_59.1 102 (by decide)).trans hex_27
        have w_69 : G_60.2.1 (g.2.2 100) = (G.2.1 (g.2.2 100)) := (eGx_59.2.1 (g.2.2 100) ⟨(ne_kd hmk.1 hmk.2.2.2.1 (by decide)), trivial⟩).trans w_35
        have w_70 : G_60.2.1 (g.2.2 121) = (G.2.1 (g.2.2 121)) := (eGx_59.2.1 (g.2.2 121) ⟨(ne_kd hmk.2.2.2.2.2.1 hmk.2.2.2.1 (by decide)), trivial⟩).trans w_36
        have w_71 : G_60.2.1 (g.2.2 140) = (G.2.1 (g.2.2 140)) := (eGx_59.2.1 (g.2.2 140) ⟨(ne_kd hmk.2.2.2.2.2.2.2.2.2.2.2.2.2.2.2.2.2.2.1 hmk.2.2.2.1 (by decide)), trivial⟩).trans w_37
        have w_72 : G_60.2.1 (g.2.2 141) = (G.2.1 (g.2.2 141)) := (eGx_59.2.1 (g.2.2 141) ⟨(ne_kd hmk.2.2.2.2.2.2.2.2.2.2.2.2.2.2.2.2.2.2.2.1 hmk.2.2.2.1 (by decide)), trivial⟩).trans w_38
        have w_73 : G_60.2.1 (g.2.2 111) = (G.2.1 (g.2.2 111)) := (eGx_59.2.1 (g.2.2 111) ⟨(ne_kd hmk.2.2.2.2.2.2.2.2.2.2.2.2.2.2.2.2.2.2.2.2.1 hmk.2.2.2.1 (by decide)), trivial⟩).trans w_39
        have w_74 : G_60.2.1 (g.2.2 112) = (G.2.1 (g.2.2 112)) := (eGx_59.2.1 (g.2.2 112) ⟨(ne_kd hmk.2.2.2.2.2.2.2.2.2.2.2.2.2.2.2.2.2.2.2.2.2 hmk.2.2.2.1 (by decide)), trivial⟩).trans w_40
        have u_75 : G_60.2.2 111 = some (g.2.2 111) := (eGx_59.2.2 111 (by decide)).trans u_41
        have u_76 : G_60.2.2 112 = some (g.2.2 112) := (eGx_59.2.2 112 (by decide)).trans u_42
        have hH : HT g Ty G_60 H := by rw [← ht, ← eTx_59, eG_60]; exact hB
        have rx_59 : rgI (1) (1) x_59 := hx_59
        have ecx_59 : x_59 = (1 : Int32) := rg_is (n := 1) rx_59 rfl
        rw [ecx_59]
        refine lv_istore (lv' := [(4, .int 1), (3, .int 0), (0, .ref h0), (1, .int a0), (2, .int a1)]) hx hb dX12_law_53 hl (by decide) rfl (fun ls hl => ?_)
        refine lv_aload_n hx hb dX12_law_55 rfl (lv_at hl 2 rfl) ?_
        obtain ⟨_, ⟨rfl, t_78, hk_79⟩, o_c_77⟩ := hH h0 _ k_h0
        refine hg_get hx hb hG igX12 hown hK o_c_77 rfl 11 (by decide) (hG _ mw_1295) rfl dX12_law_56 ?_
        rw [show va_rf (G_60.2.2 111) = Value.ref (g.2.2 111) by rw [u_75]; rfl]
        refine lv_astore (lv' := [(5, .ref (g.2.2 111)), (4, .int 1), (3, .int 0), (0, .ref h0), (1, .int a0), (2, .int a1)]) hx hb dX12_law_59 hl (by decide) rfl (fun ls hl => ?_)
        refine lv_aload_n hx hb dX12_law_61 rfl (lv_at hl 3 rfl) ?_
        refine hg_get hx hb hG igX12 hown hK o_c_77 rfl 13 (by decide) (hG _ mw_1297) rfl dX12_law_62 ?_
        rw [u_63]
        refine lv_istore (lv' := [(6, .int 0), (5, .ref (g.2.2 111)), (4, .int 1), (3, .int 0), (0, .ref h0), (1, .int a0), (2, .int a1)]) hx hb dX12_law_65 hl (by decide) rfl (fun ls hl => ?_)
        refine lv_aload_n hx hb dX12_law_67 rfl (lv_at hl 4 rfl) ?_
        refine lv_aload_n hx hb dX12_law_68 rfl (lv_at hl 4 rfl) ?_
        refine hg_get hx hb hG igX12 hown hK o_c_77 rfl 12 (by decide) (hG _ mw_1296) rfl dX12_law_69 ?_
        rw [show va_rf (G_60.2.2 112) = Value.ref (g.2.2 112) by rw [u_76]; rfl]
        refine hg_put (ty := (.array .byte)) hx hb hG igX12 tyX12 tyX12_ok nmX12 hown hK hS o_c_77 (AF.of k_h0) rfl 11 (by decide) (hG _ mw_1295) rfl (by decide +kernel) rfl rfl (Nat.le_of_ble_eq_true rfl) dX12_law_72 (fun H locs o_c_77 hz oq hS => ?_)
        obtain ⟨G_80, eG_80⟩ : ∃ z : Gh, z = rset G_60 111 (some (g.2.2 112)) := ⟨_, rfl⟩
        have hH : HT g Ty G_80 H := by rw [eG_80]; exact HT.putR 111 (some (g.2.2 112)) hH k_h0 ⟨rfl, t_78, hk_79⟩ o_c_77 oq t_78
        have fr_81 : FR [102, 107, 108, 109, 110, 114, 104, 105, 113] [(g.2.2 115), (g.2.2 112)] [106, 111] G G_80 := FR.r fr_61 eG_80 (by decide)
        have u_82 : G_80.1 104 = (G.1 104) := by rw [eG_80]; exact u_62
        have u_83 : G_80.1 113 = 0 := by rw [eG_80]; exact u_63
        have u_84 : G_80.1 122 = (G.1 122) := by rw [eG_80]; exact u_64
        have u_85 : G_80.1 133 = (G.1 133) := by rw [eG_80]; exact u_65
        have u_86 : G_80.1 137 = (G.1 137) := by rw [eG_80]; exact u_66
        have u_87 : G_80.1 105 = 0 := by rw [eG_80]; exact u_67
        have u_88 : G_80.1 102 = 0 := by rw [eG_80]; exact u_68
        have w_89 : G_80.2.1 (g.2.2 100) = (G.2.1 (g.2.2 100)) := by rw [eG_80]; exact w_69
        have w_90 : G_80.2.1 (g.2.2 121) = (G.2.1 (g.2.2 121)) := by rw [eG_80]; exact w_70
        have w_91 : G_80.2.1 (g.2.2 140) = (G.2.1 (g.2.2 140)) := by rw [eG_80]; exact w_71
        have w_92 : G_80.2.1 (g.2.2 141) = (G.2.1 (g.2.2 141)) := by rw [eG_80]; exact w_72
        have w_93 : G_80.2.1 (g.2.2 111) = (G.2.1 (g.2.2 111)) := by rw [eG_80]; exact w_73
        have w_94 : G_80.2.1 (g.2.2 112) = (G.2.1 (g.2.2 112)) := by rw [eG_80]; exact w_74
        have u_95 : G_80.2.2 112 = some (g.2.2 112) := by rw [eG_80]; exact (rset_ne (by decide)).trans u_76
        have u_96 : G_80.2.2 111 = some (g.2.2 112) := by rw [eG_80]; exact rset_eq
        clear oq hz
        refine lv_aload_n hx hb dX12_law_75 rfl (lv_at hl 4 rfl) ?_
        refine lv_iload_n hx hb dX12_law_76 rfl (lv_at hl 3 rfl) ?_
        obtain ⟨_, ⟨rfl, t_98, hk_99⟩, o_c_97⟩ := hH h0 _ k_h0
        refine hg_put (ty := .int) hx hb hG igX12 tyX12 tyX12_ok nmX12 hown hK hS o_c_97 (AF.of k_h0) rfl 13 (by decide) (hG _ mw_1297) rfl (by decide +kernel) rfl rfl (Nat.le_of_ble_eq_true rfl) dX12_law_77 (fun H locs o_c_97 hz oq hS => ?_)
        obtain ⟨G_100, eG_100⟩ : ∃ z : Gh, z = gset G_80 113 0 := ⟨_, rfl⟩
        have hH : HT g Ty G_100 H := by rw [eG_100]; exact HT.putN 113 0 hH k_h0 ⟨rfl, t_98, hk_99⟩ o_c_97 oq (Or.inr (Or.inr (Or.inr (Or.inr (Or.inr ⟨by decide, t_98⟩)))))
        have fr_101 : FR [102, 107, 108, 109, 110, 114, 104, 105, 113] [(g.2.2 115), (g.2.2 112)] [106, 111] G G_100 := FR.n fr_81 eG_100 (by decide)
        have u_102 : G_100.1 104 = (G.1 104) := by rw [eG_100]; exact (gs_ne (by decide)).trans u_82
        have u_103 : G_100.1 122 = (G.1 122) := by rw [eG_100]; exact (gs_ne (by decide)).trans u_84
        have u_104 : G_100.1 133 = (G.1 133) := by rw [eG_100]; exact (gs_ne (by decide)).trans u_85
        have u_105 : G_100.1 137 = (G.1 137) := by rw [eG_100]; exact (gs_ne (by decide)).trans u_86
        have u_106 : G_100.1 105 = 0 := by rw [eG_100]; exact (gs_ne (by decide)).trans u_87
        have u_107 : G_100.1 102 = 0 := by rw [eG_100]; exact (gs_ne (by decide)).trans u_88
        have u_108 : G_100.1 113 = 0 := by rw [eG_100]; exact gs_eq
        have w_109 : G_100.2.1 (g.2.2 100) = (G.2.1 (g.2.2 100)) := by rw [eG_100]; exact w_89
        have w_110 : G_100.2.1 (g.2.2 121) = (G.2.1 (g.2.2 121)) := by rw [eG_100]; exact w_90
        have w_111 : G_100.2.1 (g.2.2 140) = (G.2.1 (g.2.2 140)) := by rw [eG_100]; exact w_91
        have w_112 : G_100.2.1 (g.2.2 141) = (G.2.1 (g.2.2 141)) := by rw [eG_100]; exact w_92
        have w_113 : G_100.2.1 (g.2.2 111) = (G.2.1 (g.2.2 111)) := by rw [eG_100]; exact w_93
        have w_114 : G_100.2.1 (g.2.2 112) = (G.2.1 (g.2.2 112)) := by rw [eG_100]; exact w_94
        have u_115 : G_100.2.2 112 = some (g.2.2 112) := by rw [eG_100]; exact u_95
        have u_116 : G_100.2.2 111 = some (g.2.2 112) := by rw [eG_100]; exact u_96
        clear oq hz
        refine lv_iconst (v := 0) hx hb dX12_law_80 (by decide) ?_
        refine lv_istore (lv' := [(7, .int 0), (6, .int 0), (5, .ref (g.2.2 111)), (4, .int 1), (3, .int 0), (0, .ref h0), (1, .int a0), (2, .int a1)]) hx hb dX12_law_81 hl (by decide) rfl (fun ls hl => ?_)
        refine lv_iload hx hb dX12_law_83 (lv_at hl 0 rfl) ?_
        refine lv_iload_n hx hb dX12_law_85 rfl (lv_at hl 4 rfl) ?_
        refine lv_icmp_ge (tgt := 109) hx hb dX12_law_86 (by decide) (fun c_117 => ?_) (fun c_117 => ?_)
        · refine lv_aload_n hx hb dX12_law_109 rfl (lv_at hl 5 rfl) ?_
          refine lv_iload_n hx hb dX12_law_110 rfl (lv_at hl 6 rfl) ?_
          refine lv_iload_n hx hb dX12_law_111 rfl (lv_at hl 7 rfl) ?_
          obtain ⟨_, ⟨rfl, t_119, hk_120⟩, o_c_118⟩ := hH h0 _ k_h0
          refine va_calli (va_runV (As := [.int a0, .int a1]) (rest := []) ⟨hx, hb, hml, hown, hts⟩ (c_X12_bringsOf_z l g Ty G_100 H.size h0 a0 a1 k_h0 (rg_w r_58 (by decide) (by decide)) (rg_w r_57 (by decide) (by decide)) ρ (by rw [w_109]; exact hT) (g.2.2 112) hmk.2.2.2.2.2.2.2.2.2.2.2.2.2.2.2.2.2.2.2.2.2 u_116 (by rw [u_108]; exact (rg_w rl_0 (by decide) (by decide))) (by rw [w_109]; exact hNW) u_108) (cwV 2 hts (gwV mw_1853 mw_1855 mw_72 mw_88 mw_1856) rfl rfl rfl hv_X12_bringsOf ⟨Nat.le_of_ble_eq_true rfl, Nat.le_of_ble_eq_true rfl⟩) ⟨PcT_blind, hg_recv hK o_c_118 rfl, PcT_pre hK hH⟩ rfl rfl hl.1 rfl (lv_room (Nat.le_of_ble_eq_true rfl)) dX12_law_112 ⟨Nat.zero_le _, Nat.zero_le _⟩) hS (fun q _ h => AF.mono hS.1 h) (fun q h => AF.mono hS.1 h) (fun x_121 ux_121 t H locs ht hvm hx_121 hB hz hk hS => ?_)
          obtain ⟨hx_121, fx_121⟩ := hx_121
          obtain ⟨eTx_121, eGx_121⟩ := fx_121
          obtain ⟨G_122, eG_122⟩ : ∃ z, z = ux_121.2 := ⟨_, rfl⟩
          rw [← eG_122] at eGx_121
          have fr_123 : FR [102, 107, 108, 109, 110, 114, 104, 105, 113] [(g.2.2 115), (g.2.2 112)] [106, 111] G G_122 := FR.tr fr_101 eGx_121 (by decide) (fun b h => ⟨h.1, trivial⟩) (by decide)
          have u_124 : G_122.1 104 = (G.1 104) := (eGx_121.1 104 (by decide)).trans u_102
          have u_125 : G_122.1 122 = (G.1 122) := (eGx_121.1 122 (by decide)).trans u_103
          have u_126 : G_122.1 133 = (G.1 133) := (eGx_121.1 133 (by decide)).trans u_104
          have u_127 : G_122.1 137 = (G.1 137) := (eGx_121.1 137 (by decide)).trans u_105
          have u_128 : G_122.1 105 = 0 := (eGx_121.1 105 (by decide)).trans u_106
          have u_129 : G_122.1 102 = 0 := (eGx_121.1 102 (by decide)).trans u_107
          have u_130 : G_122.1 113 = 0 := (eGx_121.1 113 (by decide)).trans u_108
          have w_131 : G_122.2.1 (g.2.2 100) = (G.2.1 (g.2.2 100)) := (eGx_121.2.1 (g.2.2 100) ⟨(ne_kd hmk.1 hmk.2.2.2.1 (by decide)), trivial⟩).trans w_109
          have w_132 : G_122.2.1 (g.2.2 121) = (G.2.1 (g.2.2 121)) := (eGx_121.2.1 (g.2.2 121) ⟨(ne_kd hmk.2.2.2.2.2.1 hmk.2.2.2.1 (by decide)), trivial⟩).trans w_110
          have w_133 : G_122.2.1 (g.2.2 140) = (G.2.1 (g.2.2 140)) := (eGx_121.2.1 (g.2.2 140) ⟨(ne_kd hmk.2.2.2.2.2.2.2.2.2.2.2.2.2.2.2.2.2.2.1 hmk.2.2.2.1 (by decide)), trivial⟩).trans w_111
          have w_134 : G_122.2.1 (g.2.2 141) = (G.2.1 (g.2.2 141)) := (eGx_121.2.1 (g.2.2 141) ⟨(ne_kd hmk.2.2.2.2.2.2.2.2.2.2.2.2.2.2.2.2.2.2.2.1 hmk.2.2.2.1 (by decide)), trivial⟩).trans w_112
          have w_135 : G_122.2.1 (g.2.2 111) = (G.2.1 (g.2.2 111)) := (eGx_121.2.1 (g.2.2 111) ⟨(ne_kd hmk.2.2.2.2.2.2.2.2.2.2.2.2.2.2.2.2.2.2.2.2.1 hmk.2.2.2.1 (by decide)), trivial⟩).trans w_113
          have w_136 : G_122.2.1 (g.2.2 112) = (G.2.1 (g.2.2 112)) := (eGx_121.2.1 (g.2.2 112) ⟨(ne_kd hmk.2.2.2.2.2.2.2.2.2.2.2.2.2.2.2.2.2.2.2.2.2 hmk.2.2.2.1 (by decide)), trivial⟩).trans w_114
          have u_137 : G_122.2.2 112 = some (g.2.2 112) := (eGx_121.2.2 112 (by decide)).trans u_115
          have u_138 : G_122.2.2 111 = some (g.2.2 112) := (eGx_121.2.2 111 (by decide)).trans u_116
          have hH : HT g Ty G_122 H := by rw [← ht, ← eTx_121, eG_122]; exact hB
          have rx_121 : rgI (1) (1) x_121 := hx_121
          have ecx_121 : x_121 = (1 : Int32) := rg_is (n := 1) rx_121 rfl
          rw [ecx_121]
          refine lv_istore (lv' := [(7, .int 1), (6, .int 0), (5, .ref (g.2.2 111)), (4, .int 1), (3, .int 0), (0, .ref h0), (1, .int a0), (2, .int a1)]) hx hb dX12_law_115 hl (by decide) rfl (fun ls hl => ?_)
          refine lv_aload_n hx hb dX12_law_117 rfl (lv_at hl 5 rfl) ?_
          refine lv_aload hx hb dX12_law_118 (lv_at hl 2 rfl) ?_
          obtain ⟨_, ⟨rfl, t_140, hk_141⟩, o_c_139⟩ := hH h0 _ k_h0
          refine hg_put (ty := (.array .byte)) hx hb hG igX12 tyX12 tyX12_ok nmX12 hown hK hS o_c_139 (AF.of k_h0) rfl 11 (by decide) (hG _ mw_1295) rfl (by decide +kernel) rfl rfl (Nat.le_of_ble_eq_true rfl) dX12_law_120 (fun H locs o_c_139 hz oq hS => ?_)
          obtain ⟨G_142, eG_142⟩ : ∃ z : Gh, z = rset G_122 111 (some (g.2.2 111)) := ⟨_, rfl⟩
          have hH : HT g Ty G_142 H := by rw [eG_142]; exact HT.putR 111 (some (g.2.2 111)) hH k_h0 ⟨rfl, t_140, hk_141⟩ o_c_139 oq t_140
          have fr_143 : FR [102, 107, 108, 109, 110, 114, 104, 105, 113] [(g.2.2 115), (g.2.2 112)] [106, 111] G G_142 := FR.r fr_123 eG_142 (by decide)
          have u_144 : G_142.1 104 = (G.1 104) := by rw [eG_142]; exact u_124
          have u_145 : G_142.1 122 = (G.1 122) := by rw [eG_142]; exact u_125
          have u_146 : G_142.1 133 = (G.1 133) := by rw [eG_142]; exact u_126
          have u_147 : G_142.1 137 = (G.1 137) := by rw [eG_142]; exact u_127
          have u_148 : G_142.1 105 = 0 := by rw [eG_142]; exact u_128
          have u_149 : G_142.1 102 = 0 := by rw [eG_142]; exact u_129
          have u_150 : G_142.1 113 = 0 := by rw [eG_142]; exact u_130
          have w_151 : G_142.2.1 (g.2.2 100) = (G.2.1 (g.2.2 100)) := by rw [eG_142]; exact w_131
          have w_152 : G_142.2.1 (g.2.2 121) = (G.2.1 (g.2.2 121)) := by rw [eG_142]; exact w_132
          have w_153 : G_142.2.1 (g.2.2 140) = (G.2.1 (g.2.2 140)) := by rw [eG_142]; exact w_133
          have w_154 : G_142.2.1 (g.2.2 141) = (G.2.1 (g.2.2 141)) := by rw [eG_142]; exact w_134
          have w_155 : G_142.2.1 (g.2.2 111) = (G.2.1 (g.2.2 111)) := by rw [eG_142]; exact w_135
          have w_156 : G_142.2.1 (g.2.2 112) = (G.2.1 (g.2.2 112)) := by rw [eG_142]; exact w_136
          have u_157 : G_142.2.2 112 = some (g.2.2 112) := by rw [eG_142]; exact (rset_ne (by decide)).trans u_137
          have u_158 : G_142.2.2 111 = some (g.2.2 111) := by rw [eG_142]; exact rset_eq
          clear oq hz
          refine lv_aload_n hx hb dX12_law_123 rfl (lv_at hl 5 rfl) ?_
          refine lv_iload hx hb dX12_law_124 (lv_at hl 1 rfl) ?_
          obtain ⟨_, ⟨rfl, t_160, hk_161⟩, o_c_159⟩ := hH h0 _ k_h0
          refine hg_put (ty := .int) hx hb hG igX12 tyX12 tyX12_ok nmX12 hown hK hS o_c_159 (AF.of k_h0) rfl 13 (by decide) (hG _ mw_1297) rfl (by decide +kernel) rfl rfl (Nat.le_of_ble_eq_true rfl) dX12_law_126 (fun H locs o_c_159 hz oq hS => ?_)
          obtain ⟨G_162, eG_162⟩ : ∃ z : Gh, z = gset G_142 113 0 := ⟨_, rfl⟩
          have hH : HT g Ty G_162 H := by rw [eG_162]; exact HT.putN 113 0 hH k_h0 ⟨rfl, t_160, hk_161⟩ o_c_159 oq (Or.inr (Or.inr (Or.inr (Or.inr (Or.inr ⟨by decide, t_160⟩)))))
          have fr_163 : FR [102, 107, 108, 109, 110, 114, 104, 105, 113] [(g.2.2 115), (g.2.2 112)] [106, 111] G G_162 := FR.n fr_143 eG_162 (by decide)
          have u_164 : G_162.1 104 = (G.1 104) := by rw [eG_162]; exact (gs_ne (by decide)).trans u_144
          have u_165 : G_162.1 122 = (G.1 122) := by rw [eG_162]; exact (gs_ne (by decide)).trans u_145
          have u_166 : G_162.1 133 = (G.1 133) := by rw [eG_162]; exact (gs_ne (by decide)).trans u_146
          have u_167 : G_162.1 137 = (G.1 137) := by rw [eG_162]; exact (gs_ne (by decide)).trans u_147
          have u_168 : G_162.1 105 = 0 := by rw [eG_162]; exact (gs_ne (by decide)).trans u_148
          have u_169 : G_162.1 102 = 0 := by rw [eG_162]; exact (gs_ne (by decide)).trans u_149
          have u_170 : G_162.1 113 = 0 := by rw [eG_162]; exact gs_eq
          have w_171 : G_162.2.1 (g.2.2 100) = (G.2.1 (g.2.2 100)) := by rw [eG_162]; exact w_151
          have w_172 : G_162.2.1 (g.2.2 121) = (G.2.1 (g.2.2 121)) := by rw [eG_162]; exact w_152
          have w_173 : G_162.2.1 (g.2.2 140) = (G.2.1 (g.2.2 140)) := by rw [eG_162]; exact w_153
          have w_174 : G_162.2.1 (g.2.2 141) = (G.2.1 (g.2.2 141)) := by rw [eG_162]; exact w_154
          have w_175 : G_162.2.1 (g.2.2 111) = (G.2.1 (g.2.2 111)) := by rw [eG_162]; exact w_155
          have w_176 : G_162.2.1 (g.2.2 112) = (G.2.1 (g.2.2 112)) := by rw [eG_162]; exact w_156
          have u_177 : G_162.2.2 112 = some (g.2.2 112) := by rw [eG_162]; exact u_157
          have u_178 : G_162.2.2 111 = some (g.2.2 111) := by rw [eG_162]; exact u_158
          clear oq hz
          refine lv_aload_n hx hb dX12_law_129 rfl (lv_at hl 5 rfl) ?_
          refine lv_iconst (v := 0) hx hb dX12_law_130 (by decide) ?_
          obtain ⟨_, ⟨rfl, t_180, hk_181⟩, o_c_179⟩ := hH h0 _ k_h0
          refine hg_put (ty := .int) hx hb hG igX12 tyX12 tyX12_ok nmX12 hown hK hS o_c_179 (AF.of k_h0) rfl 4 (by decide) (hG _ mw_1288) rfl (by decide +kernel) rfl rfl (Nat.le_of_ble_eq_true rfl) dX12_law_131 (fun H locs o_c_179 hz oq hS => ?_)
          obtain ⟨G_182, eG_182⟩ : ∃ z : Gh, z = gset G_162 104 0 := ⟨_, rfl⟩
          have hH : HT g Ty G_182 H := by rw [eG_182]; exact HT.putN 104 0 hH k_h0 ⟨rfl, t_180, hk_181⟩ o_c_179 oq (Or.inr (Or.inr (Or.inr (Or.inr (Or.inr ⟨by decide, t_180⟩)))))
          have fr_183 : FR [102, 107, 108, 109, 110, 114, 104, 105, 113] [(g.2.2 115), (g.2.2 112)] [106, 111] G G_182 := FR.n fr_163 eG_182 (by decide)
          have u_184 : G_182.1 122 = (G.1 122) := by rw [eG_182]; exact (gs_ne (by decide)).trans u_165
          have u_185 : G_182.1 133 = (G.1 133) := by rw [eG_182]; exact (gs_ne (by decide)).trans u_166
          have u_186 : G_182.1 137 = (G.1 137) := by rw [eG_182]; exact (gs_ne (by decide)).trans u_167
          have u_187 : G_182.1 105 = 0 := by rw [eG_182]; exact (gs_ne (by decide)).trans u_168
          have u_188 : G_182.1 102 = 0 := by rw [eG_182]; exact (gs_ne (by decide)).trans u_169
          have u_189 : G_182.1 113 = 0 := by rw [eG_182]; exact (gs_ne (by decide)).trans u_170
          have u_190 : G_182.1 104 = 0 := by rw [eG_182]; exact gs_eq
          have w_191 : G_182.2.1 (g.2.2 100) = (G.2.1 (g.2.2 100)) := by rw [eG_182]; exact w_171
          have w_192 : G_182.2.1 (g.2.2 121) = (G.2.1 (g.2.2 121)) := by rw [eG_182]; exact w_172
          have w_193 : G_182.2.1 (g.2.2 140) = (G.2.1 (g.2.2 140)) := by rw [eG_182]; exact w_173
          have w_194 : G_182.2.1 (g.2.2 141) = (G.2.1 (g.2.2 141)) := by rw [eG_182]; exact w_174
          have w_195 : G_182.2.1 (g.2.2 111) = (G.2.1 (g.2.2 111)) := by rw [eG_182]; exact w_175
          have w_196 : G_182.2.1 (g.2.2 112) = (G.2.1 (g.2.2 112)) := by rw [eG_182]; exact w_176
          have u_197 : G_182.2.2 112 = some (g.2.2 112) := by rw [eG_182]; exact u_177
          have u_198 : G_182.2.2 111 = some (g.2.2 111) := by rw [eG_182]; exact u_178
          clear oq hz
          refine lv_aload_n hx hb dX12_law_134 rfl (lv_at hl 5 rfl) ?_
          refine lv_iload hx hb dX12_law_135 (lv_at hl 0 rfl) ?_
          refine lv_i2l hx hb dX12_law_137 rfl ?_
          refine lv_topl (fun u_199 eu_199 => ?_)
          obtain ⟨_, ⟨rfl, t_201, hk_202⟩, o_c_200⟩ := hH h0 _ k_h0
          refine va_callv (va_runV (As := [.long u_199]) (rest := []) ⟨hx, hb, hml, hown, hts⟩ (c_X12_tell l g Ty G_182 H.size h0 u_199 k_h0 (by rw [u_190]; exact rg_w rl_0 (by decide) (by decide))) (cwV 1 hts (gwV mw_1510 mw_1512 mw_48 mw_88 mw_1513) rfl rfl rfl hv_X12_tell ⟨Nat.le_of_ble_eq_true rfl, Nat.le_of_ble_eq_true rfl⟩) ⟨PcT_blind, hg_recv hK o_c_200 rfl, PcT_pre hK hH⟩ rfl rfl hl.1 rfl (lv_room (Nat.le_of_ble_eq_true rfl)) dX12_law_138 ⟨Nat.zero_le _, Nat.zero_le _⟩) hS (fun q _ h => AF.mono hS.1 h) (fun q h => AF.mono hS.1 h) (fun ux_203 t H locs ht hvm hx_203 hB hz hk hS => ?_)
          obtain ⟨eTx_203, eGx_203⟩ := hx_203
          obtain ⟨G_204, eG_204⟩ : ∃ z, z = ux_203.2 := ⟨_, rfl⟩
          rw [← eG_204] at eGx_203
          obtain ⟨x_205, ex_205⟩ : ∃ z : Int32, z = 0 + 1 := ⟨_, rfl⟩
          have e_206 : G_204 = gset G_182 104 x_205 := by rw [ex_205, ← u_190]; exact eGx_203
          have rx_205 : rgI (1) (1) x_205 := by rw [ex_205]; exact rg_w (rg_add rl_0 rl_1 (by decide) (by decide)) (by decide) (by decide)
          have fr_207 : FR [102, 107, 108, 109, 110, 114, 104, 105, 113] [(g.2.2 115), (g.2.2 112)] [106, 111] G G_204 := FR.n fr_183 e_206 (by decide)
          have u_208 : G_204.1 122 = (G.1 122) := by rw [e_206]; exact (gs_ne (by decide)).trans u_184
          have u_209 : G_204.1 133 = (G.1 133) := by rw [e_206]; exact (gs_ne (by decide)).trans u_185
          have u_210 : G_204.1 137 = (G.1 137) := by rw [e_206]; exact (gs_ne (by decide)).trans u_186
          have u_211 : G_204.1 105 = 0 := by rw [e_206]; exact (gs_ne (by decide)).trans u_187
          have u_212 : G_204.1 102 = 0 := by rw [e_206]; exact (gs_ne (by decide)).trans u_188
          have u_213 : G_204.1 113 = 0 := by rw [e_206]; exact (gs_ne (by decide)).trans u_189
          have u_214 : G_204.1 104 = x_205 := by rw [e_206]; exact gs_eq
          have w_215 : G_204.2.1 (g.2.2 100) = (G.2.1 (g.2.2 100)) := by rw [e_206]; exact w_191
          have w_216 : G_204.2.1 (g.2.2 121) = (G.2.1 (g.2.2 121)) := by rw [e_206]; exact w_192
          have w_217 : G_204.2.1 (g.2.2 140) = (G.2.1 (g.2.2 140)) := by rw [e_206]; exact w_193
          have w_218 : G_204.2.1 (g.2.2 141) = (G.2.1 (g.2.2 141)) := by rw [e_206]; exact w_194
          have w_219 : G_204.2.1 (g.2.2 111) = (G.2.1 (g.2.2 111)) := by rw [e_206]; exact w_195
          have w_220 : G_204.2.1 (g.2.2 112) = (G.2.1 (g.2.2 112)) := by rw [e_206]; exact w_196
          have u_221 : G_204.2.2 112 = some (g.2.2 112) := by rw [e_206]; exact u_197
          have u_222 : G_204.2.2 111 = some (g.2.2 111) := by rw [e_206]; exact u_198
          have hH : HT g Ty G_204 H := by rw [← ht, ← eTx_203, eG_204]; exact hB
          refine lv_aload_n hx hb dX12_law_141 rfl (lv_at hl 5 rfl) ?_
          refine lv_iload hx hb dX12_law_142 (lv_at hl 3 rfl) ?_
          refine lv_i2l hx hb dX12_law_144 rfl ?_
          refine lv_topl (fun u_223 eu_223 => ?_)
          obtain ⟨_, ⟨rfl, t_225, hk_226⟩, o_c_224⟩ := hH h0 _ k_h0
          refine va_callv (va_runV (As := [.long u_223]) (rest := []) ⟨hx, hb, hml, hown, hts⟩ (c_X12_tell l g Ty G_204 H.size h0 u_223 k_h0 (by rw [u_214]; exact rg_w rx_205 (by decide) (by decide))) (cwV 1 hts (gwV mw_1510 mw_1512 mw_48 mw_88 mw_1513) rfl rfl rfl hv_X12_tell ⟨Nat.le_of_ble_eq_true rfl, Nat.le_of_ble_eq_true rfl⟩) ⟨PcT_blind, hg_recv hK o_c_224 rfl, PcT_pre hK hH⟩ rfl rfl hl.1 rfl (lv_room (Nat.le_of_ble_eq_true rfl)) dX12_law_145 ⟨Nat.zero_le _, Nat.zero_le _⟩) hS (fun q _ h => AF.mono hS.1 h) (fun q h => AF.mono hS.1 h) (fun ux_227 t H locs ht hvm hx_227 hB hz hk hS => ?_)
          obtain ⟨eTx_227, eGx_227⟩ := hx_227
          obtain ⟨G_228, eG_228⟩ : ∃ z, z = ux_227.2 := ⟨_, rfl⟩
          rw [← eG_228] at eGx_227
          obtain ⟨x_229, ex_229⟩ : ∃ z : Int32, z = x_205 + 1 := ⟨_, rfl⟩
          have e_230 : G_228 = gset G_204 104 x_229 := by rw [ex_229, ← u_214]; exact eGx_227
          have rx_229 : rgI (2) (2) x_229 := by rw [ex_229]; exact rg_w (rg_add rx_205 rl_1 (by decide) (by decide)) (by decide) (by decide)
          have fr_231 : FR [102, 107, 108, 109, 110, 114, 104, 105, 113] [(g.2.2 115), (g.2.2 112)] [106, 111] G G_228 := FR.n fr_207 e_230 (by decide)
          have u_232 : G_228.1 122 = (G.1 122) := by rw [e_230]; exact (gs_ne (by decide)).trans u_208
          have u_233 : G_228.1 133 = (G.1 133) := by rw [e_230]; exact (gs_ne (by decide)).trans u_209
          have u_234 : G_228.1 137 = (G.1 137) := by rw [e_230]; exact (gs_ne (by decide)).trans u_210
          have u_235 : G_228.1 105 = 0 := by rw [e_230]; exact (gs_ne (by decide)).trans u_211
          have u_236 : G_228.1 102 = 0 := by rw [e_230]; exact (gs_ne (by decide)).trans u_212
          have u_237 : G_228.1 113 = 0 := by rw [e_230]; exact (gs_ne (by decide)).trans u_213
          have u_238 : G_228.1 104 = x_229 := by rw [e_230]; exact gs_eq
          have w_239 : G_228.2.1 (g.2.2 100) = (G.2.1 (g.2.2 100)) := by rw [e_230]; exact w_215
          have w_240 : G_228.2.1 (g.2.2 121) = (G.2.1 (g.2.2 121)) := by rw [e_230]; exact w_216
          have w_241 : G_228.2.1 (g.2.2 140) = (G.2.1 (g.2.2 140)) := by rw [e_230]; exact w_217
          have w_242 : G_228.2.1 (g.2.2 141) = (G.2.1 (g.2.2 141)) := by rw [e_230]; exact w_218
          have w_243 : G_228.2.1 (g.2.2 111) = (G.2.1 (g.2.2 111)) := by rw [e_230]; exact w_219
          have w_244 : G_228.2.1 (g.2.2 112) = (G.2.1 (g.2.2 112)) := by rw [e_230]; exact w_220
          have u_245 : G_228.2.2 112 = some (g.2.2 112) := by rw [e_230]; exact u_221
          have u_246 : G_228.2.2 111 = some (g.2.2 111) := by rw [e_230]; exact u_222
          have hH : HT g Ty G_228 H := by rw [← ht, ← eTx_227, eG_228]; exact hB
          refine lv_iload hx hb dX12_law_148 (lv_at hl 0 rfl) ?_
          refine lv_iload hx hb dX12_law_150 (lv_at hl 3 rfl) ?_
          refine lv_isub hx hb dX12_law_152 ?_
          refine lv_topi (fun x_247 ex_247 => ?_)
          try rw [← ex_247] at hv
          have rx_247 : rgI (0) (0) x_247 := by rw [ex_247]; exact rg_w (rg_sub rl_1 rl_1 (by decide) (by decide)) (by decide) (by decide)
          exact W.iret hx hb hr (fun t ht hWm => ⟨⟨x_247, (Ty, G_228), rfl, ⟨rfl, ⟨fr_231, ⟨⟨(by rw [u_236]; exact (rg_w rl_0 (by decide) (by decide))), (by rw [u_238]; exact (rg_w rx_229 (by decide) (by decide))), (by rw [u_237]; exact (rg_w rl_0 (by decide) (by decide))), (by rw [u_232]; exact (rg_w hI.a122 (by decide) (by decide))), (by rw [u_233]; exact (rg_w hI.a133 (by decide) (by decide))), (by rw [u_234]; exact (rg_w hI.a137 (by decide) (by decide))), u_246, u_245, (by rw [w_239]; exact (hI.ti.hi (show Bd ≤ Bd + 1000 by omega))), (hI.un2 (show Bd ≤ Bd + 1000 by omega) w_240 u_232), (hI.ke2 (show Bd ≤ Bd + 1000 by omega) w_241 w_242)⟩, hv.symm⟩⟩⟩, by show HT g Ty G_228 t.heap; rw [ht]; exact hH⟩, hS.F ht⟩) hS.2.2 dX12_law_153
        · exact rg_no rl_0 rl_0 (nle_lt c_117) (by decide)
      · rw [if_pos c_55] at hv
        have r_248 : rgI (0) (0) x_54 := rg_w (rg_eq rl_0 c_55) (by decide) (by decide)
        refine lv_bipush (v := (-2)) hx hb dX12_law_44 (by decide) ?_
        exact W.iret hx hb hr (fun t ht hWm => ⟨⟨(-2), (Ty, G_25), rfl, ⟨rfl, ⟨fr_28, ⟨⟨(by rw [hex_27]; exact (rg_w rl_0 (by decide) (by decide))), (by rw [u_29]; exact (rg_w hI.a104 (by decide) (by decide))), (by rw [u_30]; exact (rg_w rl_0 (by decide) (by decide))), (by rw [u_31]; exact (rg_w hI.a122 (by decide) (by decide))), (by rw [u_32]; exact (rg_w hI.a133 (by decide) (by decide))), (by rw [u_33]; exact (rg_w hI.a137 (by decide) (by decide))), u_41, u_42, (by rw [w_35]; exact (hI.ti.hi (show Bd ≤ Bd + 1000 by omega))), (hI.un2 (show Bd ≤ Bd + 1000 by omega) w_36 u_31), (hI.ke2 (show Bd ≤ Bd + 1000 by omega) w_37 w_38)⟩, hv.symm⟩⟩⟩, by show HT g Ty G_25 t.heap; rw [ht]; exact hH⟩, hS.F ht⟩) hS.2.2 dX12_law_46
  · exact rg_noE rl_1 rl_0 c_43 (by decide)

def F_X12_hacks_z_34 : Nat → Int32 → Int32 → Int32 → (Nat → Int32) → Int32 → Int32
  | 0, _, _, _, _, yn104 => yn104
  | n + 1, y1, y2, y3, yr0, yn104 => (if (24 : Int32) ≤ y3 then yn104 else (if yn104 = (0 : Int32) then (F_X12_hacks_z_34 n y1 y2 (y3 + (1 : Int32)) yr0 yn104) else yn104))
def F_X12_hacks_z (r0 : Nat → Int32) (m104 : Int32) (a0 : Int32) : Int32 × Int32 := (if (F_X12_isThere r0 a0) = (0 : Int32) then ((-1 : Int32), m104) else ((F_X12_hacks_z_34 26 a0 (F_X12_insideOf_x r0 a0) (0 : Int32) r0 (0 : Int32)), (F_X12_hacks_z_34 26 a0 (F_X12_insideOf_x r0 a0) (0 : Int32) r0 (0 : Int32))))
set_option maxHeartbeats 4000000 in
set_option maxRecDepth 100000 in
theorem c_X12_hacks_z (l : Launch) (g : Gx) (Ty : TyM) (G : Gh) (sz : Nat) (h0 : Nat) (a0 : Int32) (k_h0 : Ty h0 = some (22, 0)) (Bd : Int) (hI : OI g Bd G) (hBd : Bd ≤ 1900000) (hLD : LD g) (hNW : (G.2.1 (g.2.2 100)) = nowF) : Met l yX12_hacks (wsG yX12_hacks cX12_hacks 4 (some .int)) ({ frames := 26, cells := 0, slots := 0, locals := 598 }) (PcT g Ty G sz [.ref h0, .int a0]) (QwI g Ty sz (fun r u => u.1 = Ty ∧ FR [104, 105] [] [] G u.2 ∧ OI g (Bd + 1000) u.2 ∧ F_X12_hacks_z (G.2.1 (g.2.2 100)) (G.1 104) a0 = (r, (u.2.1 104)))) 0 0 (AF Ty sz) := by
  refine Met.ofW (cc := cX12_hacks) (maxL := 4) (ret := (some .int)) (by decide) rfl ?_
  intro p e s m args below meth c s₁ B hml hv
  obtain ⟨rfl, hsz, hK, hH⟩ := hv
  subst hsz
  have hx := B.exec
  have hb := B.bytes
  have hr := B.returns
  have hts := atoms_spec (ws := (wsG yX12_hacks cX12_hacks 4 (some .int))) B.pre
  have hG : ∀ w ∈ GW, w.before ([.ref h0, .int a0] : List Value).toArray s = true := fun w h => hts w (List.mem_cons_of_mem _ h)
  have hown : s.vm.findClass RX12 = some m.cls := findClass_of_methodNamed B.named
  have hlocks := B.notSynchronized
  have hl := lv_entry [.ref h0, .int a0] (n := 4) (Nat.le_of_ble_eq_true rfl)
  rw [lg_entry_eq]
  generalize (lg_sl [.ref h0, .int a0] ++ List.replicate (4 - (lg_sl [.ref h0, .int a0]).length) Slot.unset).toArray = ls at hl ⊢
  have hl : lv_has ls 4 [(0, .ref h0), (1, .int a0)] := hl
  have hmk : mdK g Ty := mdk_of hH k_h0
  have hv : (if (F_X12_isThere (G.2.1 (g.2.2 100)) a0) = (0 : Int32) then ((-1 : Int32), (G.1 104)) else ((F_X12_hacks_z_34 26 a0 (F_X12_insideOf_x (G.2.1 (g.2.2 100)) a0) (0 : Int32) (G.2.1 (g.2.2 100)) (0 : Int32)), (F_X12_hacks_z_34 26 a0 (F_X12_insideOf_x (G.2.1 (g.2.2 100)) a0) (0 : Int32) (G.2.1 (g.2.2 100)) (0 : Int32)))) = F_X12_hacks_z (G.2.1 (g.2.2 100)) (G.1 104) a0 := rfl
  have hS : va_S (AF Ty s.heap.size) s.heap s.heap [] := va_S.rf
  obtain ⟨⟨σ0, hTS0⟩, h10, hBB0⟩ := id hI.ti
  obtain ⟨ρ, hT⟩ := hTS0.1
  have L_34 : ∀ (n_34 : Nat) (H : Heap) (locs : List Loc) (G_34 : Gh) (y2_34 : Int32) (y3_34 : Int32) (ls : Array Slot), rgI (0) (1) (G_34.1 104) → FR [104, 105] [] [] G G_34 → rgI (0) (23) a0 → rgI (0) (24) y3_34 → y2_34 = 0 → (24 - (y3_34).toInt).toNat < n_34 → lv_has ls 4 [(0, .ref h0), (1, .int a0), (2, .int y2_34), (3, .int y3_34)] → ((F_X12_hacks_z_34 n_34 a0 y2_34 y3_34 (G.2.1 (g.2.2 100)) (G_34.1 104)), (F_X12_hacks_z_34 n_34 a0 y2_34 y3_34 (G.2.1 (g.2.2 100)) (G_34.1 104))) = F_X12_hacks_z (G.2.1 (g.2.2 100)) (G.1 104) a0 → HT g Ty G_34 H → va_S (AF Ty s.heap.size) s.heap H locs → Wm p l e (wsG yX12_hacks cX12_hacks 4 (some .int)) ({ frames := 26, cells := 0, slots := 0, locals := 598 }) s m [.ref h0, .int a0] below meth c H locs (0) (0) (QwI g Ty s.heap.size (fun r u => u.1 = Ty ∧ FR [104, 105] [] [] G u.2 ∧ OI g (Bd + 1000) u.2 ∧ F_X12_hacks_z (G.2.1 (g.2.2 100)) (G.1 104) a0 = (r, (u.2.1 104)))) 0 0 (AF Ty s.heap.size) (F0 m 34 ls []) := by
    intro n_34
    induction n_34 with
    | zero => intro H locs G_34 y2_34 y3_34 ls rg104_34 frL_34 ry1_34 ry3_34 hi0_34 hm; exact absurd hm (Nat.not_lt_zero _)
    | succ n_34 ih_34 =>
      intro H locs G_34 y2_34 y3_34 ls rg104_34 frL_34 ry1_34 ry3_34 hi0_34 hm_34 hl hv hH hS
      rw [F_X12_hacks_z_34] at hv
      refine lv_iload_n hx hb dX12_hacks_34 rfl (lv_at hl 3 rfl) ?_
      refine lv_bipush (v := 24) hx hb dX12_hacks_35 (by decide) ?_
      refine lv_icmp_ge (tgt := 101) hx hb dX12_hacks_37 (by decide) (fun c_1 => ?_) (fun c_1 => ?_)
      · rw [if_pos c_1] at hv
        have r_2 : rgI (24) (24) y3_34 := rg_w (rg_leR rl_24 ry3_34 c_1) (by decide) (by decide)
        refine lv_aload_n hx hb dX12_hacks_101 rfl (lv_at hl 0 rfl) ?_
        obtain ⟨_, ⟨rfl, t_4, hk_5⟩, o_c_3⟩ := hH h0 _ k_h0
        refine hg_get hx hb hG igX12 hown hK o_c_3 rfl 4 (by decide) (hG _ mw_1288) rfl dX12_hacks_102 ?_
        exact W.iret hx hb hr (fun t ht hWm => ⟨⟨(G_34.1 104), (Ty, G_34), rfl, ⟨rfl, ⟨frL_34, ⟨⟨(by rw [(frL_34.1 102 (by decide))]; exact (rg_w hI.a102 (by decide) (by decide))), (rg_w rg104_34 (by decide) (by decide)), (by rw [(frL_34.1 113 (by decide))]; exact (rg_w hI.a113 (by decide) (by decide))), (by rw [(frL_34.1 122 (by decide))]; exact (rg_w hI.a122 (by decide) (by decide))), (by rw [(frL_34.1 133 (by decide))]; exact (rg_w hI.a133 (by decide) (by decide))), (by rw [(frL_34.1 137 (by decide))]; exact (rg_w hI.a137 (by decide) (by decide))), ((frL_34.2.2 111 (by decide)).trans hI.r111), ((frL_34.2.2 112 (by decide)).trans hI.r112), (by rw [(frL_34.2.1 (g.2.2 100) trivial)]; exact (hI.ti.hi (show Bd ≤ Bd + 1000 by omega))), (hI.un2 (show Bd ≤ Bd + 1000 by omega) (frL_34.2.1 (g.2.2 121) trivial) (frL_34.1 122 (by decide))), (hI.ke2 (show Bd ≤ Bd + 1000 by omega) (frL_34.2.1 (g.2.2 140) trivial) (frL_34.2.1 (g.2.2 141) trivial))⟩, hv.symm⟩⟩⟩, by show HT g Ty G_34 t.heap; rw [ht]; exact hH⟩, hS.F ht⟩) hS.2.2 dX12_hacks_105
      · rw [if_neg c_1] at hv
        have r_6 : rgI (0) (23) y3_34 := rg_w (rg_ltL ry3_34 rl_24 (nle_lt c_1)) (by decide) (by decide)
        refine lv_aload_n hx hb dX12_hacks_40 rfl (lv_at hl 0 rfl) ?_
        obtain ⟨_, ⟨rfl, t_8, hk_9⟩, o_c_7⟩ := hH h0 _ k_h0
        refine hg_get hx hb hG igX12 hown hK o_c_7 rfl 4 (by decide) (hG _ mw_1288) rfl dX12_hacks_41 ?_
        refine lv_if_ne (tgt := 101) hx hb dX12_hacks_44 (by decide) (fun c_10 => ?_) (fun c_10 => ?_)
        · rw [if_neg c_10] at hv
          have r_11 : rgI (1) (1) (G_34.1 104) := rg_w (rg_neL rg104_34 rl_0 c_10) (by decide) (by decide)
          refine lv_aload_n hx hb dX12_hacks_101 rfl (lv_at hl 0 rfl) ?_
          refine hg_get hx hb hG igX12 hown hK o_c_7 rfl 4 (by decide) (hG _ mw_1288) rfl dX12_hacks_102 ?_
          exact W.iret hx hb hr (fun t ht hWm => ⟨⟨(G_34.1 104), (Ty, G_34), rfl, ⟨rfl, ⟨frL_34, ⟨⟨(by rw [(frL_34.1 102 (by decide))]; exact (rg_w hI.a102 (by decide) (by decide))), (rg_w r_11 (by decide) (by decide)), (by rw [(frL_34.1 113 (by decide))]; exact (rg_w hI.a113 (by decide) (by decide))), (by rw [(frL_34.1 122 (by decide))]; exact (rg_w hI.a122 (by decide) (by decide))), (by rw [(frL_34.1 133 (by decide))]; exact (rg_w hI.a133 (by decide) (by decide))), (by rw [(frL_34.1 137 (by decide))]; exact (rg_w hI.a137 (by decide) (by decide))), ((frL_34.2.2 111 (by decide)).trans hI.r111), ((frL_34.2.2 112 (by decide)).trans hI.r112), (by rw [(frL_34.2.1 (g.2.2 100) trivial)]; exact (hI.ti.hi (show Bd ≤ Bd + 1000 by omega))), (hI.un2 (show Bd ≤ Bd + 1000 by omega) (frL_34.2.1 (g.2.2 121) trivial) (frL_34.1 122 (by decide))), (hI.ke2 (show Bd ≤ Bd + 1000 by omega) (frL_34.2.1 (g.2.2 140) trivial) (frL_34.2.1 (g.2.2 141) trivial))⟩, hv.symm⟩⟩⟩, by show HT g Ty G_34 t.heap; rw [ht]; exact hH⟩, hS.F ht⟩) hS.2.2 dX12_hacks_105
        · rw [if_pos c_10] at hv
          have r_12 : rgI (0) (0) (G_34.1 104) := rg_w (rg_eq rl_0 c_10) (by decide) (by decide)
          refine lv_iload_n hx hb dX12_hacks_47 rfl (lv_at hl 2 rfl) ?_
          refine lv_iload_n hx hb dX12_hacks_48 rfl (lv_at hl 3 rfl) ?_
          refine vp_callSi (W.runS (As := [.int y2_34, .int y3_34]) (rest := []) ⟨hx, hb, hml, hown, hts⟩ (c_X12_has l g Ty G_34 y2_34 y3_34 ) (cwSx 2 hts hG (gwC mw_1563) mw_88 mw_1561 mw_1562 rfl rfl rfl hd_X12_has ⟨Nat.le_of_ble_eq_true rfl, Nat.le_of_ble_eq_true rfl⟩) ⟨PcH_blind, PcH_pre hK hH⟩ rfl rfl hl.1 rfl (lv_room (Nat.le_of_ble_eq_true rfl)) dX12_hacks_49 ⟨Nat.zero_le _, Nat.zero_le _⟩) (fun x_13 hx_13 => ?_)
          have rx_13 : rgI (0) (1) x_13 := hx_13.1
          try rw [← hx_13.2] at hv
          try rw [← hx_13.2] at hv
          have zr_14 : rgI (0) (0) x_13 := fzr_has hx_13.2 hi0_34 (rg_w r_6 (by decide) (by decide))
          refine lv_if_ne (tgt := 58) hx hb dX12_hacks_52 (by decide) (fun c_15 => ?_) (fun c_15 => ?_)
          · exact absurd (rg_one zr_14 rl_0) c_15
          · have hb_16 : bt y2_34 (y3_34 : Int32).toNatClampNeg = false := has_0 (rg_w r_6 (by decide) (by decide)) (by rw [← hx_13.2]; exact c_15)
            refine lv_goto (tgt := 95) hx hb dX12_hacks_55 (by decide) ?_
            obtain ⟨x_17, ex_17⟩ : ∃ y : Int32, y = y3_34 + 1 := ⟨_, rfl⟩
            try rw [← ex_17] at hv
            have rx_17 : rgI (1) (24) x_17 := by rw [ex_17]; exact rg_w (rg_add r_6 rl_1 (by decide) (by decide)) (by decide) (by decide)
            have qx_17 : x_17.toInt = (y3_34 : Int32).toInt + 1 := by rw [ex_17]; exact rg_addE r_6 rl_1 (by decide) (by decide)
            refine lv_iinc (v := x_17) (lv' := [(3, .int x_17), (0, .ref h0), (1, .int a0), (2, .int y2_34)]) hx hb dX12_hacks_95 hl (k := 3) rfl (by rw [ex_17]; rfl) (by decide) rfl (fun ls hl => ?_)
            refine lv_goto (tgt := 34) hx hb dX12_hacks_98 (by decide) ?_
            exact ih_34 H locs G_34 y2_34 x_17 ls (rg_w r_12 (by decide) (by decide)) frL_34 ry1_34 (rg_w rx_17 (by decide) (by decide)) hi0_34 (by have h1 := qx_17; have h2 := r_6.1; have h3 := r_6.2; have h4 := hm_34; omega) (lv_sub hl [1, 2, 3, 0] rfl) hv hH hS
  refine lv_aload_n hx hb dX12_hacks_0 rfl (lv_at hl 0 rfl) ?_
  refine lv_iconst (v := 0) hx hb dX12_hacks_1 (by decide) ?_
  obtain ⟨_, ⟨rfl, t_19, hk_20⟩, o_c_18⟩ := hH h0 _ k_h0
  refine hg_put (ty := .int) hx hb hG igX12 tyX12 tyX12_ok nmX12 hown hK hS o_c_18 (AF.of k_h0) rfl 5 (by decide) (hG _ mw_1289) rfl (by decide +kernel) rfl rfl (Nat.le_of_ble_eq_true rfl) dX12_hacks_2 (fun H locs o_c_18 hz oq hS => ?_)
  obtain ⟨G_21, eG_21⟩ : ∃ z : Gh, z = gset G 105 0 := ⟨_, rfl⟩
  have hH : HT g Ty G_21 H := by rw [eG_21]; exact HT.putN 105 0 hH k_h0 ⟨rfl, t_19, hk_20⟩ o_c_18 oq (Or.inr (Or.inr (Or.inr (Or.inr (Or.inr ⟨by decide, t_19⟩)))))
  have fr_22 : FR [104, 105] [] [] G G_21 := FR.n FR.rf eG_21 (by decide)
  have u_23 : G_21.1 102 = (G.1 102) := by rw [eG_21]; exact (gs_ne (by decide))
  have u_24 : G_21.1 104 = (G.1 104) := by rw [eG_21]; exact (gs_ne (by decide))
  have u_25 : G_21.1 113 = (G.1 113) := by rw [eG_21]; exact (gs_ne (by decide))
  have u_26 : G_21.1 122 = (G.1 122) := by rw [eG_21]; exact (gs_ne (by decide))
  have u_27 : G_21.1 133 = (G.1 133) := by rw [eG_21]; exact (gs_ne (by decide))
  have u_28 : G_21.1 137 = (G.1 137) := by rw [eG_21]; exact (gs_ne (by decide))
  have u_29 : G_21.1 105 = 0 := by rw [eG_21]; exact gs_eq
  have w_30 : G_21.2.1 (g.2.2 100) = (G.2.1 (g.2.2 100)) := by rw [eG_21]; exact rfl
  have w_31 : G_21.2.1 (g.2.2 121) = (G.2.1 (g.2.2 121)) := by rw [eG_21]; exact rfl
  have w_32 : G_21.2.1 (g.2.2 140) = (G.2.1 (g.2.2 140)) := by rw [eG_21]; exact rfl
  have w_33 : G_21.2.1 (g.2.2 141) = (G.2.1 (g.2.2 141)) := by rw [eG_21]; exact rfl
  have w_34 : G_21.2.1 (g.2.2 111) = (G.2.1 (g.2.2 111)) := by rw [eG_21]; exact rfl
  have u_35 : G_21.2.2 111 = some (g.2.2 111) := by rw [eG_21]; exact hI.r111
  have u_36 : G_21.2.2 112 = some (g.2.2 112) := by rw [eG_21]; exact hI.r112
  clear oq hz
  refine lv_aload_n hx hb dX12_hacks_5 rfl (lv_at hl 0 rfl) ?_
  obtain ⟨_, ⟨rfl, t_38, hk_39⟩, o_c_37⟩ := hH h0 _ k_h0
  refine hg_get hx hb hG igX12 hown hK o_c_37 rfl 0 (by decide) (hG _ mw_1284) rfl dX12_hacks_6 ?_
  refine lv_iload_n hx hb dX12_hacks_9 rfl (lv_at hl 1 rfl) ?_
  refine vp_callSi (W.runS (As := [.ref (g.2.2 100), .int a0]) (rest := []) ⟨hx, hb, hml, hown, hts⟩ (c_X12_isThere l g Ty G_21 (g.2.2 100) a0 (hk_39.1)) (cwSx 2 hts hG (gwC mw_1520) mw_88 mw_1518 mw_1519 rfl rfl rfl hd_X12_isThere ⟨Nat.le_of_ble_eq_true rfl, Nat.le_of_ble_eq_true rfl⟩) ⟨PcH_blind, PcH_pre hK hH⟩ rfl rfl hl.1 rfl (lv_room (Nat.le_of_ble_eq_true rfl)) dX12_hacks_10 ⟨Nat.zero_le _, Nat.zero_le _⟩) (fun x_40 hx_40 => ?_)
  have rx_40 : rgI (0) (1) x_40 := hx_40.1
  try rw [← hx_40.2.2] at hv
  have ex_41 : x_40 = F_X12_isThere (G.2.1 (g.2.2 100)) a0 := by rw [← w_30]; exact hx_40.2.2
  try rw [← ex_41] at hv
  refine lv_if_ne (tgt := 18) hx hb dX12_hacks_13 (by decide) (fun c_42 => ?_) (fun c_42 => ?_)
  · rw [if_neg c_42] at hv
    have th_43 : thr (G.2.1 (g.2.2 100)) a0 := F_isThere_thr (by rw [← ex_41]; exact c_42)
    have r_44 : rgI (1) (1) x_40 := rg_w (rg_neL rx_40 rl_0 c_42) (by decide) (by decide)
    have r_45 : rgI (0) (23) a0 := rg_w (hx_40.2.1.resolve_left c_42) (by decide) (by decide)
    refine lv_aload_n hx hb dX12_hacks_18 rfl (lv_at hl 0 rfl) ?_
    refine hg_get hx hb hG igX12 hown hK o_c_37 rfl 0 (by decide) (hG _ mw_1284) rfl dX12_hacks_19 ?_
    refine lv_iload_n hx hb dX12_hacks_22 rfl (lv_at hl 1 rfl) ?_
    refine vp_callSi (W.runS (As := [.ref (g.2.2 100), .int a0]) (rest := []) ⟨hx, hb, hml, hown, hts⟩ (c_X12_insideOf_x l g Ty G_21 (g.2.2 100) a0 (hk_39.1) ρ (by rw [w_30]; exact hT)) (cwSx 2 hts hG (gwC mw_1740) mw_88 mw_1738 mw_1739 rfl rfl rfl hd_X12_insideOf ⟨Nat.le_of_ble_eq_true rfl, Nat.le_of_ble_eq_true rfl⟩) ⟨PcH_blind, PcH_pre hK hH⟩ rfl rfl hl.1 rfl (lv_room (Nat.le_of_ble_eq_true rfl)) dX12_hacks_23 ⟨Nat.zero_le _, Nat.zero_le _⟩) (fun x_46 hx_46 => ?_)
    try rw [← hx_46.2] at hv
    have ex_47 : x_46 = F_X12_insideOf_x (G.2.1 (g.2.2 100)) a0 := by rw [← w_30]; exact hx_46.2
    have tx_48 := hx_46.1
    try rw [w_30] at tx_48
    try rw [w_34] at tx_48
    try rw [u_25] at tx_48
    have ex_49 : x_46 = F_X12_insideOf_x (G.2.1 (g.2.2 100)) a0 := hx_46.2.trans (by rw [w_30])
    try rw [← ex_49] at hv
    have in0_50 : x_46 = 0 := by rw [ex_49]; exact fzr_ins (thr_now th_43 hNW) hNW
    refine lv_istore_n (lv' := [(2, .int x_46), (0, .ref h0), (1, .int a0)]) hx hb dX12_hacks_26 rfl hl (by decide) rfl (fun ls hl => ?_)
    refine lv_aload_n hx hb dX12_hacks_27 rfl (lv_at hl 1 rfl) ?_
    refine lv_iconst (v := 0) hx hb dX12_hacks_28 (by decide) ?_
    refine hg_put (ty := .int) hx hb hG igX12 tyX12 tyX12_ok nmX12 hown hK hS o_c_37 (AF.of k_h0) rfl 4 (by decide) (hG _ mw_1288) rfl (by decide +kernel) rfl rfl (Nat.le_of_ble_eq_true rfl) dX12_hacks_29 (fun H locs o_c_37 hz oq hS => ?_)
    obtain ⟨G_51, eG_51⟩ : ∃ z : Gh, z = gset G_21 104 0 := ⟨_, rfl⟩
    have hH : HT g Ty G_51 H := by rw [eG_51]; exact HT.putN 104 0 hH k_h0 ⟨rfl, t_38, hk_39⟩ o_c_37 oq (Or.inr (Or.inr (Or.inr (Or.inr (Or.inr ⟨by decide, t_38⟩)))))
    have fr_52 : FR [104, 105] [] [] G G_51 := FR.n fr_22 eG_51 (by decide)
    have u_53 : G_51.1 102 = (G.1 102) := by rw [eG_51]; exact (gs_ne (by decide)).trans u_23
    have u_54 : G_51.1 113 = (G.1 113) := by rw [eG_51]; exact (gs_ne (by decide)).trans u_25
    have u_55 : G_51.1 122 = (G.1 122) := by rw [eG_51]; exact (gs_ne (by decide)).trans u_26
    have u_56 : G_51.1 133 = (G.1 133) := by rw [eG_51]; exact (gs_ne (by decide)).trans u_27
    have u_57 : G_51.1 137 = (G.1 137) := by rw [eG_51]; exact (gs_ne (by decide)).trans u_28
    have u_58 : G_51.1 105 = 0 := by rw [eG_51]; exact (gs_ne (by decide)).trans u_29
    have u_59 : G_51.1 104 = 0 := by rw [eG_51]; exact gs_eq
    have w_60 : G_51.2.1 (g.2.2 100) = (G.2.1 (g.2.2 100)) := by rw [eG_51]; exact w_30
    have w_61 : G_51.2.1 (g.2.2 121) = (G.2.1 (g.2.2 121)) := by rw [eG_51]; exact w_31
    have w_62 : G_51.2.1 (g.2.2 140) = (G.2.1 (g.2.2 140)) := by rw [eG_51]; exact w_32
    have w_63 : G_51.2.1 (g.2.2 141) = (G.2.1 (g.2.2 141)) := by rw [eG_51]; exact w_33
    have w_64 : G_51.2.1 (g.2.2 111) = (G.2.1 (g.2.2 111)) := by rw [eG_51]; exact w_34
    have u_65 : G_51.2.2 111 = some (g.2.2 111) := by rw [eG_51]; exact u_35
    have u_66 : G_51.2.2 112 = some (g.2.2 112) := by rw [eG_51]; exact u_36
    clear oq hz
    refine lv_iconst (v := 0) hx hb dX12_hacks_32 (by decide) ?_
    refine lv_istore_n (lv' := [(3, .int 0), (2, .int x_46), (0, .ref h0), (1, .int a0)]) hx hb dX12_hacks_33 rfl hl (by decide) rfl (fun ls hl => ?_)
    exact L_34 26 H locs G_51 x_46 0 ls (by rw [u_59]; exact rg_w rl_0 (by decide) (by decide)) fr_52 r_45 (rg_w rl_0 (by decide) (by decide)) in0_50 (by decide) (lv_sub hl [2, 3, 1, 0] rfl) (by rw [u_59]; exact hv) hH hS
  · rw [if_pos c_42] at hv
    have r_67 : rgI (0) (0) x_40 := rg_w (rg_eq rl_0 c_42) (by decide) (by decide)
    refine lv_iconst (v := (-1)) hx hb dX12_hacks_16 (by decide) ?_
    exact W.iret hx hb hr (fun t ht hWm => ⟨⟨(-1), (Ty, G_21), rfl, ⟨rfl, ⟨fr_22, ⟨⟨(by rw [u_23]; exact (rg_w hI.a102 (by decide) (by decide))), (by rw [u_24]; exact (rg_w hI.a104 (by decide) (by decide))), (by rw [u_25]; exact (rg_w hI.a113 (by decide) (by decide))), (by rw [u_26]; exact (rg_w hI.a122 (by decide) (by decide))), (by rw [u_27]; exact (rg_w hI.a133 (by decide) (by decide))), (by rw [u_28]; exact (rg_w hI.a137 (by decide) (by decide))), u_35, u_36, (by rw [w_30]; exact (hI.ti.hi (show Bd ≤ Bd + 1000 by omega))), (hI.un2 (show Bd ≤ Bd + 1000 by omega) w_31 u_26), (hI.ke2 (show Bd ≤ Bd + 1000 by omega) w_32 w_33)⟩, hv.symm.trans (by rw [u_24])⟩⟩⟩, by show HT g Ty G_21 t.heap; rw [ht]; exact hH⟩, hS.F ht⟩) hS.2.2 dX12_hacks_17

set_option maxHeartbeats 4000000 in
set_option maxRecDepth 100000 in
theorem c_X12_areAlike_z (l : Launch) (g : Gx) (Ty : TyM) (G : Gh) (sz : Nat) (h0 : Nat) (a0 : Int32) (a1 : Int32) (a2 : Int32) (k_h0 : Ty h0 = some (22, 0)) (pr0 : rgI (0) (0) a0) (pr1 : rgI (0) (0) a1) (pr2 : rgI (0) (0) a2) (hNW : (G.2.1 (g.2.2 100)) = nowF) : Met l yX12_areAlike (wsG yX12_areAlike cX12_areAlike 7 (some .boolean)) ({ frames := 26, cells := 0, slots := 0, locals := 673 }) (PcT g Ty G sz [.ref h0, .int a0, .int a1, .int a2]) (QwI g Ty sz (fun r u => (rgI (1) (1) r) ∧ u.1 = Ty ∧ FR [] [] [] G u.2)) 0 0 (AF Ty sz) := by
  refine Met.ofW (cc := cX12_areAlike) (maxL := 7) (ret := (some .boolean)) (by decide) rfl ?_
  intro p e s m args below meth c s₁ B hml hv
  obtain ⟨rfl, hsz, hK, hH⟩ := hv
  subst hsz
  have hx := B.exec
  have hb := B.bytes
  have hr := B.returns
  have hts := atoms_spec (ws := (wsG yX12_areAlike cX12_areAlike 7 (some .boolean))) B.pre
  have hG : ∀ w ∈ GW, w.before ([.ref h0, .int a0, .int a1, .int a2] : List Value).toArray s = true := fun w h => hts w (List.mem_cons_of_mem _ h)
  have hown : s.vm.findClass RX12 = some m.cls := findClass_of_methodNamed B.named
  have hlocks := B.notSynchronized
  have hl := lv_entry [.ref h0, .int a0, .int a1, .int a2] (n := 7) (Nat.le_of_ble_eq_true rfl)
  rw [lg_entry_eq]
  generalize (lg_sl [.ref h0, .int a0, .int a1, .int a2] ++ List.replicate (7 - (lg_sl [.ref h0, .int a0, .int a1, .int a2]).length) Slot.unset).toArray = ls at hl ⊢
  have hl : lv_has ls 7 [(0, .ref h0), (1, .int a0), (2, .int a1), (3, .int a2)] := hl
  have hmk : mdK g Ty := mdk_of hH k_h0
  have hS : va_S (AF Ty s.heap.size) s.heap s.heap [] := va_S.rf
  have L_3 : ∀ (n : Nat) (H : Heap) (locs : List Loc) (G_3 : Gh) (y4_3 : Int32) (ls : Array Slot), FR [] [] [] G G_3 → rgI (0) (0) a0 → rgI (0) (0) a1 → rgI (0) (0) a2 → rgI (0) (4) y4_3 → (4 - (y4_3).toInt).toNat < n → lv_has ls 7 [(0, .ref h0), (1, .int a0), (2, .int a1), (3, .int a2), (4, .int y4_3)] → HT g Ty G_3 H → va_S (AF Ty s.heap.size) s.heap H locs → Wm p l e (wsG yX12_areAlike cX12_areAlike 7 (some .boolean)) ({ frames := 26, cells := 0, slots := 0, locals := 673 }) s m [.ref h0, .int a0, .int a1, .int a2] below meth c H locs (0) (0) (QwI g Ty s.heap.size (fun r u => (rgI (1) (1) r) ∧ u.1 = Ty ∧ FR [] [] [] G u.2)) 0 0 (AF Ty s.heap.size) (F0 m 3 ls []) := by
    intro n
    induction n with
    | zero => intro H locs G_3 y4_3 ls frL_3 ry1_3 ry2_3 ry3_3 ry4_3 hm; exact absurd hm (Nat.not_lt_zero _)
    | succ n ih_3 =>
      intro H locs G_3 y4_3 ls frL_3 ry1_3 ry2_3 ry3_3 ry4_3 hm_3 hl hH hS
      refine lv_iload hx hb dX12_areAlike_3 (lv_at hl 4 rfl) ?_
      refine lv_iconst (v := 4) hx hb dX12_areAlike_5 (by decide) ?_
      refine lv_icmp_ge (tgt := 104) hx hb dX12_areAlike_6 (by decide) (fun c_1 => ?_) (fun c_1 => ?_)
      · have r_2 : rgI (4) (4) y4_3 := rg_w (rg_leR rl_4 ry4_3 c_1) (by decide) (by decide)
        refine lv_iconst (v := 1) hx hb dX12_areAlike_104 (by decide) ?_
        exact W.zret hx hb hr rfl (fun t ht hWm => ⟨⟨1, (Ty, G_3), rfl, ⟨rg_w rl_1 (by decide) (by decide), ⟨rfl, frL_3⟩⟩, by show HT g Ty G_3 t.heap; rw [ht]; exact hH⟩, hS.F ht⟩) hS.2.2 dX12_areAlike_105
      · have r_3 : rgI (0) (3) y4_3 := rg_w (rg_ltL ry4_3 rl_4 (nle_lt c_1)) (by decide) (by decide)
        refine lv_aload_n hx hb dX12_areAlike_9 rfl (lv_at hl 0 rfl) ?_
        obtain ⟨_, ⟨rfl, t_5, hk_6⟩, o_c_4⟩ := hH h0 _ k_h0
        refine hg_get hx hb hG igX12 hown hK o_c_4 rfl 0 (by decide) (hG _ mw_1284) rfl dX12_areAlike_10 ?_
        refine lv_iload_n hx hb dX12_areAlike_13 rfl (lv_at hl 1 rfl) ?_
        refine lv_iload hx hb dX12_areAlike_14 (lv_at hl 4 rfl) ?_
        refine vp_callSi (W.runS (As := [.ref (g.2.2 100), .int a0, .int y4_3]) (rest := []) ⟨hx, hb, hml, hown, hts⟩ (c_X12_atOf l g Ty G_3 (g.2.2 100) a0 y4_3 (hk_6.1)) (cwSx 3 hts hG (gwC mw_1509) mw_88 mw_1507 mw_1508 rfl rfl rfl hd_X12_atOf ⟨Nat.le_of_ble_eq_true rfl, Nat.le_of_ble_eq_true rfl⟩) ⟨PcH_blind, PcH_pre hK hH⟩ rfl rfl hl.1 rfl (lv_room (Nat.le_of_ble_eq_true rfl)) dX12_areAlike_16 ⟨Nat.zero_le _, Nat.zero_le _⟩) (fun x_7 hx_7 => ?_)
        have rx_7 : rgI (1) (24) x_7 := hx_7.1
        have ex_8 : x_7 = F_X12_atOf (G.2.1 (g.2.2 100)) a0 y4_3 := by rw [← (frL_3.2.1 (g.2.2 100) trivial)]; exact hx_7.2
        try rw [← ex_8] at hv
        have fz_9 : rgI (24) (24) x_7 := by rw [ex_8]; exact (fzr_atOf hNW ry1_3)
        refine lv_istore (lv' := [(5, .int x_7), (0, .ref h0), (1, .int a0), (2, .int a1), (3, .int a2), (4, .int y4_3)]) hx hb dX12_areAlike_19 hl (by decide) rfl (fun ls hl => ?_)
        refine lv_aload_n hx hb dX12_areAlike_21 rfl (lv_at hl 1 rfl) ?_
        refine hg_get hx hb hG igX12 hown hK o_c_4 rfl 0 (by decide) (hG _ mw_1284) rfl dX12_areAlike_22 ?_
        refine lv_iload_n hx hb dX12_areAlike_25 rfl (lv_at hl 3 rfl) ?_
        refine lv_iload hx hb dX12_areAlike_26 (lv_at hl 5 rfl) ?_
        refine vp_callSi (W.runS (As := [.ref (g.2.2 100), .int a1, .int y4_3]) (rest := []) ⟨hx, hb, hml, hown, hts⟩ (c_X12_atOf l g Ty G_3 (g.2.2 100) a1 y4_3 (hk_6.1)) (cwSx 3 hts hG (gwC mw_1509) mw_88 mw_1507 mw_1508 rfl rfl rfl hd_X12_atOf ⟨Nat.le_of_ble_eq_true rfl, Nat.le_of_ble_eq_true rfl⟩) ⟨PcH_blind, PcH_pre hK hH⟩ rfl rfl hl.1 rfl (lv_room (Nat.le_of_ble_eq_true rfl)) dX12_areAlike_28 ⟨Nat.zero_le _, Nat.zero_le _⟩) (fun x_10 hx_10 => ?_)
        have rx_10 : rgI (1) (24) x_10 := hx_10.1
        have ex_11 : x_10 = F_X12_atOf (G.2.1 (g.2.2 100)) a1 y4_3 := by rw [← (frL_3.2.1 (g.2.2 100) trivial)]; exact hx_10.2
        try rw [← ex_11] at hv
        have fz_12 : rgI (24) (24) x_10 := by rw [ex_11]; exact (fzr_atOf hNW ry2_3)
        refine lv_istore (lv' := [(6, .int x_10), (5, .int x_7), (0, .ref h0), (1, .int a0), (2, .int a1), (3, .int a2), (4, .int y4_3)]) hx hb dX12_areAlike_31 hl (by decide) rfl (fun ls hl => ?_)
        refine lv_iload hx hb dX12_areAlike_33 (lv_at hl 1 rfl) ?_
        refine lv_bipush (v := 24) hx hb dX12_areAlike_35 (by decide) ?_
        refine lv_icmp_ne (tgt := 50) hx hb dX12_areAlike_37 (by decide) (fun c_13 => ?_) (fun c_13 => ?_)
        · exact absurd (rg_one fz_9 rl_24) c_13
        · refine lv_iload hx hb dX12_areAlike_40 (lv_at hl 0 rfl) ?_
          refine lv_bipush (v := 24) hx hb dX12_areAlike_42 (by decide) ?_
          refine lv_icmp_ne (tgt := 50) hx hb dX12_areAlike_44 (by decide) (fun c_14 => ?_) (fun c_14 => ?_)
          · exact absurd (rg_one fz_12 rl_24) c_14
          · refine lv_goto (tgt := 98) hx hb dX12_areAlike_47 (by decide) ?_
            obtain ⟨x_15, ex_15⟩ : ∃ y : Int32, y = y4_3 + 1 := ⟨_, rfl⟩
            have rx_15 : rgI (1) (4) x_15 := by rw [ex_15]; exact rg_w (rg_add r_3 rl_1 (by decide) (by decide)) (by decide) (by decide)
            have qx_15 : x_15.toInt = (y4_3 : Int32).toInt + 1 := by rw [ex_15]; exact rg_addE r_3 rl_1 (by decide) (by decide)
            refine lv_iinc (v := x_15) (lv' := [(4, .int x_15), (6, .int x_10), (5, .int x_7), (0, .ref h0), (1, .int a0), (2, .int a1), (3, .int a2)]) hx hb dX12_areAlike_98 hl (k := 6) rfl (by rw [ex_15]; rfl) (by decide) rfl (fun ls hl => ?_)
            refine lv_goto (tgt := 3) hx hb dX12_areAlike_101 (by decide) ?_
            exact ih_3 H locs G_3 x_15 ls frL_3 ry1_3 ry2_3 ry3_3 (rg_w rx_15 (by decide) (by decide)) (by have h1 := qx_15; have h2 := r_3.1; have h3 := r_3.2; have h4 := hm_3; omega) (lv_sub hl [3, 4, 5, 6, 0] rfl) hH hS
  refine lv_iconst (v := 0) hx hb dX12_areAlike_0 (by decide) ?_
  refine lv_istore (lv' := [(4, .int 0), (0, .ref h0), (1, .int a0), (2, .int a1), (3, .int a2)]) hx hb dX12_areAlike_1 hl (by decide) rfl (fun ls hl => ?_)
  exact L_3 _ s.heap [] G 0 ls FR.rf pr0 pr1 pr2 (rg_w rl_0 (by decide) (by decide)) (Nat.lt_succ_self _) (lv_sub hl [1, 2, 3, 4, 0] rfl) hH hS

def F_X12_alike_z (r0 : Nat → Int32) (a0 : Int32) (a1 : Int32) : Int32 := (if (F_X12_isThere r0 a0) = (0 : Int32) then (-1 : Int32) else (if (F_X12_isThere r0 a1) = (0 : Int32) then (-1 : Int32) else (1 : Int32)))
set_option maxHeartbeats 4000000 in
set_option maxRecDepth 100000 in
theorem c_X12_alike_z (l : Launch) (g : Gx) (Ty : TyM) (G : Gh) (sz : Nat) (h0 : Nat) (a0 : Int32) (a1 : Int32) (k_h0 : Ty h0 = some (22, 0)) (Bd : Int) (hI : OI g Bd G) (hBd : Bd ≤ 1900000) (hLD : LD g) (hNW : (G.2.1 (g.2.2 100)) = nowF) : Met l yX12_alike (wsG yX12_alike cX12_alike 3 (some .int)) ({ frames := 27, cells := 0, slots := 0, locals := 699 }) (PcT g Ty G sz [.ref h0, .int a0, .int a1]) (QwI g Ty sz (fun r u => u.1 = Ty ∧ FR [104, 105] [] [] G u.2 ∧ OI g (Bd + 1000) u.2 ∧ F_X12_alike_z (G.2.1 (g.2.2 100)) a0 a1 = r)) 0 0 (AF Ty sz) := by
  refine Met.ofW (cc := cX12_alike) (maxL := 3) (ret := (some .int)) (by decide) rfl ?_
  intro p e s m args below meth c s₁ B hml hv
  obtain ⟨rfl, hsz, hK, hH⟩ := hv
  subst hsz
  have hx := B.exec
  have hb := B.bytes
  have hr := B.returns
  have hts := atoms_spec (ws := (wsG yX12_alike cX12_alike 3 (some .int))) B.pre
  have hG : ∀ w ∈ GW, w.before ([.ref h0, .int a0, .int a1] : List Value).toArray s = true := fun w h => hts w (List.mem_cons_of_mem _ h)
  have hown : s.vm.findClass RX12 = some m.cls := findClass_of_methodNamed B.named
  have hlocks := B.notSynchronized
  have hl := lv_entry [.ref h0, .int a0, .int a1] (n := 3) (Nat.le_of_ble_eq_true rfl)
  rw [lg_entry_eq]
  generalize (lg_sl [.ref h0, .int a0, .int a1] ++ List.replicate (3 - (lg_sl [.ref h0, .int a0, .int a1]).length) Slot.unset).toArray = ls at hl ⊢
  have hl : lv_has ls 3 [(0, .ref h0), (1, .int a0), (2, .int a1)] := hl
  have hmk : mdK g Ty := mdk_of hH k_h0
  have hv : (if (F_X12_isThere (G.2.1 (g.2.2 100)) a0) = (0 : Int32) then (-1 : Int32) else (if (F_X12_isThere (G.2.1 (g.2.2 100)) a1) = (0 : Int32) then (-1 : Int32) else (1 : Int32))) = F_X12_alike_z (G.2.1 (g.2.2 100)) a0 a1 := rfl
  have hS : va_S (AF Ty s.heap.size) s.heap s.heap [] := va_S.rf
  obtain ⟨⟨σ0, hTS0⟩, h10, hBB0⟩ := id hI.ti
  obtain ⟨ρ, hT⟩ := hTS0.1
  refine lv_aload_n hx hb dX12_alike_0 rfl (lv_at hl 0 rfl) ?_
  refine lv_iconst (v := 0) hx hb dX12_alike_1 (by decide) ?_
  obtain ⟨_, ⟨rfl, t_2, hk_3⟩, o_c_1⟩ := hH h0 _ k_h0
  refine hg_put (ty := .int) hx hb hG igX12 tyX12 tyX12_ok nmX12 hown hK hS o_c_1 (AF.of k_h0) rfl 5 (by decide) (hG _ mw_1289) rfl (by decide +kernel) rfl rfl (Nat.le_of_ble_eq_true rfl) dX12_alike_2 (fun H locs o_c_1 hz oq hS => ?_)
  obtain ⟨G_4, eG_4⟩ : ∃ z : Gh, z = gset G 105 0 := ⟨_, rfl⟩
  have hH : HT g Ty G_4 H := by rw [eG_4]; exact HT.putN 105 0 hH k_h0 ⟨rfl, t_2, hk_3⟩ o_c_1 oq (Or.inr (Or.inr (Or.inr (Or.inr (Or.inr ⟨by decide, t_2⟩)))))
  have fr_5 : FR [104, 105] [] [] G G_4 := FR.n FR.rf eG_4 (by decide)
  have u_6 : G_4.1 102 = (G.1 102) := by rw [eG_4]; exact (gs_ne (by decide))
  have u_7 : G_4.1 104 = (G.1 104) := by rw [eG_4]; exact (gs_ne (by decide))
  have u_8 : G_4.1 113 = (G.1 113) := by rw [eG_4]; exact (gs_ne (by decide))
  have u_9 : G_4.1 122 = (G.1 122) := by rw [eG_4]; exact (gs_ne (by decide))
  have u_10 : G_4.1 133 = (G.1 133) := by rw [eG_4]; exact (gs_ne (by decide))
  have u_11 : G_4.1 137 = (G.1 137) := by rw [eG_4]; exact (gs_ne (by decide))
  have u_12 : G_4.1 105 = 0 := by rw [eG_4]; exact gs_eq
  have w_13 : G_4.2.1 (g.2.2 100) = (G.2.1 (g.2.2 100)) := by rw [eG_4]; exact rfl
  have w_14 : G_4.2.1 (g.2.2 121) = (G.2.1 (g.2.2 121)) := by rw [eG_4]; exact rfl
  have w_15 : G_4.2.1 (g.2.2 140) = (G.2.1 (g.2.2 140)) := by rw [eG_4]; exact rfl
  have w_16 : G_4.2.1 (g.2.2 141) = (G.2.1 (g.2.2 141)) := by rw [eG_4]; exact rfl
  have w_17 : G_4.2.1 (g.2.2 111) = (G.2.1 (g.2.2 111)) := by rw [eG_4]; exact rfl
  have u_18 : G_4.2.2 111 = some (g.2.2 111) := by rw [eG_4]; exact hI.r111
  have u_19 : G_4.2.2 112 = some (g.2.2 112) := by rw [eG_4]; exact hI.r112
  clear oq hz
  refine lv_aload_n hx hb dX12_alike_5 rfl (lv_at hl 0 rfl) ?_
  obtain ⟨_, ⟨rfl, t_21, hk_22⟩, o_c_20⟩ := hH h0 _ k_h0
  refine hg_get hx hb hG igX12 hown hK o_c_20 rfl 0 (by decide) (hG _ mw_1284) rfl dX12_alike_6 ?_
  refine lv_iload_n hx hb dX12_alike_9 rfl (lv_at hl 1 rfl) ?_
  refine vp_callSi (W.runS (As := [.ref (g.2.2 100), .int a0]) (rest := []) ⟨hx, hb, hml, hown, hts⟩ (c_X12_isThere l g Ty G_4 (g.2.2 100) a0 (hk_22.1)) (cwSx 2 hts hG (gwC mw_1520) mw_88 mw_1518 mw_1519 rfl rfl rfl hd_X12_isThere ⟨Nat.le_of_ble_eq_true rfl, Nat.le_of_ble_eq_true rfl⟩) ⟨PcH_blind, PcH_pre hK hH⟩ rfl rfl hl.1 rfl (lv_room (Nat.le_of_ble_eq_true rfl)) dX12_alike_10 ⟨Nat.zero_le _, Nat.zero_le _⟩) (fun x_23 hx_23 => ?_)
  have rx_23 : rgI (0) (1) x_23 := hx_23.1
  try rw [← hx_23.2.2] at hv
  have ex_24 : x_23 = F_X12_isThere (G.2.1 (g.2.2 100)) a0 := by rw [← w_13]; exact hx_23.2.2
  try rw [← ex_24] at hv
  refine lv_if_eq (tgt := 27) hx hb dX12_alike_13 (by decide) (fun c_25 => ?_) (fun c_25 => ?_)
  · rw [if_pos c_25] at hv
    have r_26 : rgI (0) (0) x_23 := rg_w (rg_eq rl_0 c_25) (by decide) (by decide)
    refine lv_iconst (v := (-1)) hx hb dX12_alike_27 (by decide) ?_
    exact W.iret hx hb hr (fun t ht hWm => ⟨⟨(-1), (Ty, G_4), rfl, ⟨rfl, ⟨fr_5, ⟨⟨(by rw [u_6]; exact (rg_w hI.a102 (by decide) (by decide))), (by rw [u_7]; exact (rg_w hI.a104 (by decide) (by decide))), (by rw [u_8]; exact (rg_w hI.a113 (by decide) (by decide))), (by rw [u_9]; exact (rg_w hI.a122 (by decide) (by decide))), (by rw [u_10]; exact (rg_w hI.a133 (by decide) (by decide))), (by rw [u_11]; exact (rg_w hI.a137 (by decide) (by decide))), u_18, u_19, (by rw [w_13]; exact (hI.ti.hi (show Bd ≤ Bd + 1000 by omega))), (hI.un2 (show Bd ≤ Bd + 1000 by omega) w_14 u_9), (hI.ke2 (show Bd ≤ Bd + 1000 by omega) w_15 w_16)⟩, hv.symm⟩⟩⟩, by show HT g Ty G_4 t.heap; rw [ht]; exact hH⟩, hS.F ht⟩) hS.2.2 dX12_alike_28
  · rw [if_neg c_25] at hv
    have th_27 : thr (G.2.1 (g.2.2 100)) a0 := F_isThere_thr (by rw [← ex_24]; exact c_25)
    have r_28 : rgI (1) (1) x_23 := rg_w (rg_neL rx_23 rl_0 c_25) (by decide) (by decide)
    have r_29 : rgI (0) (23) a0 := rg_w (hx_23.2.1.resolve_left c_25) (by decide) (by decide)
    refine lv_aload_n hx hb dX12_alike_16 rfl (lv_at hl 0 rfl) ?_
    refine hg_get hx hb hG igX12 hown hK o_c_20 rfl 0 (by decide) (hG _ mw_1284) rfl dX12_alike_17 ?_
    refine lv_iload_n hx hb dX12_alike_20 rfl (lv_at hl 2 rfl) ?_
    refine vp_callSi (W.runS (As := [.ref (g.2.2 100), .int a1]) (rest := []) ⟨hx, hb, hml, hown, hts⟩ (c_X12_isThere l g Ty G_4 (g.2.2 100) a1 (hk_22.1)) (cwSx 2 hts hG (gwC mw_1520) mw_88 mw_1518 mw_1519 rfl rfl rfl hd_X12_isThere ⟨Nat.le_of_ble_eq_true rfl, Nat.le_of_ble_eq_true rfl⟩) ⟨PcH_blind, PcH_pre hK hH⟩ rfl rfl hl.1 rfl (lv_room (Nat.le_of_ble_eq_true rfl)) dX12_alike_21 ⟨Nat.zero_le _, Nat.zero_le _⟩) (fun x_30 hx_30 => ?_)
    have rx_30 : rgI (0) (1) x_30 := hx_30.1
    try rw [← hx_30.2.2] at hv
    have ex_31 : x_30 = F_X12_isThere (G.2.1 (g.2.2 100)) a1 := by rw [← w_13]; exact hx_30.2.2
    try rw [← ex_31] at hv
    refine lv_if_ne (tgt := 29) hx hb dX12_alike_24 (by decide) (fun c_32 => ?_) (fun c_32 => ?_)
    · rw [if_neg c_32] at hv
      have th_33 : thr (G.2.1 (g.2.2 100)) a1 := F_isThere_thr (by rw [← ex_31]; exact c_32)
      have r_34 : rgI (1) (1) x_30 := rg_w (rg_neL rx_30 rl_0 c_32) (by decide) (by decide)
      have r_35 : rgI (0) (23) a1 := rg_w (hx_30.2.1.resolve_left c_32) (by decide) (by decide)
      have r_36 : rgI (0) (0) a0 := rg_w ((thr_now th_27 hNW)) (by decide) (by decide)
      have r_37 : rgI (0) (0) a1 := rg_w ((thr_now th_33 hNW)) (by decide) (by decide)
      refine lv_aload_n hx hb dX12_alike_29 rfl (lv_at hl 0 rfl) ?_
      refine lv_iconst (v := 0) hx hb dX12_alike_30 (by decide) ?_
      refine hg_put (ty := .int) hx hb hG igX12 tyX12 tyX12_ok nmX12 hown hK hS o_c_20 (AF.of k_h0) rfl 4 (by decide) (hG _ mw_1288) rfl (by decide +kernel) rfl rfl (Nat.le_of_ble_eq_true rfl) dX12_alike_31 (fun H locs o_c_20 hz oq hS => ?_)
      obtain ⟨G_38, eG_38⟩ : ∃ z : Gh, z = gset G_4 104 0 := ⟨_, rfl⟩
      have hH : HT g Ty G_38 H := by rw [eG_38]; exact HT.putN 104 0 hH k_h0 ⟨rfl, t_21, hk_22⟩ o_c_20 oq (Or.inr (Or.inr (Or.inr (Or.inr (Or.inr ⟨by decide, t_21⟩)))))
      have fr_39 : FR [104, 105] [] [] G G_38 := FR.n fr_5 eG_38 (by decide)
      have u_40 : G_38.1 102 = (G.1 102) := by rw [eG_38]; exact (gs_ne (by decide)).trans u_6
      have u_41 : G_38.1 113 = (G.1 113) := by rw [eG_38]; exact (gs_ne (by decide)).trans u_8
      have u_42 : G_38.1 122 = (G.1 122) := by rw [eG_38]; exact (gs_ne (by decide)).trans u_9
      have u_43 : G_38.1 133 = (G.1 133) := by rw [eG_38]; exact (gs_ne (by decide)).trans u_10
      have u_44 : G_38.1 137 = (G.1 137) := by rw [eG_38]; exact (gs_ne (by decide)).trans u_11
      have u_45 : G_38.1 105 = 0 := by rw [eG_38]; exact (gs_ne (by decide)).trans u_12
      have u_46 : G_38.1 104 = 0 := by rw [eG_38]; exact gs_eq
      have w_47 : G_38.2.1 (g.2.2 100) = (G.2.1 (g.2.2 100)) := by rw [eG_38]; exact w_13
      have w_48 : G_38.2.1 (g.2.2 121) = (G.2.1 (g.2.2 121)) := by rw [eG_38]; exact w_14
      have w_49 : G_38.2.1 (g.2.2 140) = (G.2.1 (g.2.2 140)) := by rw [eG_38]; exact w_15
      have w_50 : G_38.2.1 (g.2.2 141) = (G.2.1 (g.2.2 141)) := by rw [eG_38]; exact w_16
      have w_51 : G_38.2.1 (g.2.2 111) = (G.2.1 (g.2.2 111)) := by rw [eG_38]; exact w_17
      have u_52 : G_38.2.2 111 = some (g.2.2 111) := by rw [eG_38]; exact u_18
      have u_53 : G_38.2.2 112 = some (g.2.2 112) := by rw [eG_38]; exact u_19
      clear oq hz
      refine lv_aload_n hx hb dX12_alike_34 rfl (lv_at hl 0 rfl) ?_
      refine lv_iload_n hx hb dX12_alike_35 rfl (lv_at hl 1 rfl) ?_
      refine lv_iload_n hx hb dX12_alike_36 rfl (lv_at hl 2 rfl) ?_
      refine lv_iconst (v := 0) hx hb dX12_alike_37 (by decide) ?_
      obtain ⟨_, ⟨rfl, t_55, hk_56⟩, o_c_54⟩ := hH h0 _ k_h0
      refine va_calli (va_runV (As := [.int a0, .int a1, .int 0]) (rest := []) ⟨hx, hb, hml, hown, hts⟩ (c_X12_areAlike_z l g Ty G_38 H.size h0 a0 a1 0 k_h0 (rg_w r_36 (by decide) (by decide)) (rg_w r_37 (by decide) (by decide)) (rg_w rl_0 (by decide) (by decide)) (by rw [w_47]; exact hNW)) (cwV 3 hts (gwV mw_1750 mw_1752 mw_68 mw_88 mw_1753) rfl rfl rfl hv_X12_areAlike ⟨Nat.le_of_ble_eq_true rfl, Nat.le_of_ble_eq_true rfl⟩) ⟨PcT_blind, hg_recv hK o_c_54 rfl, PcT_pre hK hH⟩ rfl rfl hl.1 rfl (lv_room (Nat.le_of_ble_eq_true rfl)) dX12_alike_38 ⟨Nat.zero_le _, Nat.zero_le _⟩) hS (fun q _ h => AF.mono hS.1 h) (fun q h => AF.mono hS.1 h) (fun x_57 ux_57 t H locs ht hvm hx_57 hB hz hk hS => ?_)
      obtain ⟨hx_57, fx_57⟩ := hx_57
      obtain ⟨eTx_57, eGx_57⟩ := fx_57
      obtain ⟨G_58, eG_58⟩ : ∃ z, z = ux_57.2 := ⟨_, rfl⟩
      rw [← eG_58] at eGx_57
      have fr_59 : FR [104, 105] [] [] G G_58 := FR.tr fr_39 eGx_57 (by decide) (fun _ _ => trivial) (by decide)
      have u_60 : G_58.1 102 = (G.1 102) := (eGx_57.1 102 (by decide)).trans u_40
      have u_61 : G_58.1 113 = (G.1 113) := (eGx_57.1 113 (by decide)).trans u_41
      have u_62 : G_58.1 122 = (G.1 122) := (eGx_57.1 122 (by decide)).trans u_42
      have u_63 : G_58.1 133 = (G.1 133) := (eGx_57.1 133 (by decide)).trans u_43
      have u_64 : G_58.1 137 = (G.1 137) := (eGx_57.1 137 (by decide)).trans u_44
      have u_65 : G_58.1 105 = 0 := (eGx_57.1 105 (by decide)).trans u_45
      have u_66 : G_58.1 104 = 0 := (eGx_57.1 104 (by decide)).trans u_46
      have w_67 : G_58.2.1 (g.2.2 100) = (G.2.1 (g.2.2 100)) := (eGx_57.2.1 (g.2.2 100) trivial).trans w_47
      have w_68 : G_58.2.1 (g.2.2 121) = (G.2.1 (g.2.2 121)) := (eGx_57.2.1 (g.2.2 121) trivial).trans w_48
      have w_69 : G_58.2.1 (g.2.2 140) = (G.2.1 (g.2.2 140)) := (eGx_57.2.1 (g.2.2 140) trivial).trans w_49
      have w_70 : G_58.2.1 (g.2.2 141) = (G.2.1 (g.2.2 141)) := (eGx_57.2.1 (g.2.2 141) trivial).trans w_50
      have w_71 : G_58.2.1 (g.2.2 111) = (G.2.1 (g.2.2 111)) := (eGx_57.2.1 (g.2.2 111) trivial).trans w_51
      have u_72 : G_58.2.2 111 = some (g.2.2 111) := (eGx_57.2.2 111 (by decide)).trans u_52
      have u_73 : G_58.2.2 112 = some (g.2.2 112) := (eGx_57.2.2 112 (by decide)).trans u_53
      have hH : HT g Ty G_58 H := by rw [← ht, ← eTx_57, eG_58]; exact hB
      have rx_57 : rgI (1) (1) x_57 := hx_57
      have ecx_57 : x_57 = (1 : Int32) := rg_is (n := 1) rx_57 rfl
      rw [ecx_57]
      refine lv_if_eq (tgt := 48) hx hb dX12_alike_41 (by decide) (fun c_74 => ?_) (fun c_74 => ?_)
      · exact rg_noE rl_1 rl_0 c_74 (by decide)
      · refine lv_iconst (v := 1) hx hb dX12_alike_44 (by decide) ?_
        refine lv_goto (tgt := 49) hx hb dX12_alike_45 (by decide) ?_
        exact W.iret hx hb hr (fun t ht hWm => ⟨⟨1, (Ty, G_58), rfl, ⟨rfl, ⟨fr_59, ⟨⟨(by rw [u_60]; exact (rg_w hI.a102 (by decide) (by decide))), (by rw [u_66]; exact (rg_w rl_0 (by decide) (by decide))), (by rw [u_61]; exact (rg_w hI.a113 (by decide) (by decide))), (by rw [u_62]; exact (rg_w hI.a122 (by decide) (by decide))), (by rw [u_63]; exact (rg_w hI.a133 (by decide) (by decide))), (by rw [u_64]; exact (rg_w hI.a137 (by decide) (by decide))), u_72, u_73, (by rw [w_67]; exact (hI.ti.hi (show Bd ≤ Bd + 1000 by omega))), (hI.un2 (show Bd ≤ Bd + 1000 by omega) w_68 u_62), (hI.ke2 (show Bd ≤ Bd + 1000 by omega) w_69 w_70)⟩, hv.symm⟩⟩⟩, by show HT g Ty G_58 t.heap; rw [ht]; exact hH⟩, hS.F ht⟩) hS.2.2 dX12_alike_49
    · rw [if_pos c_32] at hv
      have r_75 : rgI (0) (0) x_30 := rg_w (rg_eq rl_0 c_32) (by decide) (by decide)
      refine lv_iconst (v := (-1)) hx hb dX12_alike_27 (by decide) ?_
      exact W.iret hx hb hr (fun t ht hWm => ⟨⟨(-1), (Ty, G_4), rfl, ⟨rfl, ⟨fr_5, ⟨⟨(by rw [u_6]; exact (rg_w hI.a102 (by decide) (by decide))), (by rw [u_7]; exact (rg_w hI.a104 (by decide) (by decide))), (by rw [u_8]; exact (rg_w hI.a113 (by decide) (by decide))), (by rw [u_9]; exact (rg_w hI.a122 (by decide) (by decide))), (by rw [u_10]; exact (rg_w hI.a133 (by decide) (by decide))), (by rw [u_11]; exact (rg_w hI.a137 (by decide) (by decide))), u_18, u_19, (by rw [w_13]; exact (hI.ti.hi (show Bd ≤ Bd + 1000 by omega))), (hI.un2 (show Bd ≤ Bd + 1000 by omega) w_14 u_9), (hI.ke2 (show Bd ≤ Bd + 1000 by omega) w_15 w_16)⟩, hv.symm⟩⟩⟩, by show HT g Ty G_4 t.heap; rw [ht]; exact hH⟩, hS.F ht⟩) hS.2.2 dX12_alike_28

set_option maxHeartbeats 4000000 in
set_option maxRecDepth 100000 in
theorem c_X12_readPath_z (l : Launch) (g : Gx) (Ty : TyM) (G : Gh) (sz : Nat) (h0 : Nat) (k_h0 : Ty h0 = some (22, 0)) (r6 : G.2.2 106 = some (g.2.2 101)) (z7 : G.1 107 = 0) (z9 : G.1 109 = 0) (z10 : G.1 110 = -1) (z17 : G.1 117 = 0) : Met l yX12_readPath (wsG yX12_readPath cX12_readPath 3 (some .int)) ({ frames := 3, cells := 0, slots := 0, locals := 63 }) (PcT g Ty G sz [.ref h0]) (QwI g Ty sz (fun r u => (rgI (0) (0) r) ∧ u.1 = Ty ∧ FR [109, 110, 117] [(g.2.2 116)] [] G u.2 ∧ (u.2.1 109 = 0 ∧ u.2.1 110 = 0))) 0 0 (AF Ty sz) := by
  refine Met.ofW (cc := cX12_readPath) (maxL := 3) (ret := (some .int)) (by decide) rfl ?_
  intro p e s m args below meth c s₁ B hml hv
  obtain ⟨rfl, hsz, hK, hH⟩ := hv
  subst hsz
  have hx := B.exec
  have hb := B.bytes
  have hr := B.returns
  have hts := atoms_spec (ws := (wsG yX12_readPath cX12_readPath 3 (some .int))) B.pre
  have hG : ∀ w ∈ GW, w.before ([.ref h0] : List Value).toArray s = true := fun w h => hts w (List.mem_cons_of_mem _ h)
  have hown : s.vm.findClass RX12 = some m.cls := findClass_of_methodNamed B.named
  have hlocks := B.notSynchronized
  have hl := lv_entry [.ref h0] (n := 3) (Nat.le_of_ble_eq_true rfl)
  rw [lg_entry_eq]
  generalize (lg_sl [.ref h0] ++ List.replicate (3 - (lg_sl [.ref h0]).length) Slot.unset).toArray = ls at hl ⊢
  have hl : lv_has ls 3 [(0, .ref h0)] := hl
  have hmk : mdK g Ty := mdk_of hH k_h0
  have hS : va_S (AF Ty s.heap.size) s.heap s.heap [] := va_S.rf
  refine lv_aload_n hx hb dX12_readPath_0 rfl (lv_at hl 0 rfl) ?_
  obtain ⟨_, ⟨rfl, t_2, hk_3⟩, o_c_1⟩ := hH h0 _ k_h0
  refine hg_get hx hb hG igX12 hown hK o_c_1 rfl 17 (by decide) (hG _ mw_1301) rfl dX12_readPath_1 ?_
  refine lv_istore_n (lv' := [(1, .int (G.1 117)), (0, .ref h0)]) hx hb dX12_readPath_4 rfl hl (by decide) rfl (fun ls hl => ?_)
  refine lv_iconst (v := 0) hx hb dX12_readPath_5 (by decide) ?_
  refine lv_istore_n (lv' := [(2, .int 0), (1, .int (G.1 117)), (0, .ref h0)]) hx hb dX12_readPath_6 rfl hl (by decide) rfl (fun ls hl => ?_)
  refine lv_iload_n hx hb dX12_readPath_7 rfl (lv_at hl 0 rfl) ?_
  refine lv_bipush (v := 12) hx hb dX12_readPath_8 (by decide) ?_
  refine lv_icmp_ne (tgt := 21) hx hb dX12_readPath_10 (by decide) (fun c_4 => ?_) (fun c_4 => ?_)
  · refine lv_aload_n hx hb dX12_readPath_21 rfl (lv_at hl 2 rfl) ?_
    refine hg_get hx hb hG igX12 hown hK o_c_1 rfl 16 (by decide) (hG _ mw_1300) rfl dX12_readPath_22 ?_
    refine lv_aload_n hx hb dX12_readPath_25 rfl (lv_at hl 2 rfl) ?_
    refine hg_get hx hb hG igX12 hown hK o_c_1 rfl 17 (by decide) (hG _ mw_1301) rfl dX12_readPath_26 ?_
    refine lv_aload_n hx hb dX12_readPath_29 rfl (lv_at hl 2 rfl) ?_
    refine lv_bipush (v := 97) hx hb dX12_readPath_30 (by decide) ?_
    refine lv_iconst (v := 4) hx hb dX12_readPath_32 (by decide) ?_
    refine va_calli (va_runV (As := [.int 97, .int 4]) (rest := [.int (G.1 117), .ref (g.2.2 116)]) ⟨hx, hb, hml, hown, hts⟩ (c_X12_oneOf l g Ty G s.heap.size h0 97 4 k_h0 (rg_w rl_97 (by decide) (by decide)) (rg_w rl_4 (by decide) (by decide)) (g.2.2 101) 80 (G.2.1 (g.2.2 101)) (G.2.1 (g.2.2 115)) (G.1 107) (G.1 108) (G.1 114) 80 (G.1 109) (G.1 110) ⟨r6, hmk.2.1, rfl, (fun _ _ => rfl), rfl, rfl, rfl, rfl, rfl, (rg_w (rg_of0 z7) (by decide) (by decide)), by decide, Or.inl (show ((G.1 107) : Int32).toInt ≤ 80 from (rg_w (a2 := 0) (b2 := 80) (rg_of0 z7) (by decide) (by decide)).2), by decide, by decide, (rg_w (rg_of0 z9) (by decide) (by decide))⟩) (cwV 2 hts (gwV mw_1483 mw_1485 mw_44 mw_88 mw_1486) rfl rfl rfl hv_X12_oneOf ⟨Nat.le_of_ble_eq_true rfl, Nat.le_of_ble_eq_true rfl⟩) ⟨PcT_blind, hg_recv hK o_c_1 rfl, PcT_pre hK hH⟩ rfl rfl hl.1 rfl (lv_room (Nat.le_of_ble_eq_true rfl)) dX12_readPath_33 ⟨Nat.zero_le _, Nat.zero_le _⟩) hS (fun q _ h => AF.mono hS.1 h) (fun q h => AF.mono hS.1 h) (fun x_5 ux_5 t H locs ht hvm hx_5 hB hz hk hS => ?_)
    obtain ⟨eTx_5, eGx_5⟩ := hx_5
    obtain ⟨G_6, eG_6⟩ : ∃ z, z = ux_5.2 := ⟨_, rfl⟩
    rw [← eG_6] at eGx_5
    have pq_7 := one_pr eGx_5 (rg_w (rg_of0 z9) (by decide) (by decide))
    obtain ⟨hr_8, hg_9, hm_10, hq_11⟩ := eGx_5
    have hfr_12 : FR [109, 110] [] [] G G_6 := FR.ps FR.rf hg_9 (by decide) (by decide)
    have fr_13 : FR [109, 110, 117] [(g.2.2 116)] [] G G_6 := FR.tr FR.rf hfr_12 (by decide) (fun _ _ => trivial) (by decide)
    have u_14 : G_6.1 107 = (G.1 107) := (hfr_12.1 107 (by decide))
    have u_15 : G_6.1 108 = (G.1 108) := (hfr_12.1 108 (by decide))
    have u_16 : G_6.1 117 = (G.1 117) := (hfr_12.1 117 (by decide))
    have w_17 : G_6.2.1 (g.2.2 116) = (G.2.1 (g.2.2 116)) := (hfr_12.2.1 (g.2.2 116) trivial)
    have u_18 : G_6.2.2 106 = some (g.2.2 101) := (hfr_12.2.2 106 (by decide)).trans r6
    obtain ⟨xw_19, exw_19⟩ : ∃ z : Int32, G_6.1 110 = z := ⟨_, rfl⟩
    obtain ⟨xa_20, exa_20⟩ : ∃ z : Int32, G_6.1 109 = z := ⟨_, rfl⟩
    have r9_21 : rgI 0 80 xa_20 := by rw [← exa_20, pst109 hg_9]; exact hq_11
    rw [exa_20, exw_19] at pq_7
    have hH : HT g Ty G_6 H := by rw [← ht, ← eTx_5, eG_6]; exact hB
    have oz_22 := one_z hg_9 (rg_of0 z7) (rg_of0 z9) (rg_m1 z10)
    have zr_23 : rgI 0 0 xw_19 := rg_of0 (exw_19.symm.trans oz_22.1)
    have zr_24 : rgI 0 0 xa_20 := rg_of0 (exa_20.symm.trans oz_22.2)
    refine lv_i2b hx hb dX12_readPath_36 rfl ?_
    refine lv_topi (fun x_25 ex_25 => ?_)
    obtain ⟨_, rfl, o_c_26⟩ := hH (g.2.2 116) _ hk_3.2.2.2.2.1
    have o_c_26 : va_at g.1 vwCl ((g.2.2 116), .inl (g.2.1 0, 160, .inl (G_6.2.1 (g.2.2 116)))) H := o_c_26
    refine hg_bast hx hb hK hS o_c_26 (AF.of hk_3.2.2.2.2.1) (rg_in (n := 160) (rg_of0 z17) (by decide) (by decide)) dX12_readPath_37 (fun H locs o_c_26 hz oq hS => ?_)
    obtain ⟨G_27, eG_27⟩ : ∃ z : Gh, z = aset G_6 (g.2.2 116) (upd (G_6.2.1 (g.2.2 116)) ((G.1 117) : Int32).toNatClampNeg (vp_nar .byte x_25)) := ⟨_, rfl⟩
    have hH : HT g Ty G_27 H := by rw [eG_27]; exact HT.putA (upd (G_6.2.1 (g.2.2 116)) ((G.1 117) : Int32).toNatClampNeg (vp_nar .byte x_25)) hH hk_3.2.2.2.2.1 cf31 o_c_26 oq
    obtain ⟨f_28, ef_28⟩ : ∃ z : Nat → Int32, z = (upd (G.2.1 (g.2.2 116)) ((G.1 117) : Int32).toNatClampNeg (vp_nar .byte x_25)) := ⟨_, rfl⟩
    have eaf_28 : G_27 = aset G_6 (g.2.2 116) f_28 := by rw [eG_27, ef_28, w_17]
    have fr_29 : FR [109, 110, 117] [(g.2.2 116)] [] G G_27 := FR.a fr_13 eaf_28 (fun b h => h.1)
    have u_30 : G_27.1 107 = (G.1 107) := by rw [eaf_28]; exact u_14
    have u_31 : G_27.1 108 = (G.1 108) := by rw [eaf_28]; exact u_15
    have u_32 : G_27.1 117 = (G.1 117) := by rw [eaf_28]; exact u_16
    have u_33 : G_27.1 110 = xw_19 := by rw [eaf_28]; exact exw_19
    have u_34 : G_27.1 109 = xa_20 := by rw [eaf_28]; exact exa_20
    have w_35 : G_27.2.1 (g.2.2 116) = f_28 := by rw [eaf_28]; exact aset_eq
    have u_36 : G_27.2.2 106 = some (g.2.2 101) := by rw [eaf_28]; exact u_18
    clear oq hz
    refine lv_aload_n hx hb dX12_readPath_38 rfl (lv_at hl 2 rfl) ?_
    refine lv_dup hx hb dX12_readPath_39 rfl ?_
    obtain ⟨_, ⟨rfl, t_38, hk_39⟩, o_c_37⟩ := hH h0 _ k_h0
    refine hg_get hx hb hG igX12 hown hK o_c_37 rfl 17 (by decide) (hG _ mw_1301) rfl dX12_readPath_40 ?_
    rw [u_32]
    refine lv_iconst (v := 1) hx hb dX12_readPath_43 (by decide) ?_
    refine lv_iadd hx hb dX12_readPath_44 ?_
    refine lv_topi (fun x_40 ex_40 => ?_)
    have rx_40 : rgI (1) (1) x_40 := by rw [ex_40]; exact rg_w (rg_add (rg_of0 z17) rl_1 (by decide) (by decide)) (by decide) (by decide)
    have qx_40 : x_40.toInt = ((G.1 117) : Int32).toInt + 1 := by rw [ex_40]; exact rg_addE (rg_of0 z17) rl_1 (by decide) (by decide)
    refine hg_put (ty := .int) hx hb hG igX12 tyX12 tyX12_ok nmX12 hown hK hS o_c_37 (AF.of k_h0) rfl 17 (by decide) (hG _ mw_1301) rfl (by decide +kernel) rfl rfl (Nat.le_of_ble_eq_true rfl) dX12_readPath_45 (fun H locs o_c_37 hz oq hS => ?_)
    obtain ⟨G_41, eG_41⟩ : ∃ z : Gh, z = gset G_27 117 x_40 := ⟨_, rfl⟩
    have hH : HT g Ty G_41 H := by rw [eG_41]; exact HT.putN 117 x_40 hH k_h0 ⟨rfl, t_38, hk_39⟩ o_c_37 oq (Or.inr (Or.inr (Or.inr (Or.inr (Or.inr ⟨by decide, t_38⟩)))))
    have fr_42 : FR [109, 110, 117] [(g.2.2 116)] [] G G_41 := FR.n fr_29 eG_41 (by decide)
    have u_43 : G_41.1 107 = (G.1 107) := by rw [eG_41]; exact (gs_ne (by decide)).trans u_30
    have u_44 : G_41.1 108 = (G.1 108) := by rw [eG_41]; exact (gs_ne (by decide)).trans u_31
    have u_45 : G_41.1 110 = xw_19 := by rw [eG_41]; exact (gs_ne (by decide)).trans u_33
    have u_46 : G_41.1 109 = xa_20 := by rw [eG_41]; exact (gs_ne (by decide)).trans u_34
    have u_47 : G_41.1 117 = x_40 := by rw [eG_41]; exact gs_eq
    have w_48 : G_41.2.1 (g.2.2 116) = f_28 := by rw [eG_41]; exact w_35
    have u_49 : G_41.2.2 106 = some (g.2.2 101) := by rw [eG_41]; exact u_36
    clear oq hz
    obtain ⟨x_50, ex_50⟩ : ∃ y : Int32, y = 0 + 1 := ⟨_, rfl⟩
    have rx_50 : rgI (1) (1) x_50 := by rw [ex_50]; exact rg_w (rg_add rl_0 rl_1 (by decide) (by decide)) (by decide) (by decide)
    have qx_50 : x_50.toInt = (0 : Int32).toInt + 1 := by rw [ex_50]; exact rg_addE rl_0 rl_1 (by decide) (by decide)
    refine lv_iinc (v := x_50) (lv' := [(2, .int x_50), (1, .int (G.1 117)), (0, .ref h0)]) hx hb dX12_readPath_48 hl (k := 0) rfl (by rw [ex_50]; rfl) (by decide) rfl (fun ls hl => ?_)
    refine lv_aload_n hx hb dX12_readPath_51 rfl (lv_at hl 2 rfl) ?_
    obtain ⟨_, ⟨rfl, t_52, hk_53⟩, o_c_51⟩ := hH h0 _ k_h0
    refine vp_callSi (W.runV (As := []) (rest := []) ⟨hx, hb, hml, hown, hts⟩ (c_X12_fine_p l g Ty G_41 h0 k_h0 (g.2.2 101) 80 (G_41.2.1 (g.2.2 101)) (G_41.2.1 (g.2.2 115)) (G.1 107) (G.1 108) (G_41.1 114) 80 xa_20 xw_19 ⟨u_49, hmk.2.1, rfl, (fun _ _ => rfl), u_43, u_44, rfl, u_46, u_45, (rg_w (rg_of0 z7) (by decide) (by decide)), by decide, Or.inl (show ((G.1 107) : Int32).toInt ≤ 80 from (rg_w (a2 := 0) (b2 := 80) (rg_of0 z7) (by decide) (by decide)).2), by decide, by decide, (rg_w zr_24 (by decide) (by decide))⟩) (cwV 0 hts (gwV mw_1463 mw_1465 mw_39 mw_88 mw_1466) rfl rfl rfl hv_X12_fine ⟨Nat.le_of_ble_eq_true rfl, Nat.le_of_ble_eq_true rfl⟩) ⟨PcH_blind, hg_recv hK o_c_51 rfl, PcH_pre hK hH⟩ rfl rfl hl.1 rfl (lv_room (Nat.le_of_ble_eq_true rfl)) dX12_readPath_52 ⟨Nat.zero_le _, Nat.zero_le _⟩) (fun x_54 hx_54 => ?_)
    have rx_54 : rgI (0) (1) x_54 := hx_54.1
    have zr_55 : rgI (0) (0) x_54 := fin_z hx_54.2 zr_23
    refine lv_if_eq (tgt := 72) hx hb dX12_readPath_55 (by decide) (fun c_56 => ?_) (fun c_56 => ?_)
    · refine lv_aload_n hx hb dX12_readPath_72 rfl (lv_at hl 2 rfl) ?_
      refine hg_get hx hb hG igX12 hown hK o_c_51 rfl 16 (by decide) (hG _ mw_1300) rfl dX12_readPath_73 ?_
      refine lv_aload_n hx hb dX12_readPath_76 rfl (lv_at hl 2 rfl) ?_
      refine hg_get hx hb hG igX12 hown hK o_c_51 rfl 17 (by decide) (hG _ mw_1301) rfl dX12_readPath_77 ?_
      rw [u_47]
      refine lv_iconst (v := 4) hx hb dX12_readPath_80 (by decide) ?_
      obtain ⟨_, rfl, o_c_57⟩ := hH (g.2.2 116) _ hk_53.2.2.2.2.1
      have o_c_57 : va_at g.1 vwCl ((g.2.2 116), .inl (g.2.1 0, 160, .inl (G_41.2.1 (g.2.2 116)))) H := o_c_57
      refine hg_bast hx hb hK hS o_c_57 (AF.of hk_53.2.2.2.2.1) (rg_in (n := 160) rx_40 (by decide) (by decide)) dX12_readPath_81 (fun H locs o_c_57 hz oq hS => ?_)
      obtain ⟨G_58, eG_58⟩ : ∃ z : Gh, z = aset G_41 (g.2.2 116) (upd (G_41.2.1 (g.2.2 116)) (x_40 : Int32).toNatClampNeg (vp_nar .byte 4)) := ⟨_, rfl⟩
      have hH : HT g Ty G_58 H := by rw [eG_58]; exact HT.putA (upd (G_41.2.1 (g.2.2 116)) (x_40 : Int32).toNatClampNeg (vp_nar .byte 4)) hH hk_53.2.2.2.2.1 cf31 o_c_57 oq
      obtain ⟨f_59, ef_59⟩ : ∃ z : Nat → Int32, z = (upd f_28 (x_40 : Int32).toNatClampNeg (vp_nar .byte 4)) := ⟨_, rfl⟩
      have eaf_59 : G_58 = aset G_41 (g.2.2 116) f_59 := by rw [eG_58, ef_59, w_48]
      have fr_60 : FR [109, 110, 117] [(g.2.2 116)] [] G G_58 := FR.a fr_42 eaf_59 (fun b h => h.1)
      have u_61 : G_58.1 107 = (G.1 107) := by rw [eaf_59]; exact u_43
      have u_62 : G_58.1 108 = (G.1 108) := by rw [eaf_59]; exact u_44
      have u_63 : G_58.1 110 = xw_19 := by rw [eaf_59]; exact u_45
      have u_64 : G_58.1 109 = xa_20 := by rw [eaf_59]; exact u_46
      have u_65 : G_58.1 117 = x_40 := by rw [eaf_59]; exact u_47
      have w_66 : G_58.2.1 (g.2.2 116) = f_59 := by rw [eaf_59]; exact aset_eq
      have u_67 : G_58.2.2 106 = some (g.2.2 101) := by rw [eaf_59]; exact u_49
      clear oq hz
      refine lv_aload_n hx hb dX12_readPath_82 rfl (lv_at hl 2 rfl) ?_
      refine lv_dup hx hb dX12_readPath_83 rfl ?_
      obtain ⟨_, ⟨rfl, t_69, hk_70⟩, o_c_68⟩ := hH h0 _ k_h0
      refine hg_get hx hb hG igX12 hown hK o_c_68 rfl 17 (by decide) (hG _ mw_1301) rfl dX12_readPath_84 ?_
      rw [u_65]
      refine lv_iconst (v := 1) hx hb dX12_readPath_87 (by decide) ?_
      refine lv_iadd hx hb dX12_readPath_88 ?_
      refine lv_topi (fun x_71 ex_71 => ?_)
      have rx_71 : rgI (2) (2) x_71 := by rw [ex_71]; exact rg_w (rg_add rx_40 rl_1 (by decide) (by decide)) (by decide) (by decide)
      have qx_71 : x_71.toInt = (x_40 : Int32).toInt + 1 := by rw [ex_71]; exact rg_addE rx_40 rl_1 (by decide) (by decide)
      refine hg_put (ty := .int) hx hb hG igX12 tyX12 tyX12_ok nmX12 hown hK hS o_c_68 (AF.of k_h0) rfl 17 (by decide) (hG _ mw_1301) rfl (by decide +kernel) rfl rfl (Nat.le_of_ble_eq_true rfl) dX12_readPath_89 (fun H locs o_c_68 hz oq hS => ?_)
      obtain ⟨G_72, eG_72⟩ : ∃ z : Gh, z = gset G_58 117 x_71 := ⟨_, rfl⟩
      have hH : HT g Ty G_72 H := by rw [eG_72]; exact HT.putN 117 x_71 hH k_h0 ⟨rfl, t_69, hk_70⟩ o_c_68 oq (Or.inr (Or.inr (Or.inr (Or.inr (Or.inr ⟨by decide, t_69⟩)))))
      have fr_73 : FR [109, 110, 117] [(g.2.2 116)] [] G G_72 := FR.n fr_60 eG_72 (by decide)
      have u_74 : G_72.1 107 = (G.1 107) := by rw [eG_72]; exact (gs_ne (by decide)).trans u_61
      have u_75 : G_72.1 108 = (G.1 108) := by rw [eG_72]; exact (gs_ne (by decide)).trans u_62
      have u_76 : G_72.1 110 = xw_19 := by rw [eG_72]; exact (gs_ne (by decide)).trans u_63
      have u_77 : G_72.1 109 = xa_20 := by rw [eG_72]; exact (gs_ne (by decide)).trans u_64
      have u_78 : G_72.1 117 = x_71 := by rw [eG_72]; exact gs_eq
      have w_79 : G_72.2.1 (g.2.2 116) = f_59 := by rw [eG_72]; exact w_66
      have u_80 : G_72.2.2 106 = some (g.2.2 101) := by rw [eG_72]; exact u_67
      clear oq hz
      refine lv_iload_n hx hb dX12_readPath_92 rfl (lv_at hl 1 rfl) ?_
      exact W.iret hx hb hr (fun t ht hWm => ⟨⟨(G.1 117), (Ty, G_72), rfl, ⟨rg_w (rg_of0 z17) (by decide) (by decide), ⟨rfl, ⟨fr_73, ⟨(u_77.trans (rg_is (n := 0) zr_24 rfl)), (u_76.trans (rg_is (n := 0) zr_23 rfl))⟩⟩⟩⟩, by show HT g Ty G_72 t.heap; rw [ht]; exact hH⟩, hS.F ht⟩) hS.2.2 dX12_readPath_93
    · exact rg_clash (rg_neL zr_55 rl_0 c_56) (zr_55) (by decide)
  · exact rg_noE rl_0 rl_12 c_4 (by decide)

set_option maxHeartbeats 4000000 in
set_option maxRecDepth 100000 in
theorem c_X12_place_z (l : Launch) (g : Gx) (Ty : TyM) (G : Gh) (sz : Nat) (h0 : Nat) (k_h0 : Ty h0 = some (22, 0)) (Bd : Int) (hI : OI g Bd G) (hBd : Bd ≤ 1900000) (hLD : LD g) (h102 : G.1 102 = 0) : Met l yX12_place (wsG yX12_place cX12_place 3 (some .int)) ({ frames := 4, cells := 0, slots := 0, locals := 85 }) (PcT g Ty G sz [.ref h0]) (QwI g Ty sz (fun r u => (rgI (-1) (-1) r) ∧ u.1 = Ty ∧ FR [102, 104, 105, 107, 108, 109, 110, 117, 118, 119, 120] [(g.2.2 116)] [106] G u.2 ∧ OI g (Bd + 1000) u.2)) 0 0 (AF Ty sz) := by
  refine Met.ofW (cc := cX12_place) (maxL := 3) (ret := (some .int)) (by decide) rfl ?_
  intro p e s m args below meth c s₁ B hml hv
  obtain ⟨rfl, hsz, hK, hH⟩ := hv
  subst hsz
  have hx := B.exec
  have hb := B.bytes
  have hr := B.returns
  have hts := atoms_spec (ws := (wsG yX12_place cX12_place 3 (some .int))) B.pre
  have hG : ∀ w ∈ GW, w.before ([.ref h0] : List Value).toArray s = true := fun w h => hts w (List.mem_cons_of_mem _ h)
  have hown : s.vm.findClass RX12 = some m.cls := findClass_of_methodNamed B.named
  have hlocks := B.notSynchronized
  have hl := lv_entry [.ref h0] (n := 3) (Nat.le_of_ble_eq_true rfl)
  rw [lg_entry_eq]
  generalize (lg_sl [.ref h0] ++ List.replicate (3 - (lg_sl [.ref h0]).length) Slot.unset).toArray = ls at hl ⊢
  have hl : lv_has ls 3 [(0, .ref h0)] := hl
  have hmk : mdK g Ty := mdk_of hH k_h0
  have hS : va_S (AF Ty s.heap.size) s.heap s.heap [] := va_S.rf
  obtain ⟨⟨σ0, hTS0⟩, h10, hBB0⟩ := id hI.ti
  obtain ⟨ρ, hT⟩ := hTS0.1
  refine lv_aload_n hx hb dX12_place_0 rfl (lv_at hl 0 rfl) ?_
  refine lv_iconst (v := 0) hx hb dX12_place_1 (by decide) ?_
  obtain ⟨_, ⟨rfl, t_2, hk_3⟩, o_c_1⟩ := hH h0 _ k_h0
  refine hg_put (ty := .int) hx hb hG igX12 tyX12 tyX12_ok nmX12 hown hK hS o_c_1 (AF.of k_h0) rfl 5 (by decide) (hG _ mw_1289) rfl (by decide +kernel) rfl rfl (Nat.le_of_ble_eq_true rfl) dX12_place_2 (fun H locs o_c_1 hz oq hS => ?_)
  obtain ⟨G_4, eG_4⟩ : ∃ z : Gh, z = gset G 105 0 := ⟨_, rfl⟩
  have hH : HT g Ty G_4 H := by rw [eG_4]; exact HT.putN 105 0 hH k_h0 ⟨rfl, t_2, hk_3⟩ o_c_1 oq (Or.inr (Or.inr (Or.inr (Or.inr (Or.inr ⟨by decide, t_2⟩)))))
  have fr_5 : FR [102, 104, 105, 107, 108, 109, 110, 117, 118, 119, 120] [(g.2.2 116)] [106] G G_4 := FR.n FR.rf eG_4 (by decide)
  have u_6 : G_4.1 102 = 0 := by rw [eG_4]; exact (gs_ne (by decide)).trans h102
  have u_7 : G_4.1 104 = (G.1 104) := by rw [eG_4]; exact (gs_ne (by decide))
  have u_8 : G_4.1 113 = (G.1 113) := by rw [eG_4]; exact (gs_ne (by decide))
  have u_9 : G_4.1 122 = (G.1 122) := by rw [eG_4]; exact (gs_ne (by decide))
  have u_10 : G_4.1 133 = (G.1 133) := by rw [eG_4]; exact (gs_ne (by decide))
  have u_11 : G_4.1 137 = (G.1 137) := by rw [eG_4]; exact (gs_ne (by decide))
  have u_12 : G_4.1 105 = 0 := by rw [eG_4]; exact gs_eq
  have w_13 : G_4.2.1 (g.2.2 100) = (G.2.1 (g.2.2 100)) := by rw [eG_4]; exact rfl
  have w_14 : G_4.2.1 (g.2.2 121) = (G.2.1 (g.2.2 121)) := by rw [eG_4]; exact rfl
  have w_15 : G_4.2.1 (g.2.2 140) = (G.2.1 (g.2.2 140)) := by rw [eG_4]; exact rfl
  have w_16 : G_4.2.1 (g.2.2 141) = (G.2.1 (g.2.2 141)) := by rw [eG_4]; exact rfl
  have w_17 : G_4.2.1 (g.2.2 111) = (G.2.1 (g.2.2 111)) := by rw [eG_4]; exact rfl
  have w_18 : G_4.2.1 (g.2.2 116) = (G.2.1 (g.2.2 116)) := by rw [eG_4]; exact rfl
  have u_19 : G_4.2.2 111 = some (g.2.2 111) := by rw [eG_4]; exact hI.r111
  have u_20 : G_4.2.2 112 = some (g.2.2 112) := by rw [eG_4]; exact hI.r112
  clear oq hz
  refine lv_aload_n hx hb dX12_place_5 rfl (lv_at hl 0 rfl) ?_
  refine lv_bipush (v := 80) hx hb dX12_place_6 (by decide) ?_
  obtain ⟨_, ⟨rfl, t_22, hk_23⟩, o_c_21⟩ := hH h0 _ k_h0
  refine va_callv (va_runV (As := [.int 80]) (rest := []) ⟨hx, hb, hml, hown, hts⟩ (c_X12_beginText l g Ty G_4 H.size h0 80 k_h0 (by rw [u_6]; exact (rg_w rl_0 (by decide) (by decide)))) (cwV 1 hts (gwV mw_1435 mw_1437 mw_32 mw_88 mw_1438) rfl rfl rfl hv_X12_beginText ⟨Nat.le_of_ble_eq_true rfl, Nat.le_of_ble_eq_true rfl⟩) ⟨PcT_blind, hg_recv hK o_c_21 rfl, PcT_pre hK hH⟩ rfl rfl hl.1 rfl (lv_room (Nat.le_of_ble_eq_true rfl)) dX12_place_8 ⟨Nat.zero_le _, Nat.zero_le _⟩) hS (fun q _ h => AF.mono hS.1 h) (fun q h => AF.mono hS.1 h) (fun ux_24 t H locs ht hvm hx_24 hB hz hk hS => ?_)
  obtain ⟨eTx_24, eGx_24⟩ := hx_24
  obtain ⟨G_25, eG_25⟩ : ∃ z, z = ux_24.2 := ⟨_, rfl⟩
  rw [← eG_25] at eGx_24
  obtain ⟨hfr_26, hex_27⟩ := eGx_24
  have fr_28 : FR [102, 104, 105, 107, 108, 109, 110, 117, 118, 119, 120] [(g.2.2 116)] [106] G G_25 := FR.tr fr_5 hfr_26 (by decide) (fun _ _ => trivial) (by decide)
  have u_29 : G_25.1 104 = (G.1 104) := (hfr_26.1 104 (by decide)).trans u_7
  have u_30 : G_25.1 113 = (G.1 113) := (hfr_26.1 113 (by decide)).trans u_8
  have u_31 : G_25.1 122 = (G.1 122) := (hfr_26.1 122 (by decide)).trans u_9
  have u_32 : G_25.1 133 = (G.1 133) := (hfr_26.1 133 (by decide)).trans u_10
  have u_33 : G_25.1 137 = (G.1 137) := (hfr_26.1 137 (by decide)).trans u_11
  have u_34 : G_25.1 105 = 0 := (hfr_26.1 105 (by decide)).trans u_12
  have w_35 : G_25.2.1 (g.2.2 100) = (G.2.1 (g.2.2 100)) := (hfr_26.2.1 (g.2.2 100) trivial).trans w_13
  have w_36 : G_25.2.1 (g.2.2 121) = (G.2.1 (g.2.2 121)) := (hfr_26.2.1 (g.2.2 121) trivial).trans w_14
  have w_37 : G_25.2.1 (g.2.2 140) = (G.2.1 (g.2.2 140)) := (hfr_26.2.1 (g.2.2 140) trivial).trans w_15
  have w_38 : G_25.2.1 (g.2.2 141) = (G.2.1 (g.2.2 141)) := (hfr_26.2.1 (g.2.2 141) trivial).trans w_16
  have w_39 : G_25.2.1 (g.2.2 111) = (G.2.1 (g.2.2 111)) := (hfr_26.2.1 (g.2.2 111) trivial).trans w_17
  have w_40 : G_25.2.1 (g.2.2 116) = (G.2.1 (g.2.2 116)) := (hfr_26.2.1 (g.2.2 116) trivial).trans w_18
  have u_41 : G_25.2.2 111 = some (g.2.2 111) := (hfr_26.2.2 111 (by decide)).trans u_19
  have u_42 : G_25.2.2 112 = some (g.2.2 112) := (hfr_26.2.2 112 (by decide)).trans u_20
  have u_43 : G_25.2.2 106 = some (g.2.2 101) := hex_27.1
  have u_44 : G_25.1 107 = 0 := hex_27.2.1.trans u_6
  have u_45 : G_25.1 108 = 80 := hex_27.2.2.1
  have u_46 : G_25.1 109 = 0 := hex_27.2.2.2.1
  have u_47 : G_25.1 110 = (-1) := hex_27.2.2.2.2.1
  have u_48 : G_25.1 102 = 0 := hex_27.2.2.2.2.2
  have hH : HT g Ty G_25 H := by rw [← ht, ← eTx_24, eG_25]; exact hB
  refine lv_aload_n hx hb dX12_place_11 rfl (lv_at hl 0 rfl) ?_
  refine lv_iconst (v := 0) hx hb dX12_place_12 (by decide) ?_
  obtain ⟨_, ⟨rfl, t_50, hk_51⟩, o_c_49⟩ := hH h0 _ k_h0
  refine hg_put (ty := .int) hx hb hG igX12 tyX12 tyX12_ok nmX12 hown hK hS o_c_49 (AF.of k_h0) rfl 17 (by decide) (hG _ mw_1301) rfl (by decide +kernel) rfl rfl (Nat.le_of_ble_eq_true rfl) dX12_place_13 (fun H locs o_c_49 hz oq hS => ?_)
  obtain ⟨G_52, eG_52⟩ : ∃ z : Gh, z = gset G_25 117 0 := ⟨_, rfl⟩
  have hH : HT g Ty G_52 H := by rw [eG_52]; exact HT.putN 117 0 hH k_h0 ⟨rfl, t_50, hk_51⟩ o_c_49 oq (Or.inr (Or.inr (Or.inr (Or.inr (Or.inr ⟨by decide, t_50⟩)))))
  have fr_53 : FR [102, 104, 105, 107, 108, 109, 110, 117, 118, 119, 120] [(g.2.2 116)] [106] G G_52 := FR.n fr_28 eG_52 (by decide)
  have u_54 : G_52.1 104 = (G.1 104) := by rw [eG_52]; exact (gs_ne (by decide)).trans u_29
  have u_55 : G_52.1 113 = (G.1 113) := by rw [eG_52]; exact (gs_ne (by decide)).trans u_30
  have u_56 : G_52.1 122 = (G.1 122) := by rw [eG_52]; exact (gs_ne (by decide)).trans u_31
  have u_57 : G_52.1 133 = (G.1 133) := by rw [eG_52]; exact (gs_ne (by decide)).trans u_32
  have u_58 : G_52.1 137 = (G.1 137) := by rw [eG_52]; exact (gs_ne (by decide)).trans u_33
  have u_59 : G_52.1 105 = 0 := by rw [eG_52]; exact (gs_ne (by decide)).trans u_34
  have u_60 : G_52.1 107 = 0 := by rw [eG_52]; exact (gs_ne (by decide)).trans u_44
  have u_61 : G_52.1 108 = 80 := by rw [eG_52]; exact (gs_ne (by decide)).trans u_45
  have u_62 : G_52.1 109 = 0 := by rw [eG_52]; exact (gs_ne (by decide)).trans u_46
  have u_63 : G_52.1 110 = (-1) := by rw [eG_52]; exact (gs_ne (by decide)).trans u_47
  have u_64 : G_52.1 102 = 0 := by rw [eG_52]; exact (gs_ne (by decide)).trans u_48
  have u_65 : G_52.1 117 = 0 := by rw [eG_52]; exact gs_eq
  have w_66 : G_52.2.1 (g.2.2 100) = (G.2.1 (g.2.2 100)) := by rw [eG_52]; exact w_35
  have w_67 : G_52.2.1 (g.2.2 121) = (G.2.1 (g.2.2 121)) := by rw [eG_52]; exact w_36
  have w_68 : G_52.2.1 (g.2.2 140) = (G.2.1 (g.2.2 140)) := by rw [eG_52]; exact w_37
  have w_69 : G_52.2.1 (g.2.2 141) = (G.2.1 (g.2.2 141)) := by rw [eG_52]; exact w_38
  have w_70 : G_52.2.1 (g.2.2 111) = (G.2.1 (g.2.2 111)) := by rw [eG_52]; exact w_39
  have w_71 : G_52.2.1 (g.2.2 116) = (G.2.1 (g.2.2 116)) := by rw [eG_52]; exact w_40
  have u_72 : G_52.2.2 111 = some (g.2.2 111) := by rw [eG_52]; exact u_41
  have u_73 : G_52.2.2 112 = some (g.2.2 112) := by rw [eG_52]; exact u_42
  have u_74 : G_52.2.2 106 = some (g.2.2 101) := by rw [eG_52]; exact u_43
  clear oq hz
  refine lv_aload_n hx hb dX12_place_16 rfl (lv_at hl 0 rfl) ?_
  obtain ⟨_, ⟨rfl, t_76, hk_77⟩, o_c_75⟩ := hH h0 _ k_h0
  refine va_calli (va_runV (As := []) (rest := []) ⟨hx, hb, hml, hown, hts⟩ (c_X12_readPath_z l g Ty G_52 H.size h0 k_h0 u_74 u_60 u_62 u_63 u_65) (cwV 0 hts (gwV mw_1498 mw_1500 mw_46 mw_88 mw_1501) rfl rfl rfl hv_X12_readPath ⟨Nat.le_of_ble_eq_true rfl, Nat.le_of_ble_eq_true rfl⟩) ⟨PcT_blind, hg_recv hK o_c_75 rfl, PcT_pre hK hH⟩ rfl rfl hl.1 rfl (lv_room (Nat.le_of_ble_eq_true rfl)) dX12_place_17 ⟨Nat.zero_le _, Nat.zero_le _⟩) hS (fun q _ h => AF.mono hS.1 h) (fun q h => AF.mono hS.1 h) (fun x_78 ux_78 t H locs ht hvm hx_78 hB hz hk hS => ?_)
  obtain ⟨hx_78, fx_78⟩ := hx_78
  obtain ⟨eTx_78, eGx_78⟩ := fx_78
  obtain ⟨G_79, eG_79⟩ : ∃ z, z = ux_78.2 := ⟨_, rfl⟩
  rw [← eG_79] at eGx_78
  obtain ⟨hfr_80, hex_81⟩ := eGx_78
  have fr_82 : FR [102, 104, 105, 107, 108, 109, 110, 117, 118, 119, 120] [(g.2.2 116)] [106] G G_79 := FR.tr fr_53 hfr_80 (by decide) (fun b h => ⟨h.1, trivial⟩) (by decide)
  have u_83 : G_79.1 104 = (G.1 104) := (hfr_80.1 104 (by decide)).trans u_54
  have u_84 : G_79.1 113 = (G.1 113) := (hfr_80.1 113 (by decide)).trans u_55
  have u_85 : G_79.1 122 = (G.1 122) := (hfr_80.1 122 (by decide)).trans u_56
  have u_86 : G_79.1 133 = (G.1 133) := (hfr_80.1 133 (by decide)).trans u_57
  have u_87 : G_79.1 137 = (G.1 137) := (hfr_80.1 137 (by decide)).trans u_58
  have u_88 : G_79.1 105 = 0 := (hfr_80.1 105 (by decide)).trans u_59
  have u_89 : G_79.1 107 = 0 := (hfr_80.1 107 (by decide)).trans u_60
  have u_90 : G_79.1 108 = 80 := (hfr_80.1 108 (by decide)).trans u_61
  have u_91 : G_79.1 102 = 0 := (hfr_80.1 102 (by decide)).trans u_64
  have w_92 : G_79.2.1 (g.2.2 100) = (G.2.1 (g.2.2 100)) := (hfr_80.2.1 (g.2.2 100) ⟨(ne_kd hmk.1 hmk.2.2.2.2.1 (by decide)), trivial⟩).trans w_66
  have w_93 : G_79.2.1 (g.2.2 121) = (G.2.1 (g.2.2 121)) := (hfr_80.2.1 (g.2.2 121) ⟨(ne_kd hmk.2.2.2.2.2.1 hmk.2.2.2.2.1 (by decide)), trivial⟩).trans w_67
  have w_94 : G_79.2.1 (g.2.2 140) = (G.2.1 (g.2.2 140)) := (hfr_80.2.1 (g.2.2 140) ⟨(ne_kd hmk.2.2.2.2.2.2.2.2.2.2.2.2.2.2.2.2.2.2.1 hmk.2.2.2.2.1 (by decide)), trivial⟩).trans w_68
  have w_95 : G_79.2.1 (g.2.2 141) = (G.2.1 (g.2.2 141)) := (hfr_80.2.1 (g.2.2 141) ⟨(ne_kd hmk.2.2.2.2.2.2.2.2.2.2.2.2.2.2.2.2.2.2.2.1 hmk.2.2.2.2.1 (by decide)), trivial⟩).trans w_69
  have w_96 : G_79.2.1 (g.2.2 111) = (G.2.1 (g.2.2 111)) := (hfr_80.2.1 (g.2.2 111) ⟨(ne_kd hmk.2.2.2.2.2.2.2.2.2.2.2.2.2.2.2.2.2.2.2.2.1 hmk.2.2.2.2.1 (by decide)), trivial⟩).trans w_70
  have u_97 : G_79.2.2 111 = some (g.2.2 111) := (hfr_80.2.2 111 (by decide)).trans u_72
  have u_98 : G_79.2.2 112 = some (g.2.2 112) := (hfr_80.2.2 112 (by decide)).trans u_73
  have u_99 : G_79.2.2 106 = some (g.2.2 101) := (hfr_80.2.2 106 (by decide)).trans u_74
  obtain ⟨f_100, ef_100⟩ : ∃ z : Nat → Int32, G_79.2.1 (g.2.2 116) = z := ⟨_, rfl⟩
  have hH : HT g Ty G_79 H := by rw [← ht, ← eTx_78, eG_79]; exact hB
  have rx_78 : rgI (0) (0) x_78 := hx_78
  refine lv_istore_n (lv' := [(1, .int x_78), (0, .ref h0)]) hx hb dX12_place_20 rfl hl (by decide) rfl (fun ls hl => ?_)
  refine lv_aload_n hx hb dX12_place_21 rfl (lv_at hl 1 rfl) ?_
  obtain ⟨_, ⟨rfl, t_102, hk_103⟩, o_c_101⟩ := hH h0 _ k_h0
  refine va_calli (va_runV (As := []) (rest := []) ⟨hx, hb, hml, hown, hts⟩ (c_X12_wasRight l g Ty G_79 H.size h0 k_h0 (g.2.2 101) 80 (G_79.2.1 (g.2.2 101)) (G_79.2.1 (g.2.2 115)) 0 80 (G_79.1 114) 80 0 0 ⟨u_99, hmk.2.1, rfl, (fun _ _ => rfl), u_89, u_90, rfl, hex_81.1, hex_81.2, (rg_w rl_0 (by decide) (by decide)), by decide, Or.inl (show (0 : Int32).toInt ≤ 80 from (rg_w (a2 := 0) (b2 := 80) rl_0 (by decide) (by decide)).2), by decide, by decide, (rg_w rl_0 (by decide) (by decide))⟩) (cwV 0 hts (gwV mw_1490 mw_1492 mw_45 mw_88 mw_1493) rfl rfl rfl hv_X12_wasRight ⟨Nat.le_of_ble_eq_true rfl, Nat.le_of_ble_eq_true rfl⟩) ⟨PcT_blind, hg_recv hK o_c_101 rfl, PcT_pre hK hH⟩ rfl rfl hl.1 rfl (lv_room (Nat.le_of_ble_eq_true rfl)) dX12_place_22 ⟨Nat.zero_le _, Nat.zero_le _⟩) hS (fun q _ h => AF.mono hS.1 h) (fun q h => AF.mono hS.1 h) (fun x_104 ux_104 t H locs ht hvm hx_104 hB hz hk hS => ?_)
  obtain ⟨eTx_104, eGx_104⟩ := hx_104
  obtain ⟨G_105, eG_105⟩ : ∃ z, z = ux_104.2 := ⟨_, rfl⟩
  rw [← eG_105] at eGx_104
  have pq_106 := wsr_pr eGx_104 (rg_w rl_0 (by decide) (by decide))
  obtain ⟨hr_107, hg_108, hm_109, hq_110⟩ := eGx_104
  have hfr_111 : FR [109, 110] [] [] G_79 G_105 := FR.ps FR.rf hg_108 (by decide) (by decide)
  have fr_112 : FR [102, 104, 105, 107, 108, 109, 110, 117, 118, 119, 120] [(g.2.2 116)] [106] G G_105 := FR.tr fr_82 hfr_111 (by decide) (fun _ _ => trivial) (by decide)
  have u_113 : G_105.1 104 = (G.1 104) := (hfr_111.1 104 (by decide)).trans u_83
  have u_114 : G_105.1 113 = (G.1 113) := (hfr_111.1 113 (by decide)).trans u_84
  have u_115 : G_105.1 122 = (G.1 122) := (hfr_111.1 122 (by decide)).trans u_85
  have u_116 : G_105.1 133 = (G.1 133) := (hfr_111.1 133 (by decide)).trans u_86
  have u_117 : G_105.1 137 = (G.1 137) := (hfr_111.1 137 (by decide)).trans u_87
  have u_118 : G_105.1 105 = 0 := (hfr_111.1 105 (by decide)).trans u_88
  have u_119 : G_105.1 107 = 0 := (hfr_111.1 107 (by decide)).trans u_89
  have u_120 : G_105.1 108 = 80 := (hfr_111.1 108 (by decide)).trans u_90
  have u_121 : G_105.1 102 = 0 := (hfr_111.1 102 (by decide)).trans u_91
  have w_122 : G_105.2.1 (g.2.2 100) = (G.2.1 (g.2.2 100)) := (hfr_111.2.1 (g.2.2 100) trivial).trans w_92
  have w_123 : G_105.2.1 (g.2.2 121) = (G.2.1 (g.2.2 121)) := (hfr_111.2.1 (g.2.2 121) trivial).trans w_93
  have w_124 : G_105.2.1 (g.2.2 140) = (G.2.1 (g.2.2 140)) := (hfr_111.2.1 (g.2.2 140) trivial).trans w_94
  have w_125 : G_105.2.1 (g.2.2 141) = (G.2.1 (g.2.2 141)) := (hfr_111.2.1 (g.2.2 141) trivial).trans w_95
  have w_126 : G_105.2.1 (g.2.2 111) = (G.2.1 (g.2.2 111)) := (hfr_111.2.1 (g.2.2 111) trivial).trans w_96
  have w_127 : G_105.2.1 (g.2.2 116) = f_100 := (hfr_111.2.1 (g.2.2 116) trivial).trans ef_100
  have u_128 : G_105.2.2 111 = some (g.2.2 111) := (hfr_111.2.2 111 (by decide)).trans u_97
  have u_129 : G_105.2.2 112 = some (g.2.2 112) := (hfr_111.2.2 112 (by decide)).trans u_98
  have u_130 : G_105.2.2 106 = some (g.2.2 101) := (hfr_111.2.2 106 (by decide)).trans u_99
  obtain ⟨xw_131, exw_131⟩ : ∃ z : Int32, G_105.1 110 = z := ⟨_, rfl⟩
  have e9_132 := pq_106.1
  rw [exw_131] at pq_106
  have hH : HT g Ty G_105 H := by rw [← ht, ← eTx_104, eG_105]; exact hB
  have zr_133 : rgI (0) (0) x_104 := wsz_r hr_107 rl_0 rl_0 rl_0
  have zr_134 : rgI (0) (0) xw_131 := by rw [← exw_131, hg_108]; exact wsz_w rl_0 rl_0 rl_0
  refine lv_istore_n (lv' := [(2, .int x_104), (1, .int x_78), (0, .ref h0)]) hx hb dX12_place_25 rfl hl (by decide) rfl (fun ls hl => ?_)
  refine lv_iload_n hx hb dX12_place_26 rfl (lv_at hl 0 rfl) ?_
  refine lv_if_ne (tgt := 47) hx hb dX12_place_27 (by decide) (fun c_135 => ?_) (fun c_135 => ?_)
  · exact absurd (rg_one zr_133 rl_0) c_135
  · refine lv_aload_n hx hb dX12_place_30 rfl (lv_at hl 2 rfl) ?_
    obtain ⟨_, ⟨rfl, t_137, hk_138⟩, o_c_136⟩ := hH h0 _ k_h0
    refine hg_get hx hb hG igX12 hown hK o_c_136 rfl 16 (by decide) (hG _ mw_1300) rfl dX12_place_31 ?_
    refine lv_iload_n hx hb dX12_place_34 rfl (lv_at hl 1 rfl) ?_
    refine lv_aload_n hx hb dX12_place_35 rfl (lv_at hl 2 rfl) ?_
    refine hg_get hx hb hG igX12 hown hK o_c_136 rfl 10 (by decide) (hG _ mw_1294) rfl dX12_place_36 ?_
    rw [exw_131]
    refine lv_bipush (v := 12) hx hb dX12_place_39 (by decide) ?_
    refine va_mmin hx hb (by rw [hml]; exact hl.1.symm) hown (hG _ mw_1502) (hG _ mw_476) (hG _ mw_91) (hG _ mw_477) (Nat.le_of_ble_eq_true rfl) (Nat.le_of_ble_eq_true rfl) (Nat.le_of_ble_eq_true rfl) (Nat.le_of_ble_eq_true rfl) dX12_place_41 ?_
    refine lv_topi (fun x_139 ex_139 => ?_)
    have rx_139 : rgI (0) (0) x_139 := by rw [ex_139]; exact rg_w (show rgI (0) (0) _ from rg_mn zr_134 rl_12 (by decide) (by decide) (by decide) (by decide)) (by decide) (by decide)
    refine lv_iadd hx hb dX12_place_44 ?_
    refine lv_topi (fun x_140 ex_140 => ?_)
    have rx_140 : rgI (0) (0) x_140 := by rw [ex_140]; exact rg_w (rg_add rx_78 rx_139 (by decide) (by decide)) (by decide) (by decide)
    refine lv_iconst (v := 4) hx hb dX12_place_45 (by decide) ?_
    obtain ⟨_, rfl, o_c_141⟩ := hH (g.2.2 116) _ hk_138.2.2.2.2.1
    have o_c_141 : va_at g.1 vwCl ((g.2.2 116), .inl (g.2.1 0, 160, .inl (G_105.2.1 (g.2.2 116)))) H := o_c_141
    refine hg_bast hx hb hK hS o_c_141 (AF.of hk_138.2.2.2.2.1) (rg_in (n := 160) rx_140 (by decide) (by decide)) dX12_place_46 (fun H locs o_c_141 hz oq hS => ?_)
    obtain ⟨G_142, eG_142⟩ : ∃ z : Gh, z = aset G_105 (g.2.2 116) (upd (G_105.2.1 (g.2.2 116)) (x_140 : Int32).toNatClampNeg (vp_nar .byte 4)) := ⟨_, rfl⟩
    have hH : HT g Ty G_142 H := by rw [eG_142]; exact HT.putA (upd (G_105.2.1 (g.2.2 116)) (x_140 : Int32).toNatClampNeg (vp_nar .byte 4)) hH hk_138.2.2.2.2.1 cf31 o_c_141 oq
    obtain ⟨f_143, ef_143⟩ : ∃ z : Nat → Int32, z = (upd f_100 (x_140 : Int32).toNatClampNeg (vp_nar .byte 4)) := ⟨_, rfl⟩
    have eaf_143 : G_142 = aset G_105 (g.2.2 116) f_143 := by rw [eG_142, ef_143, w_127]
    have fr_144 : FR [102, 104, 105, 107, 108, 109, 110, 117, 118, 119, 120] [(g.2.2 116)] [106] G G_142 := FR.a fr_112 eaf_143 (fun b h => h.1)
    have u_145 : G_142.1 104 = (G.1 104) := by rw [eaf_143]; exact u_113
    have u_146 : G_142.1 113 = (G.1 113) := by rw [eaf_143]; exact u_114
    have u_147 : G_142.1 122 = (G.1 122) := by rw [eaf_143]; exact u_115
    have u_148 : G_142.1 133 = (G.1 133) := by rw [eaf_143]; exact u_116
    have u_149 : G_142.1 137 = (G.1 137) := by rw [eaf_143]; exact u_117
    have u_150 : G_142.1 105 = 0 := by rw [eaf_143]; exact u_118
    have u_151 : G_142.1 107 = 0 := by rw [eaf_143]; exact u_119
    have u_152 : G_142.1 108 = 80 := by rw [eaf_143]; exact u_120
    have u_153 : G_142.1 102 = 0 := by rw [eaf_143]; exact u_121
    have u_154 : G_142.1 110 = xw_131 := by rw [eaf_143]; exact exw_131
    have u_155 : G_142.1 109 = 0 := by rw [eaf_143]; exact e9_132
    have w_156 : G_142.2.1 (g.2.2 100) = (G.2.1 (g.2.2 100)) := by rw [eaf_143]; exact (aset_ne (ne_kd hmk.1 hmk.2.2.2.2.1 (by decide))).trans w_122
    have w_157 : G_142.2.1 (g.2.2 121) = (G.2.1 (g.2.2 121)) := by rw [eaf_143]; exact (aset_ne (ne_kd hmk.2.2.2.2.2.1 hmk.2.2.2.2.1 (by decide))).trans w_123
    have w_158 : G_142.2.1 (g.2.2 140) = (G.2.1 (g.2.2 140)) := by rw [eaf_143]; exact (aset_ne (ne_kd hmk.2.2.2.2.2.2.2.2.2.2.2.2.2.2.2.2.2.2.1 hmk.2.2.2.2.1 (by decide))).trans w_124
    have w_159 : G_142.2.1 (g.2.2 141) = (G.2.1 (g.2.2 141)) := by rw [eaf_143]; exact (aset_ne (ne_kd hmk.2.2.2.2.2.2.2.2.2.2.2.2.2.2.2.2.2.2.2.1 hmk.2.2.2.2.1 (by decide))).trans w_125
    have w_160 : G_142.2.1 (g.2.2 111) = (G.2.1 (g.2.2 111)) := by rw [eaf_143]; exact (aset_ne (ne_kd hmk.2.2.2.2.2.2.2.2.2.2.2.2.2.2.2.2.2.2.2.2.1 hmk.2.2.2.2.1 (by decide))).trans w_126
    have w_161 : G_142.2.1 (g.2.2 116) = f_143 := by rw [eaf_143]; exact aset_eq
    have u_162 : G_142.2.2 111 = some (g.2.2 111) := by rw [eaf_143]; exact u_128
    have u_163 : G_142.2.2 112 = some (g.2.2 112) := by rw [eaf_143]; exact u_129
    have u_164 : G_142.2.2 106 = some (g.2.2 101) := by rw [eaf_143]; exact u_130
    clear oq hz
    refine lv_iload_n hx hb dX12_place_47 rfl (lv_at hl 0 rfl) ?_
    refine lv_if_ne (tgt := 60) hx hb dX12_place_48 (by decide) (fun c_165 => ?_) (fun c_165 => ?_)
    · exact absurd (rg_one zr_133 rl_0) c_165
    · refine lv_aload_n hx hb dX12_place_51 rfl (lv_at hl 2 rfl) ?_
      obtain ⟨_, ⟨rfl, t_167, hk_168⟩, o_c_166⟩ := hH h0 _ k_h0
      refine hg_get hx hb hG igX12 hown hK o_c_166 rfl 10 (by decide) (hG _ mw_1294) rfl dX12_place_52 ?_
      rw [u_154]
      refine lv_if_ne (tgt := 60) hx hb dX12_place_55 (by decide) (fun c_169 => ?_) (fun c_169 => ?_)
      · exact absurd (rg_one zr_134 rl_0) c_169
      · refine lv_iconst (v := (-1)) hx hb dX12_place_58 (by decide) ?_
        exact W.iret hx hb hr (fun t ht hWm => ⟨⟨(-1), (Ty, G_142), rfl, ⟨rg_w rl_m1 (by decide) (by decide), ⟨rfl, ⟨fr_144, ⟨(by rw [u_153]; exact (rg_w rl_0 (by decide) (by decide))), (by rw [u_145]; exact (rg_w hI.a104 (by decide) (by decide))), (by rw [u_146]; exact (rg_w hI.a113 (by decide) (by decide))), (by rw [u_147]; exact (rg_w hI.a122 (by decide) (by decide))), (by rw [u_148]; exact (rg_w hI.a133 (by decide) (by decide))), (by rw [u_149]; exact (rg_w hI.a137 (by decide) (by decide))), u_162, u_163, (by rw [w_156]; exact (hI.ti.hi (show Bd ≤ Bd + 1000 by omega))), (hI.un2 (show Bd ≤ Bd + 1000 by omega) w_157 u_147), (hI.ke2 (show Bd ≤ Bd + 1000 by omega) w_158 w_159)⟩⟩⟩⟩, by show HT g Ty G_142 t.heap; rw [ht]; exact hH⟩, hS.F ht⟩) hS.2.2 dX12_place_59

set_option maxHeartbeats 4000000 in
set_option maxRecDepth 100000 in
theorem c_X12_day_z (l : Launch) (g : Gx) (Ty : TyM) (G : Gh) (sz : Nat) (h0 : Nat) (k_h0 : Ty h0 = some (22, 0)) (Bd : Int) (hI : OI g Bd G) (hBd : Bd ≤ 1900000) (hLD : LD g) (h102 : G.1 102 = 0) : Met l yX12_day (wsG yX12_day cX12_day 3 (some .int)) ({ frames := 343, cells := 0, slots := 0, locals := 8050 }) (PcT g Ty G sz [.ref h0]) (QwI g Ty sz (fun r u => (rgI (0) (0) r) ∧ u.1 = Ty ∧ FR [102, 104, 105, 107, 108, 109, 110, 114, 117, 118, 119, 120, 122, 127, 128] [(g.2.2 116), (g.2.2 130), (g.2.2 100), (g.2.2 115), (g.2.2 125), (g.2.2 126), (g.2.2 129), (g.2.2 123), (g.2.2 121)] [106] G u.2 ∧ OI g (Bd + 3000) u.2)) 0 0 (AF Ty sz) := by
  refine Met.ofW (cc := cX12_day) (maxL := 3) (ret := (some .int)) (by decide) rfl ?_
  intro p e s m args below meth c s₁ B hml hv
  obtain ⟨rfl, hsz, hK, hH⟩ := hv
  subst hsz
  have hx := B.exec
  have hb := B.bytes
  have hr := B.returns
  have hts := atoms_spec (ws := (wsG yX12_day cX12_day 3 (some .int))) B.pre
  have hG : ∀ w ∈ GW, w.before ([.ref h0] : List Value).toArray s = true := fun w h => hts w (List.mem_cons_of_mem _ h)
  have hown : s.vm.findClass RX12 = some m.cls := findClass_of_methodNamed B.named
  have hlocks := B.notSynchronized
  have hl := lv_entry [.ref h0] (n := 3) (Nat.le_of_ble_eq_true rfl)
  rw [lg_entry_eq]
  generalize (lg_sl [.ref h0] ++ List.replicate (3 - (lg_sl [.ref h0]).length) Slot.unset).toArray = ls at hl ⊢
  have hl : lv_has ls 3 [(0, .ref h0)] := hl
  have hmk : mdK g Ty := mdk_of hH k_h0
  have hS : va_S (AF Ty s.heap.size) s.heap s.heap [] := va_S.rf
  obtain ⟨⟨σ0, hTS0⟩, h10, hBB0⟩ := id hI.ti
  obtain ⟨ρ, hT⟩ := hTS0.1
  refine lv_aload_n hx hb dX12_day_0 rfl (lv_at hl 0 rfl) ?_
  refine lv_iconst (v := 0) hx hb dX12_day_1 (by decide) ?_
  obtain ⟨_, ⟨rfl, t_2, hk_3⟩, o_c_1⟩ := hH h0 _ k_h0
  refine hg_put (ty := .int) hx hb hG igX12 tyX12 tyX12_ok nmX12 hown hK hS o_c_1 (AF.of k_h0) rfl 5 (by decide) (hG _ mw_1289) rfl (by decide +kernel) rfl rfl (Nat.le_of_ble_eq_true rfl) dX12_day_2 (fun H locs o_c_1 hz oq hS => ?_)
  obtain ⟨G_4, eG_4⟩ : ∃ z : Gh, z = gset G 105 0 := ⟨_, rfl⟩
  have hH : HT g Ty G_4 H := by rw [eG_4]; exact HT.putN 105 0 hH k_h0 ⟨rfl, t_2, hk_3⟩ o_c_1 oq (Or.inr (Or.inr (Or.inr (Or.inr (Or.inr ⟨by decide, t_2⟩)))))
  have fr_5 : FR [102, 104, 105, 107, 108, 109, 110, 114, 117, 118, 119, 120, 122, 127, 128] [(g.2.2 116), (g.2.2 130), (g.2.2 100), (g.2.2 115), (g.2.2 125), (g.2.2 126), (g.2.2 129), (g.2.2 123), (g.2.2 121)] [106] G G_4 := FR.n FR.rf eG_4 (by decide)
  have u_6 : G_4.1 102 = 0 := by rw [eG_4]; exact (gs_ne (by decide)).trans h102
  have u_7 : G_4.1 104 = (G.1 104) := by rw [eG_4]; exact (gs_ne (by decide))
  have u_8 : G_4.1 113 = (G.1 113) := by rw [eG_4]; exact (gs_ne (by decide))
  have u_9 : G_4.1 122 = (G.1 122) := by rw [eG_4]; exact (gs_ne (by decide))
  have u_10 : G_4.1 133 = (G.1 133) := by rw [eG_4]; exact (gs_ne (by decide))
  have u_11 : G_4.1 137 = (G.1 137) := by rw [eG_4]; exact (gs_ne (by decide))
  have u_12 : G_4.1 105 = 0 := by rw [eG_4]; exact gs_eq
  have w_13 : G_4.2.1 (g.2.2 100) = (G.2.1 (g.2.2 100)) := by rw [eG_4]; exact rfl
  have w_14 : G_4.2.1 (g.2.2 121) = (G.2.1 (g.2.2 121)) := by rw [eG_4]; exact rfl
  have w_15 : G_4.2.1 (g.2.2 140) = (G.2.1 (g.2.2 140)) := by rw [eG_4]; exact rfl
  have w_16 : G_4.2.1 (g.2.2 141) = (G.2.1 (g.2.2 141)) := by rw [eG_4]; exact rfl
  have w_17 : G_4.2.1 (g.2.2 111) = (G.2.1 (g.2.2 111)) := by rw [eG_4]; exact rfl
  have w_18 : G_4.2.1 (g.2.2 116) = (G.2.1 (g.2.2 116)) := by rw [eG_4]; exact rfl
  have w_19 : G_4.2.1 (g.2.2 130) = (G.2.1 (g.2.2 130)) := by rw [eG_4]; exact rfl
  have w_20 : G_4.2.1 (g.2.2 123) = (G.2.1 (g.2.2 123)) := by rw [eG_4]; exact rfl
  have u_21 : G_4.2.2 111 = some (g.2.2 111) := by rw [eG_4]; exact hI.r111
  have u_22 : G_4.2.2 112 = some (g.2.2 112) := by rw [eG_4]; exact hI.r112
  clear oq hz
  refine lv_aload_n hx hb dX12_day_5 rfl (lv_at hl 0 rfl) ?_
  refine lv_bipush (v := 72) hx hb dX12_day_6 (by decide) ?_
  obtain ⟨_, ⟨rfl, t_24, hk_25⟩, o_c_23⟩ := hH h0 _ k_h0
  refine va_callv (va_runV (As := [.int 72]) (rest := []) ⟨hx, hb, hml, hown, hts⟩ (c_X12_beginText l g Ty G_4 H.size h0 72 k_h0 (by rw [u_6]; exact (rg_w rl_0 (by decide) (by decide)))) (cwV 1 hts (gwV mw_1435 mw_1437 mw_32 mw_88 mw_1438) rfl rfl rfl hv_X12_beginText ⟨Nat.le_of_ble_eq_true rfl, Nat.le_of_ble_eq_true rfl⟩) ⟨PcT_blind, hg_recv hK o_c_23 rfl, PcT_pre hK hH⟩ rfl rfl hl.1 rfl (lv_room (Nat.le_of_ble_eq_true rfl)) dX12_day_8 ⟨Nat.zero_le _, Nat.zero_le _⟩) hS (fun q _ h => AF.mono hS.1 h) (fun q h => AF.mono hS.1 h) (fun ux_26 t H locs ht hvm hx_26 hB hz hk hS => ?_)
  obtain ⟨eTx_26, eGx_26⟩ := hx_26
  obtain ⟨G_27, eG_27⟩ : ∃ z, z = ux_26.2 := ⟨_, rfl⟩
  rw [← eG_27] at eGx_26
  obtain ⟨hfr_28, hex_29⟩ := eGx_26
  have fr_30 : FR [102, 104, 105, 107, 108, 109, 110, 114, 117, 118, 119, 120, 122, 127, 128] [(g.2.2 116), (g.2.2 130), (g.2.2 100), (g.2.2 115), (g.2.2 125), (g.2.2 126), (g.2.2 129), (g.2.2 123), (g.2.2 121)] [106] G G_27 := FR.tr fr_5 hfr_28 (by decide) (fun _ _ => trivial) (by decide)
  have u_31 : G_27.1 104 = (G.1 104) := (hfr_28.1 104 (by decide)).trans u_7
  have u_32 : G_27.1 113 = (G.1 113) := (hfr_28.1 113 (by decide)).trans u_8
  have u_33 : G_27.1 122 = (G.1 122) := (hfr_28.1 122 (by decide)).trans u_9
  have u_34 : G_27.1 133 = (G.1 133) := (hfr_28.1 133 (by decide)).trans u_10
  have u_35 : G_27.1 137 = (G.1 137) := (hfr_28.1 137 (by decide)).trans u_11
  have u_36 : G_27.1 105 = 0 := (hfr_28.1 105 (by decide)).trans u_12
  have w_37 : G_27.2.1 (g.2.2 100) = (G.2.1 (g.2.2 100)) := (hfr_28.2.1 (g.2.2 100) trivial).trans w_13
  have w_38 : G_27.2.1 (g.2.2 121) = (G.2.1 (g.2.2 121)) := (hfr_28.2.1 (g.2.2 121) trivial).trans w_14
  have w_39 : G_27.2.1 (g.2.2 140) = (G.2.1 (g.2.2 140)) := (hfr_28.2.1 (g.2.2 140) trivial).trans w_15
  have w_40 : G_27.2.1 (g.2.2 141) = (G.2.1 (g.2.2 141)) := (hfr_28.2.1 (g.2.2 141) trivial).trans w_16
  have w_41 : G_27.2.1 (g.2.2 111) = (G.2.1 (g.2.2 111)) := (hfr_28.2.1 (g.2.2 111) trivial).trans w_17
  have w_42 : G_27.2.1 (g.2.2 116) = (G.2.1 (g.2.2 116)) := (hfr_28.2.1 (g.2.2 116) trivial).trans w_18
  have w_43 : G_27.2.1 (g.2.2 130) = (G.2.1 (g.2.2 130)) := (hfr_28.2.1 (g.2.2 130) trivial).trans w_19
  have w_44 : G_27.2.1 (g.2.2 123) = (G.2.1 (g.2.2 123)) := (hfr_28.2.1 (g.2.2 123) trivial).trans w_20
  have u_45 : G_27.2.2 111 = some (g.2.2 111) := (hfr_28.2.2 111 (by decide)).trans u_21
  have u_46 : G_27.2.2 112 = some (g.2.2 112) := (hfr_28.2.2 112 (by decide)).trans u_22
  have u_47 : G_27.2.2 106 = some (g.2.2 101) := hex_29.1
  have u_48 : G_27.1 107 = 0 := hex_29.2.1.trans u_6
  have u_49 : G_27.1 108 = 72 := hex_29.2.2.1
  have u_50 : G_27.1 109 = 0 := hex_29.2.2.2.1
  have u_51 : G_27.1 110 = (-1) := hex_29.2.2.2.2.1
  have u_52 : G_27.1 102 = 0 := hex_29.2.2.2.2.2
  have hH : HT g Ty G_27 H := by rw [← ht, ← eTx_26, eG_27]; exact hB
  refine lv_aload_n hx hb dX12_day_11 rfl (lv_at hl 0 rfl) ?_
  refine lv_iconst (v := 0) hx hb dX12_day_12 (by decide) ?_
  obtain ⟨_, ⟨rfl, t_54, hk_55⟩, o_c_53⟩ := hH h0 _ k_h0
  refine hg_put (ty := .int) hx hb hG igX12 tyX12 tyX12_ok nmX12 hown hK hS o_c_53 (AF.of k_h0) rfl 17 (by decide) (hG _ mw_1301) rfl (by decide +kernel) rfl rfl (Nat.le_of_ble_eq_true rfl) dX12_day_13 (fun H locs o_c_53 hz oq hS => ?_)
  obtain ⟨G_56, eG_56⟩ : ∃ z : Gh, z = gset G_27 117 0 := ⟨_, rfl⟩
  have hH : HT g Ty G_56 H := by rw [eG_56]; exact HT.putN 117 0 hH k_h0 ⟨rfl, t_54, hk_55⟩ o_c_53 oq (Or.inr (Or.inr (Or.inr (Or.inr (Or.inr ⟨by decide, t_54⟩)))))
  have fr_57 : FR [102, 104, 105, 107, 108, 109, 110, 114, 117, 118, 119, 120, 122, 127, 128] [(g.2.2 116), (g.2.2 130), (g.2.2 100), (g.2.2 115), (g.2.2 125), (g.2.2 126), (g.2.2 129), (g.2.2 123), (g.2.2 121)] [106] G G_56 := FR.n fr_30 eG_56 (by decide)
  have u_58 : G_56.1 104 = (G.1 104) := by rw [eG_56]; exact (gs_ne (by decide)).trans u_31
  have u_59 : G_56.1 113 = (G.1 113) := by rw [eG_56]; exact (gs_ne (by decide)).trans u_32
  have u_60 : G_56.1 122 = (G.1 122) := by rw [eG_56]; exact (gs_ne (by decide)).trans u_33
  have u_61 : G_56.1 133 = (G.1 133) := by rw [eG_56]; exact (gs_ne (by decide)).trans u_34
  have u_62 : G_56.1 137 = (G.1 137) := by rw [eG_56]; exact (gs_ne (by decide)).trans u_35
  have u_63 : G_56.1 105 = 0 := by rw [eG_56]; exact (gs_ne (by decide)).trans u_36
  have u_64 : G_56.1 107 = 0 := by rw [eG_56]; exact (gs_ne (by decide)).trans u_48
  have u_65 : G_56.1 108 = 72 := by rw [eG_56]; exact (gs_ne (by decide)).trans u_49
  have u_66 : G_56.1 109 = 0 := by rw [eG_56]; exact (gs_ne (by decide)).trans u_50
  have u_67 : G_56.1 110 = (-1) := by rw [eG_56]; exact (gs_ne (by decide)).trans u_51
  have u_68 : G_56.1 102 = 0 := by rw [eG_56]; exact (gs_ne (by decide)).trans u_52
  have u_69 : G_56.1 117 = 0 := by rw [eG_56]; exact gs_eq
  have w_70 : G_56.2.1 (g.2.2 100) = (G.2.1 (g.2.2 100)) := by rw [eG_56]; exact w_37
  have w_71 : G_56.2.1 (g.2.2 121) = (G.2.1 (g.2.2 121)) := by rw [eG_56]; exact w_38
  have w_72 : G_56.2.1 (g.2.2 140) = (G.2.1 (g.2.2 140)) := by rw [eG_56]; exact w_39
  have w_73 : G_56.2.1 (g.2.2 141) = (G.2.1 (g.2.2 141)) := by rw [eG_56]; exact w_40
  have w_74 : G_56.2.1 (g.2.2 111) = (G.2.1 (g.2.2 111)) := by rw [eG_56]; exact w_41
  have w_75 : G_56.2.1 (g.2.2 116) = (G.2.1 (g.2.2 116)) := by rw [eG_56]; exact w_42
  have w_76 : G_56.2.1 (g.2.2 130) = (G.2.1 (g.2.2 130)) := by rw [eG_56]; exact w_43
  have w_77 : G_56.2.1 (g.2.2 123) = (G.2.1 (g.2.2 123)) := by rw [eG_56]; exact w_44
  have u_78 : G_56.2.2 111 = some (g.2.2 111) := by rw [eG_56]; exact u_45
  have u_79 : G_56.2.2 112 = some (g.2.2 112) := by rw [eG_56]; exact u_46
  have u_80 : G_56.2.2 106 = some (g.2.2 101) := by rw [eG_56]; exact u_47
  clear oq hz
  refine lv_iconst (v := 0) hx hb dX12_day_16 (by decide) ?_
  refine lv_istore_n (lv' := [(1, .int 0), (0, .ref h0)]) hx hb dX12_day_17 rfl hl (by decide) rfl (fun ls hl => ?_)
  refine lv_aload_n hx hb dX12_day_18 rfl (lv_at hl 1 rfl) ?_
  obtain ⟨_, ⟨rfl, t_82, hk_83⟩, o_c_81⟩ := hH h0 _ k_h0
  refine vp_callSi (W.runV (As := []) (rest := []) ⟨hx, hb, hml, hown, hts⟩ (c_X12_fine_p l g Ty G_56 h0 k_h0 (g.2.2 101) 80 (G_56.2.1 (g.2.2 101)) (G_56.2.1 (g.2.2 115)) 0 72 (G_56.1 114) 80 0 (-1) ⟨u_80, hmk.2.1, rfl, (fun _ _ => rfl), u_64, u_65, rfl, u_66, u_67, (rg_w rl_0 (by decide) (by decide)), by decide, Or.inl (show (0 : Int32).toInt ≤ 80 from (rg_w (a2 := 0) (b2 := 80) rl_0 (by decide) (by decide)).2), by decide, by decide, (rg_w rl_0 (by decide) (by decide))⟩) (cwV 0 hts (gwV mw_1463 mw_1465 mw_39 mw_88 mw_1466) rfl rfl rfl hv_X12_fine ⟨Nat.le_of_ble_eq_true rfl, Nat.le_of_ble_eq_true rfl⟩) ⟨PcH_blind, hg_recv hK o_c_81 rfl, PcH_pre hK hH⟩ rfl rfl hl.1 rfl (lv_room (Nat.le_of_ble_eq_true rfl)) dX12_day_19 ⟨Nat.zero_le _, Nat.zero_le _⟩) (fun x_84 hx_84 => ?_)
  have rx_84 : rgI (0) (1) x_84 := hx_84.1
  have zr_85 : rgI (1) (1) x_84 := fin_y hx_84.2 rl_m1
  refine lv_if_eq (tgt := 49) hx hb dX12_day_22 (by decide) (fun c_86 => ?_) (fun c_86 => ?_)
  · exact rg_noE zr_85 rl_0 c_86 (by decide)
  · refine lv_aload_n hx hb dX12_day_25 rfl (lv_at hl 1 rfl) ?_
    refine hg_get hx hb hG igX12 hown hK o_c_81 rfl 9 (by decide) (hG _ mw_1293) rfl dX12_day_26 ?_
    rw [u_66]
    refine lv_aload_n hx hb dX12_day_29 rfl (lv_at hl 1 rfl) ?_
    refine hg_get hx hb hG igX12 hown hK o_c_81 rfl 7 (by decide) (hG _ mw_1291) rfl dX12_day_30 ?_
    rw [u_64]
    refine lv_icmp_ge (tgt := 49) hx hb dX12_day_33 (by decide) (fun c_87 => ?_) (fun c_87 => ?_)
    · refine lv_aload_n hx hb dX12_day_49 rfl (lv_at hl 1 rfl) ?_
      refine va_calli (va_runV (As := []) (rest := []) ⟨hx, hb, hml, hown, hts⟩ (c_X12_wasRight l g Ty G_56 H.size h0 k_h0 (g.2.2 101) 80 (G_56.2.1 (g.2.2 101)) (G_56.2.1 (g.2.2 115)) 0 72 (G_56.1 114) 80 0 (-1) ⟨u_80, hmk.2.1, rfl, (fun _ _ => rfl), u_64, u_65, rfl, u_66, u_67, (rg_w rl_0 (by decide) (by decide)), by decide, Or.inl (show (0 : Int32).toInt ≤ 80 from (rg_w (a2 := 0) (b2 := 80) rl_0 (by decide) (by decide)).2), by decide, by decide, (rg_w rl_0 (by decide) (by decide))⟩) (cwV 0 hts (gwV mw_1490 mw_1492 mw_45 mw_88 mw_1493) rfl rfl rfl hv_X12_wasRight ⟨Nat.le_of_ble_eq_true rfl, Nat.le_of_ble_eq_true rfl⟩) ⟨PcT_blind, hg_recv hK o_c_81 rfl, PcT_pre hK hH⟩ rfl rfl hl.1 rfl (lv_room (Nat.le_of_ble_eq_true rfl)) dX12_day_50 ⟨Nat.zero_le _, Nat.zero_le _⟩) hS (fun q _ h => AF.mono hS.1 h) (fun q h => AF.mono hS.1 h) (fun x_88 ux_88 t H locs ht hvm hx_88 hB hz hk hS => ?_)
      obtain ⟨eTx_88, eGx_88⟩ := hx_88
      obtain ⟨G_89, eG_89⟩ : ∃ z, z = ux_88.2 := ⟨_, rfl⟩
      rw [← eG_89] at eGx_88
      have pq_90 := wsr_pr eGx_88 (rg_w rl_0 (by decide) (by decide))
      obtain ⟨hr_91, hg_92, hm_93, hq_94⟩ := eGx_88
      have hfr_95 : FR [109, 110] [] [] G_56 G_89 := FR.ps FR.rf hg_92 (by decide) (by decide)
      have fr_96 : FR [102, 104, 105, 107, 108, 109, 110, 114, 117, 118, 119, 120, 122, 127, 128] [(g.2.2 116), (g.2.2 130), (g.2.2 100), (g.2.2 115), (g.2.2 125), (g.2.2 126), (g.2.2 129), (g.2.2 123), (g.2.2 121)] [106] G G_89 := FR.tr fr_57 hfr_95 (by decide) (fun _ _ => trivial) (by decide)
      have u_97 : G_89.1 104 = (G.1 104) := (hfr_95.1 104 (by decide)).trans u_58
      have u_98 : G_89.1 113 = (G.1 113) := (hfr_95.1 113 (by decide)).trans u_59
      have u_99 : G_89.1 122 = (G.1 122) := (hfr_95.1 122 (by decide)).trans u_60
      have u_100 : G_89.1 133 = (G.1 133) := (hfr_95.1 133 (by decide)).trans u_61
      have u_101 : G_89.1 137 = (G.1 137) := (hfr_95.1 137 (by decide)).trans u_62
      have u_102 : G_89.1 105 = 0 := (hfr_95.1 105 (by decide)).trans u_63
      have u_103 : G_89.1 107 = 0 := (hfr_95.1 107 (by decide)).trans u_64
      have u_104 : G_89.1 108 = 72 := (hfr_95.1 108 (by decide)).trans u_65
      have u_105 : G_89.1 102 = 0 := (hfr_95.1 102 (by decide)).trans u_68
      have u_106 : G_89.1 117 = 0 := (hfr_95.1 117 (by decide)).trans u_69
      have w_107 : G_89.2.1 (g.2.2 100) = (G.2.1 (g.2.2 100)) := (hfr_95.2.1 (g.2.2 100) trivial).trans w_70
      have w_108 : G_89.2.1 (g.2.2 121) = (G.2.1 (g.2.2 121)) := (hfr_95.2.1 (g.2.2 121) trivial).trans w_71
      have w_109 : G_89.2.1 (g.2.2 140) = (G.2.1 (g.2.2 140)) := (hfr_95.2.1 (g.2.2 140) trivial).trans w_72
      have w_110 : G_89.2.1 (g.2.2 141) = (G.2.1 (g.2.2 141)) := (hfr_95.2.1 (g.2.2 141) trivial).trans w_73
      have w_111 : G_89.2.1 (g.2.2 111) = (G.2.1 (g.2.2 111)) := (hfr_95.2.1 (g.2.2 111) trivial).trans w_74
      have w_112 : G_89.2.1 (g.2.2 116) = (G.2.1 (g.2.2 116)) := (hfr_95.2.1 (g.2.2 116) trivial).trans w_75
      have w_113 : G_89.2.1 (g.2.2 130) = (G.2.1 (g.2.2 130)) := (hfr_95.2.1 (g.2.2 130) trivial).trans w_76
      have w_114 : G_89.2.1 (g.2.2 123) = (G.2.1 (g.2.2 123)) := (hfr_95.2.1 (g.2.2 123) trivial).trans w_77
      have u_115 : G_89.2.2 111 = some (g.2.2 111) := (hfr_95.2.2 111 (by decide)).trans u_78
      have u_116 : G_89.2.2 112 = some (g.2.2 112) := (hfr_95.2.2 112 (by decide)).trans u_79
      have u_117 : G_89.2.2 106 = some (g.2.2 101) := (hfr_95.2.2 106 (by decide)).trans u_80
      obtain ⟨xw_118, exw_118⟩ : ∃ z : Int32, G_89.1 110 = z := ⟨_, rfl⟩
      have e9_119 := pq_90.1
      rw [exw_118] at pq_90
      have hH : HT g Ty G_89 H := by rw [← ht, ← eTx_88, eG_89]; exact hB
      have zr_120 : rgI (1) (1) x_88 := wsy_r hr_91 rl_0 rl_0 rl_m1
      have zr_121 : rgI (-1) (-1) xw_118 := by rw [← exw_118, hg_92]; exact wsy_w rl_0 rl_0 rl_m1
      refine lv_if_ne (tgt := 63) hx hb dX12_day_53 (by decide) (fun c_122 => ?_) (fun c_122 => ?_)
      · refine lv_aload_n hx hb dX12_day_63 rfl (lv_at hl 1 rfl) ?_
        obtain ⟨_, ⟨rfl, t_124, hk_125⟩, o_c_123⟩ := hH h0 _ k_h0
        refine hg_get hx hb hG igX12 hown hK o_c_123 rfl 0 (by decide) (hG _ mw_1284) rfl dX12_day_64 ?_
        refine lv_aload_n hx hb dX12_day_67 rfl (lv_at hl 1 rfl) ?_
        refine hg_get hx hb hG igX12 hown hK o_c_123 rfl 23 (by decide) (hG _ mw_1307) rfl dX12_day_68 ?_
        refine lv_iconst (v := 0) hx hb dX12_day_71 (by decide) ?_
        refine va_callv (va_runS (As := [.ref (g.2.2 100), .ref (g.2.2 123), .int 0]) (rest := []) ⟨hx, hb, hml, hown, hts⟩ (c_X12_lay_a l g Ty G_89 H.size (g.2.2 100) (g.2.2 123) 0 (hk_125.1) (hk_125.2.2.2.2.2.2.1) (rg_w rl_0 (by decide) (by decide)) (hLD 100 (by decide) 123 (by decide) (by decide))) (cwSx 3 hts hG (gwC mw_1583) mw_88 mw_1581 mw_1582 rfl rfl rfl hd_X12_lay ⟨Nat.le_of_ble_eq_true rfl, Nat.le_of_ble_eq_true rfl⟩) ⟨PcT_blind, PcT_pre hK hH⟩ rfl rfl hl.1 rfl (lv_room (Nat.le_of_ble_eq_true rfl)) dX12_day_72 ⟨Nat.zero_le _, Nat.zero_le _⟩) hS (fun q _ h => AF.mono hS.1 h) (fun q h => AF.mono hS.1 h) (fun ux_126 t H locs ht hvm hx_126 hB hz hk hS => ?_)
        obtain ⟨eTx_126, eGx_126⟩ := hx_126
        obtain ⟨G_127, eG_127⟩ : ∃ z, z = ux_126.2 := ⟨_, rfl⟩
        rw [← eG_127] at eGx_126
        obtain ⟨hfr_128, hex_129⟩ := eGx_126
        have fr_130 : FR [102, 104, 105, 107, 108, 109, 110, 114, 117, 118, 119, 120, 122, 127, 128] [(g.2.2 116), (g.2.2 130), (g.2.2 100), (g.2.2 115), (g.2.2 125), (g.2.2 126), (g.2.2 129), (g.2.2 123), (g.2.2 121)] [106] G G_127 := FR.tr fr_96 hfr_128 (by decide) (fun b h => ⟨h.2.2.2.2.2.2.2.1, trivial⟩) (by decide)
        have u_131 : G_127.1 104 = (G.1 104) := (hfr_128.1 104 (by decide)).trans u_97
        have u_132 : G_127.1 113 = (G.1 113) := (hfr_128.1 113 (by decide)).trans u_98
        have u_133 : G_127.1 122 = (G.1 122) := (hfr_128.1 122 (by decide)).trans u_99
        have u_134 : G_127.1 133 = (G.1 133) := (hfr_128.1 133 (by decide)).trans u_100
        have u_135 : G_127.1 137 = (G.1 137) := (hfr_128.1 137 (by decide)).trans u_101
        have u_136 : G_127.1 105 = 0 := (hfr_128.1 105 (by decide)).trans u_102
        have u_137 : G_127.1 107 = 0 := (hfr_128.1 107 (by decide)).trans u_103
        have u_138 : G_127.1 108 = 72 := (hfr_128.1 108 (by decide)).trans u_104
        have u_139 : G_127.1 102 = 0 := (hfr_128.1 102 (by decide)).trans u_105
        have u_140 : G_127.1 117 = 0 := (hfr_128.1 117 (by decide)).trans u_106
        have u_141 : G_127.1 110 = xw_118 := (hfr_128.1 110 (by decide)).trans exw_118
        have u_142 : G_127.1 109 = 0 := (hfr_128.1 109 (by decide)).trans e9_119
        have w_143 : G_127.2.1 (g.2.2 100) = (G.2.1 (g.2.2 100)) := (hfr_128.2.1 (g.2.2 100) ⟨(hLD 100 (by decide) 123 (by decide) (by decide)), trivial⟩).trans w_107
        have w_144 : G_127.2.1 (g.2.2 121) = (G.2.1 (g.2.2 121)) := (hfr_128.2.1 (g.2.2 121) ⟨(ne_kd hmk.2.2.2.2.2.1 hmk.2.2.2.2.2.2.1 (by decide)), trivial⟩).trans w_108
        have w_145 : G_127.2.1 (g.2.2 140) = (G.2.1 (g.2.2 140)) := (hfr_128.2.1 (g.2.2 140) ⟨(ne_kd hmk.2.2.2.2.2.2.2.2.2.2.2.2.2.2.2.2.2.2.1 hmk.2.2.2.2.2.2.1 (by decide)), trivial⟩).trans w_109
        have w_146 : G_127.2.1 (g.2.2 141) = (G.2.1 (g.2.2 141)) := (hfr_128.2.1 (g.2.2 141) ⟨(ne_kd hmk.2.2.2.2.2.2.2.2.2.2.2.2.2.2.2.2.2.2.2.1 hmk.2.2.2.2.2.2.1 (by decide)), trivial⟩).trans w_110
        have w_147 : G_127.2.1 (g.2.2 111) = (G.2.1 (g.2.2 111)) := (hfr_128.2.1 (g.2.2 111) ⟨(ne_kd hmk.2.2.2.2.2.2.2.2.2.2.2.2.2.2.2.2.2.2.2.2.1 hmk.2.2.2.2.2.2.1 (by decide)), trivial⟩).trans w_111
        have w_148 : G_127.2.1 (g.2.2 116) = (G.2.1 (g.2.2 116)) := (hfr_128.2.1 (g.2.2 116) ⟨(ne_kd hmk.2.2.2.2.1 hmk.2.2.2.2.2.2.1 (by decide)), trivial⟩).trans w_112
        have w_149 : G_127.2.1 (g.2.2 130) = (G.2.1 (g.2.2 130)) := (hfr_128.2.1 (g.2.2 130) ⟨(ne_kd hmk.2.2.2.2.2.2.2.2.2.2.2.1 hmk.2.2.2.2.2.2.1 (by decide)), trivial⟩).trans w_113
        have u_150 : G_127.2.2 111 = some (g.2.2 111) := (hfr_128.2.2 111 (by decide)).trans u_115
        have u_151 : G_127.2.2 112 = some (g.2.2 112) := (hfr_128.2.2 112 (by decide)).trans u_116
        have u_152 : G_127.2.2 106 = some (g.2.2 101) := (hfr_128.2.2 106 (by decide)).trans u_117
        obtain ⟨f_153, ef_153⟩ : ∃ z : Nat → Int32, G_127.2.1 (g.2.2 123) = z := ⟨_, rfl⟩
        have ly_154 := hex_129
        rw [ef_153, w_107, w_114] at ly_154
        have hH : HT g Ty G_127 H := by rw [← ht, ← eTx_126, eG_127]; exact hB
        refine lv_iconst (v := 0) hx hb dX12_day_75 (by decide) ?_
        refine lv_istore_n (lv' := [(2, .int 0), (1, .int 0), (0, .ref h0)]) hx hb dX12_day_76 rfl hl (by decide) rfl (fun ls hl => ?_)
        refine lv_iload_n hx hb dX12_day_77 rfl (lv_at hl 0 rfl) ?_
        refine lv_iload_n hx hb dX12_day_78 rfl (lv_at hl 1 rfl) ?_
        refine lv_icmp_ge (tgt := 98) hx hb dX12_day_79 (by decide) (fun c_155 => ?_) (fun c_155 => ?_)
        · refine lv_iload_n hx hb dX12_day_98 rfl (lv_at hl 0 rfl) ?_
          refine lv_if_le (tgt := 110) hx hb dX12_day_99 (by decide) (fun c_156 => ?_) (fun c_156 => ?_)
          · refine lv_aload_n hx hb dX12_day_110 rfl (lv_at hl 2 rfl) ?_
            refine lv_iconst (v := 0) hx hb dX12_day_111 (by decide) ?_
            obtain ⟨_, ⟨rfl, t_158, hk_159⟩, o_c_157⟩ := hH h0 _ k_h0
            refine hg_put (ty := .int) hx hb hG igX12 tyX12 tyX12_ok nmX12 hown hK hS o_c_157 (AF.of k_h0) rfl 4 (by decide) (hG _ mw_1288) rfl (by decide +kernel) rfl rfl (Nat.le_of_ble_eq_true rfl) dX12_day_112 (fun H locs o_c_157 hz oq hS => ?_)
            obtain ⟨G_160, eG_160⟩ : ∃ z : Gh, z = gset G_127 104 0 := ⟨_, rfl⟩
            have hH : HT g Ty G_160 H := by rw [eG_160]; exact HT.putN 104 0 hH k_h0 ⟨rfl, t_158, hk_159⟩ o_c_157 oq (Or.inr (Or.inr (Or.inr (Or.inr (Or.inr ⟨by decide, t_158⟩)))))
            have fr_161 : FR [102, 104, 105, 107, 108, 109, 110, 114, 117, 118, 119, 120, 122, 127, 128] [(g.2.2 116), (g.2.2 130), (g.2.2 100), (g.2.2 115), (g.2.2 125), (g.2.2 126), (g.2.2 129), (g.2.2 123), (g.2.2 121)] [106] G G_160 := FR.n fr_130 eG_160 (by decide)
            have u_162 : G_160.1 113 = (G.1 113) := by rw [eG_160]; exact (gs_ne (by decide)).trans u_132
            have u_163 : G_160.1 122 = (G.1 122) := by rw [eG_160]; exact (gs_ne (by decide)).trans u_133
            have u_164 : G_160.1 133 = (G.1 133) := by rw [eG_160]; exact (gs_ne (by decide)).trans u_134
            have u_165 : G_160.1 137 = (G.1 137) := by rw [eG_160]; exact (gs_ne (by decide)).trans u_135
            have u_166 : G_160.1 105 = 0 := by rw [eG_160]; exact (gs_ne (by decide)).trans u_136
            have u_167 : G_160.1 107 = 0 := by rw [eG_160]; exact (gs_ne (by decide)).trans u_137
            have u_168 : G_160.1 108 = 72 := by rw [eG_160]; exact (gs_ne (by decide)).trans u_138
            have u_169 : G_160.1 102 = 0 := by rw [eG_160]; exact (gs_ne (by decide)).trans u_139
            have u_170 : G_160.1 117 = 0 := by rw [eG_160]; exact (gs_ne (by decide)).trans u_140
            have u_171 : G_160.1 110 = xw_118 := by rw [eG_160]; exact (gs_ne (by decide)).trans u_141
            have u_172 : G_160.1 109 = 0 := by rw [eG_160]; exact (gs_ne (by decide)).trans u_142
            have u_173 : G_160.1 104 = 0 := by rw [eG_160]; exact gs_eq
            have w_174 : G_160.2.1 (g.2.2 100) = (G.2.1 (g.2.2 100)) := by rw [eG_160]; exact w_143
            have w_175 : G_160.2.1 (g.2.2 121) = (G.2.1 (g.2.2 121)) := by rw [eG_160]; exact w_144
            have w_176 : G_160.2.1 (g.2.2 140) = (G.2.1 (g.2.2 140)) := by rw [eG_160]; exact w_145
            have w_177 : G_160.2.1 (g.2.2 141) = (G.2.1 (g.2.2 141)) := by rw [eG_160]; exact w_146
            have w_178 : G_160.2.1 (g.2.2 111) = (G.2.1 (g.2.2 111)) := by rw [eG_160]; exact w_147
            have w_179 : G_160.2.1 (g.2.2 116) = (G.2.1 (g.2.2 116)) := by rw [eG_160]; exact w_148
            have w_180 : G_160.2.1 (g.2.2 130) = (G.2.1 (g.2.2 130)) := by rw [eG_160]; exact w_149
            have w_181 : G_160.2.1 (g.2.2 123) = f_153 := by rw [eG_160]; exact ef_153
            have u_182 : G_160.2.2 111 = some (g.2.2 111) := by rw [eG_160]; exact u_150
            have u_183 : G_160.2.2 112 = some (g.2.2 112) := by rw [eG_160]; exact u_151
            have u_184 : G_160.2.2 106 = some (g.2.2 101) := by rw [eG_160]; exact u_152
            clear oq hz
            refine lv_aload_n hx hb dX12_day_115 rfl (lv_at hl 2 rfl) ?_
            refine lv_iload_n hx hb dX12_day_116 rfl (lv_at hl 0 rfl) ?_
            refine lv_iload_n hx hb dX12_day_117 rfl (lv_at hl 1 rfl) ?_
            refine lv_icmp_ge (tgt := 125) hx hb dX12_day_118 (by decide) (fun c_185 => ?_) (fun c_185 => ?_)
            · refine lv_lconst (v := 0) hx hb dX12_day_125 (by decide) ?_
              obtain ⟨_, ⟨rfl, t_187, hk_188⟩, o_c_186⟩ := hH h0 _ k_h0
              refine va_callv (va_runV (As := [.long 0]) (rest := []) ⟨hx, hb, hml, hown, hts⟩ (c_X12_tell l g Ty G_160 H.size h0 0 k_h0 (by rw [u_173]; exact rg_w rl_0 (by decide) (by decide))) (cwV 1 hts (gwV mw_1510 mw_1512 mw_48 mw_88 mw_1513) rfl rfl rfl hv_X12_tell ⟨Nat.le_of_ble_eq_true rfl, Nat.le_of_ble_eq_true rfl⟩) ⟨PcT_blind, hg_recv hK o_c_186 rfl, PcT_pre hK hH⟩ rfl rfl hl.1 rfl (lv_room (Nat.le_of_ble_eq_true rfl)) dX12_day_126 ⟨Nat.zero_le _, Nat.zero_le _⟩) hS (fun q _ h => AF.mono hS.1 h) (fun q h => AF.mono hS.1 h) (fun ux_189 t H locs ht hvm hx_189 hB hz hk hS => ?_)
              obtain ⟨eTx_189, eGx_189⟩ := hx_189
              obtain ⟨G_190, eG_190⟩ : ∃ z, z = ux_189.2 := ⟨_, rfl⟩
              rw [← eG_190] at eGx_189
              obtain ⟨x_191, ex_191⟩ : ∃ z : Int32, z = 0 + 1 := ⟨_, rfl⟩
              have e_192 : G_190 = gset G_160 104 x_191 := by rw [ex_191, ← u_173]; exact eGx_189
              have rx_191 : rgI (1) (1) x_191 := by rw [ex_191]; exact rg_w (rg_add rl_0 rl_1 (by decide) (by decide)) (by decide) (by decide)
              have fr_193 : FR [102, 104, 105, 107, 108, 109, 110, 114, 117, 118, 119, 120, 122, 127, 128] [(g.2.2 116), (g.2.2 130), (g.2.2 100), (g.2.2 115), (g.2.2 125), (g.2.2 126), (g.2.2 129), (g.2.2 123), (g.2.2 121)] [106] G G_190 := FR.n fr_161 e_192 (by decide)
              have u_194 : G_190.1 113 = (G.1 113) := by rw [e_192]; exact (gs_ne (by decide)).trans u_162
              have u_195 : G_190.1 122 = (G.1 122) := by rw [e_192]; exact (gs_ne (by decide)).trans u_163
              have u_196 : G_190.1 133 = (G.1 133) := by rw [e_192]; exact (gs_ne (by decide)).trans u_164
              have u_197 : G_190.1 137 = (G.1 137) := by rw [e_192]; exact (gs_ne (by decide)).trans u_165
              have u_198 : G_190.1 105 = 0 := by rw [e_192]; exact (gs_ne (by decide)).trans u_166
              have u_199 : G_190.1 107 = 0 := by rw [e_192]; exact (gs_ne (by decide)).trans u_167
              have u_200 : G_190.1 108 = 72 := by rw [e_192]; exact (gs_ne (by decide)).trans u_168
              have u_201 : G_190.1 102 = 0 := by rw [e_192]; exact (gs_ne (by decide)).trans u_169
              have u_202 : G_190.1 117 = 0 := by rw [e_192]; exact (gs_ne (by decide)).trans u_170
              have u_203 : G_190.1 110 = xw_118 := by rw [e_192]; exact (gs_ne (by decide)).trans u_171
              have u_204 : G_190.1 109 = 0 := by rw [e_192]; exact (gs_ne (by decide)).trans u_172
              have u_205 : G_190.1 104 = x_191 := by rw [e_192]; exact gs_eq
              have w_206 : G_190.2.1 (g.2.2 100) = (G.2.1 (g.2.2 100)) := by rw [e_192]; exact w_174
              have w_207 : G_190.2.1 (g.2.2 121) = (G.2.1 (g.2.2 121)) := by rw [e_192]; exact w_175
              have w_208 : G_190.2.1 (g.2.2 140) = (G.2.1 (g.2.2 140)) := by rw [e_192]; exact w_176
              have w_209 : G_190.2.1 (g.2.2 141) = (G.2.1 (g.2.2 141)) := by rw [e_192]; exact w_177
              have w_210 : G_190.2.1 (g.2.2 111) = (G.2.1 (g.2.2 111)) := by rw [e_192]; exact w_178
              have w_211 : G_190.2.1 (g.2.2 116) = (G.2.1 (g.2.2 116)) := by rw [e_192]; exact w_179
              have w_212 : G_190.2.1 (g.2.2 130) = (G.2.1 (g.2.2 130)) := by rw [e_192]; exact w_180
              have w_213 : G_190.2.1 (g.2.2 123) = f_153 := by rw [e_192]; exact w_181
              have u_214 : G_190.2.2 111 = some (g.2.2 111) := by rw [e_192]; exact u_182
              have u_215 : G_190.2.2 112 = some (g.2.2 112) := by rw [e_192]; exact u_183
              have u_216 : G_190.2.2 106 = some (g.2.2 101) := by rw [e_192]; exact u_184
              have hH : HT g Ty G_190 H := by rw [← ht, ← eTx_189, eG_190]; exact hB
              refine lv_aload_n hx hb dX12_day_129 rfl (lv_at hl 2 rfl) ?_
              refine lv_aload_n hx hb dX12_day_130 rfl (lv_at hl 2 rfl) ?_
              obtain ⟨_, ⟨rfl, t_218, hk_219⟩, o_c_217⟩ := hH h0 _ k_h0
              refine hg_get hx hb hG igX12 hown hK o_c_217 rfl 0 (by decide) (hG _ mw_1284) rfl dX12_day_131 ?_
              refine vp_callSi (W.runS (As := [.ref (g.2.2 100)]) (rest := [.ref h0]) ⟨hx, hb, hml, hown, hts⟩ (c_X12_thereOf l g Ty G_190 (g.2.2 100) (hk_219.1)) (cwSx 1 hts hG (gwC mw_1552) mw_88 mw_1550 mw_1551 rfl rfl rfl hd_X12_thereOf ⟨Nat.le_of_ble_eq_true rfl, Nat.le_of_ble_eq_true rfl⟩) ⟨PcH_blind, PcH_pre hK hH⟩ rfl rfl hl.1 rfl (lv_room (Nat.le_of_ble_eq_true rfl)) dX12_day_134 ⟨Nat.zero_le _, Nat.zero_le _⟩) (fun x_220 hx_220 => ?_)
              have ex_221 : x_220 = F_X12_thereOf (G.2.1 (g.2.2 100)) := by rw [← w_206]; exact hx_220
              refine vp_callSi (W.runS (As := [.int x_220]) (rest := [.ref h0]) ⟨hx, hb, hml, hown, hts⟩ (c_J6_bitCount_x l g Ty G_190 x_220 ) (cwSx 1 hts hG (gwC mw_620) mw_99 mw_1553 mw_619 rfl rfl rfl hd_J6_bitCount_0f7a4 ⟨Nat.le_of_ble_eq_true rfl, Nat.le_of_ble_eq_true rfl⟩) ⟨PcH_blind, PcH_pre hK hH⟩ rfl rfl hl.1 rfl (lv_room (Nat.le_of_ble_eq_true rfl)) dX12_day_137 ⟨Nat.zero_le _, Nat.zero_le _⟩) (fun x_222 hx_222 => ?_)
              have rx_222 : rgI (0) (63) x_222 := hx_222.1
              refine lv_i2l hx hb dX12_day_140 rfl ?_
              refine lv_topl (fun u_223 eu_223 => ?_)
              refine va_callv (va_runV (As := [.long u_223]) (rest := []) ⟨hx, hb, hml, hown, hts⟩ (c_X12_tell l g Ty G_190 H.size h0 u_223 k_h0 (by rw [u_205]; exact rg_w rx_191 (by decide) (by decide))) (cwV 1 hts (gwV mw_1510 mw_1512 mw_48 mw_88 mw_1513) rfl rfl rfl hv_X12_tell ⟨Nat.le_of_ble_eq_true rfl, Nat.le_of_ble_eq_true rfl⟩) ⟨PcT_blind, hg_recv hK o_c_217 rfl, PcT_pre hK hH⟩ rfl rfl hl.1 rfl (lv_room (Nat.le_of_ble_eq_true rfl)) dX12_day_141 ⟨Nat.zero_le _, Nat.zero_le _⟩) hS (fun q _ h => AF.mono hS.1 h) (fun q h => AF.mono hS.1 h) (fun ux_224 t H locs ht hvm hx_224 hB hz hk hS => ?_)
              obtain ⟨eTx_224, eGx_224⟩ := hx_224
              obtain ⟨G_225, eG_225⟩ : ∃ z, z = ux_224.2 := ⟨_, rfl⟩
              rw [← eG_225] at eGx_224
              obtain ⟨x_226, ex_226⟩ : ∃ z : Int32, z = x_191 + 1 := ⟨_, rfl⟩
              have e_227 : G_225 = gset G_190 104 x_226 := by rw [ex_226, ← u_205]; exact eGx_224
              have rx_226 : rgI (2) (2) x_226 := by rw [ex_226]; exact rg_w (rg_add rx_191 rl_1 (by decide) (by decide)) (by decide) (by decide)
              have fr_228 : FR [102, 104, 105, 107, 108, 109, 110, 114, 117, 118, 119, 120, 122, 127, 128] [(g.2.2 116), (g.2.2 130), (g.2.2 100), (g.2.2 115), (g.2.2 125), (g.2.2 126), (g.2.2 129), (g.2.2 123), (g.2.2 121)] [106] G G_225 := FR.n fr_193 e_227 (by decide)
              have u_229 : G_225.1 113 = (G.1 113) := by rw [e_227]; exact (gs_ne (by decide)).trans u_194
              have u_230 : G_225.1 122 = (G.1 122) := by rw [e_227]; exact (gs_ne (by decide)).trans u_195
              have u_231 : G_225.1 133 = (G.1 133) := by rw [e_227]; exact (gs_ne (by decide)).trans u_196
              have u_232 : G_225.1 137 = (G.1 137) := by rw [e_227]; exact (gs_ne (by decide)).trans u_197
              have u_233 : G_225.1 105 = 0 := by rw [e_227]; exact (gs_ne (by decide)).trans u_198
              have u_234 : G_225.1 107 = 0 := by rw [e_227]; exact (gs_ne (by decide)).trans u_199
              have u_235 : G_225.1 108 = 72 := by rw [e_227]; exact (gs_ne (by decide)).trans u_200
              have u_236 : G_225.1 102 = 0 := by rw [e_227]; exact (gs_ne (by decide)).trans u_201
              have u_237 : G_225.1 117 = 0 := by rw [e_227]; exact (gs_ne (by decide)).trans u_202
              have u_238 : G_225.1 110 = xw_118 := by rw [e_227]; exact (gs_ne (by decide)).trans u_203
              have u_239 : G_225.1 109 = 0 := by rw [e_227]; exact (gs_ne (by decide)).trans u_204
              have u_240 : G_225.1 104 = x_226 := by rw [e_227]; exact gs_eq
              have w_241 : G_225.2.1 (g.2.2 100) = (G.2.1 (g.2.2 100)) := by rw [e_227]; exact w_206
              have w_242 : G_225.2.1 (g.2.2 121) = (G.2.1 (g.2.2 121)) := by rw [e_227]; exact w_207
              have w_243 : G_225.2.1 (g.2.2 140) = (G.2.1 (g.2.2 140)) := by rw [e_227]; exact w_208
              have w_244 : G_225.2.1 (g.2.2 141) = (G.2.1 (g.2.2 141)) := by rw [e_227]; exact w_209
              have w_245 : G_225.2.1 (g.2.2 111) = (G.2.1 (g.2.2 111)) := by rw [e_227]; exact w_210
              have w_246 : G_225.2.1 (g.2.2 116) = (G.2.1 (g.2.2 116)) := by rw [e_227]; exact w_211
              have w_247 : G_225.2.1 (g.2.2 130) = (G.2.1 (g.2.2 130)) := by rw [e_227]; exact w_212
              have w_248 : G_225.2.1 (g.2.2 123) = f_153 := by rw [e_227]; exact w_213
              have u_249 : G_225.2.2 111 = some (g.2.2 111) := by rw [e_227]; exact u_214
              have u_250 : G_225.2.2 112 = some (g.2.2 112) := by rw [e_227]; exact u_215
              have u_251 : G_225.2.2 106 = some (g.2.2 101) := by rw [e_227]; exact u_216
              have hH : HT g Ty G_225 H := by rw [← ht, ← eTx_224, eG_225]; exact hB
              refine lv_iload_n hx hb dX12_day_144 rfl (lv_at hl 0 rfl) ?_
              exact W.iret hx hb hr (fun t ht hWm => ⟨⟨0, (Ty, G_225), rfl, ⟨rg_w rl_0 (by decide) (by decide), ⟨rfl, ⟨fr_228, ⟨(by rw [u_236]; exact (rg_w rl_0 (by decide) (by decide))), (by rw [u_240]; exact (rg_w rx_226 (by decide) (by decide))), (by rw [u_229]; exact (rg_w hI.a113 (by decide) (by decide))), (by rw [u_230]; exact (rg_w hI.a122 (by decide) (by decide))), (by rw [u_231]; exact (rg_w hI.a133 (by decide) (by decide))), (by rw [u_232]; exact (rg_w hI.a137 (by decide) (by decide))), u_249, u_250, (by rw [w_241]; exact (hI.ti.hi (show Bd ≤ Bd + 3000 by omega))), (hI.un2 (show Bd ≤ Bd + 3000 by omega) w_242 u_230), (hI.ke2 (show Bd ≤ Bd + 3000 by omega) w_243 w_244)⟩⟩⟩⟩, by show HT g Ty G_225 t.heap; rw [ht]; exact hH⟩, hS.F ht⟩) hS.2.2 dX12_day_145
            · exact rg_no rl_0 rl_0 (nle_lt c_185) (by decide)
          · exact rg_no rl_0 rl_0 (nle_lt c_156) (by decide)
        · exact rg_no rl_0 rl_0 (nle_lt c_155) (by decide)
      · exact rg_noE zr_120 rl_0 c_122 (by decide)
    · exact rg_no rl_0 rl_0 (nle_lt c_87) (by decide)

def F_X12_thrown_x (m105 : Int32) : Int32 := m105
set_option maxHeartbeats 4000000 in
set_option maxRecDepth 100000 in
theorem c_X12_thrown_x (l : Launch) (g : Gx) (Ty : TyM) (G : Gh) (h0 : Nat) (k_h0 : Ty h0 = some (22, 0)) : Met l yX12_thrown (wsG yX12_thrown cX12_thrown 1 (some .int)) ({ frames := 0, cells := 0, slots := 0, locals := 0 }) (PcH g Ty G [.ref h0]) (vp_Si (fun r => r = F_X12_thrown_x (G.1 105))) 0 0 (fun _ => False) := by
  refine Met.ofW (cc := cX12_thrown) (maxL := 1) (ret := (some .int)) (by decide) rfl ?_
  intro p e s m args below meth c s₁ B hml hv
  obtain ⟨rfl, hK, hH⟩ := hv
  have hx := B.exec
  have hb := B.bytes
  have hr := B.returns
  have hts := atoms_spec (ws := (wsG yX12_thrown cX12_thrown 1 (some .int))) B.pre
  have hG : ∀ w ∈ GW, w.before ([.ref h0] : List Value).toArray s = true := fun w h => hts w (List.mem_cons_of_mem _ h)
  have hown : s.vm.findClass RX12 = some m.cls := findClass_of_methodNamed B.named
  have hlocks := B.notSynchronized
  have hl := lv_entry [.ref h0] (n := 1) (Nat.le_of_ble_eq_true rfl)
  rw [lg_entry_eq]
  generalize (lg_sl [.ref h0] ++ List.replicate (1 - (lg_sl [.ref h0]).length) Slot.unset).toArray = ls at hl ⊢
  have hl : lv_has ls 1 [(0, .ref h0)] := hl
  have hmk : mdK g Ty := mdk_of hH k_h0
  have hv : (G.1 105) = F_X12_thrown_x (G.1 105) := rfl
  refine lv_aload_n hx hb dX12_thrown_0 rfl (lv_at hl 0 rfl) ?_
  obtain ⟨_, ⟨rfl, t_2, hk_3⟩, o_c_1⟩ := hH h0 _ k_h0
  refine hg_get hx hb hG igX12 hown hK o_c_1 rfl 5 (by decide) (hG _ mw_1289) rfl dX12_thrown_1 ?_
  exact W.iret hx hb hr (fun t ht hW => ⟨(G.1 105), rfl, hv, ht⟩) (fun q h => by cases h) dX12_thrown_4
