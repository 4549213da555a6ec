set_option maxHeartbeats 4000000 in
set_option maxRecDepth 100000 in
theorem c_X12_beginText (l : Launch) (g : Gx) (Ty : TyM) (G : Gh) (sz : Nat) (h0 : Nat) (a0 : Int32) (k_h0 : Ty h0 = some (22, 0)) (h2 : rgI 0 80 (G.1 102)) : Met l yX12_beginText (wsG yX12_beginText cX12_beginText 2 none) ({ frames := 1, cells := 0, slots := 0, locals := 23 }) (PcT g Ty G sz [.ref h0, .int a0]) (QwV g Ty sz (fun u => u.1 = Ty ∧ FR [102, 107, 108, 109, 110] [] [106] G u.2 ∧ (u.2.2.2 106 = some (g.2.2 101) ∧ u.2.1 107 = G.1 102 ∧ u.2.1 108 = a0 ∧ u.2.1 109 = 0 ∧ u.2.1 110 = -1 ∧ u.2.1 102 = 0))) 0 0 (AF Ty sz) := by
  refine Met.ofW (cc := cX12_beginText) (maxL := 2) (ret := none) (by decide) rfl ?_
  intro p e s m args below meth c s₁ B hml hv
  obtain ⟨rfl, hsz, hK, hH⟩ := hv
  subst hsz
  have hx := B.exec
  have hb := B.bytes
  have hr := B.returns
  have hts := atoms_spec (ws := (wsG yX12_beginText cX12_beginText 2 none)) B.pre
  have hG : ∀ w ∈ GW, w.before ([.ref h0, .int a0] : List Value).toArray s = true := fun w h => hts w (List.mem_cons_of_mem _ h)
  have hown : s.vm.findClass RX12 = some m.cls := findClass_of_methodNamed B.named
  have hlocks := B.notSynchronized
  have hl := lv_entry [.ref h0, .int a0] (n := 2) (Nat.le_of_ble_eq_true rfl)
  rw [lg_entry_eq]
  generalize (lg_sl [.ref h0, .int a0] ++ List.replicate (2 - (lg_sl [.ref h0, .int a0]).length) Slot.unset).toArray = ls at hl ⊢
  have hl : lv_has ls 2 [(0, .ref h0), (1, .int a0)] := hl
  have hmk : mdK g Ty := mdk_of hH k_h0
  have hS : va_S (AF Ty s.heap.size) s.heap s.heap [] := va_S.rf
  refine lv_aload_n hx hb dX12_beginText_0 rfl (lv_at hl 0 rfl) ?_
  refine lv_aload_n hx hb dX12_beginText_1 rfl (lv_at hl 0 rfl) ?_
  obtain ⟨_, ⟨rfl, t_2, hk_3⟩, o_c_1⟩ := hH h0 _ k_h0
  refine hg_get hx hb hG igX12 hown hK o_c_1 rfl 1 (by decide) (hG _ mw_1285) rfl dX12_beginText_2 ?_
  refine lv_aload_n hx hb dX12_beginText_5 rfl (lv_at hl 0 rfl) ?_
  refine hg_get hx hb hG igX12 hown hK o_c_1 rfl 2 (by decide) (hG _ mw_1286) rfl dX12_beginText_6 ?_
  refine lv_iload_n hx hb dX12_beginText_9 rfl (lv_at hl 1 rfl) ?_
  refine va_callv (va_runV (As := [.ref (g.2.2 101), .int (G.1 102), .int a0]) (rest := []) ⟨hx, hb, hml, hown, hts⟩ (c_X12_begin_t l g Ty G s.heap.size h0 (g.2.2 101) (G.1 102) a0 k_h0 (hk_3.2.1)) (cwV 3 hts (gwV mw_1439 mw_1441 mw_33 mw_88 mw_1442) rfl rfl rfl hv_X12_begin ⟨Nat.le_of_ble_eq_true rfl, Nat.le_of_ble_eq_true rfl⟩) ⟨PcT_blind, hg_recv hK o_c_1 rfl, PcT_pre hK hH⟩ rfl rfl hl.1 rfl (lv_room (Nat.le_of_ble_eq_true rfl)) dX12_beginText_10 ⟨Nat.zero_le _, Nat.zero_le _⟩) hS (fun q _ h => AF.mono hS.1 h) (fun q h => AF.mono hS.1 h) (fun ux_4 t H locs ht hvm hx_4 hB hz hk hS => ?_)
  obtain ⟨eTx_4, eGx_4⟩ := hx_4
  obtain ⟨G_5, eG_5⟩ : ∃ z, z = ux_4.2 := ⟨_, rfl⟩
  rw [← eG_5] at eGx_4
  have hfr_6 := beg_fr eGx_4
  have fr_7 : FR [102, 107, 108, 109, 110] [] [106] G G_5 := FR.tr FR.rf hfr_6 (by decide) (fun _ _ => trivial) (by decide)
  have u_8 : G_5.1 102 = (G.1 102) := (hfr_6.1 102 (by decide))
  have u_9 : G_5.1 107 = (G.1 102) := beg_107 eGx_4
  have u_10 : G_5.1 108 = a0 := beg_108 eGx_4
  have u_11 : G_5.1 109 = 0 := beg_109 eGx_4
  have u_12 : G_5.1 110 = (-1) := beg_110 eGx_4
  have u_13 : G_5.2.2 106 = some (g.2.2 101) := beg_106 eGx_4
  have hH : HT g Ty G_5 H := by rw [← ht, ← eTx_4, eG_5]; exact hB
  refine lv_aload_n hx hb dX12_beginText_13 rfl (lv_at hl 0 rfl) ?_
  refine lv_iconst (v := 0) hx hb dX12_beginText_14 (by decide) ?_
  obtain ⟨_, ⟨rfl, t_15, hk_16⟩, o_c_14⟩ := hH h0 _ k_h0
  refine hg_put (ty := .int) hx hb hG igX12 tyX12 tyX12_ok nmX12 hown hK hS o_c_14 (AF.of k_h0) rfl 2 (by decide) (hG _ mw_1286) rfl (by decide +kernel) rfl rfl (Nat.le_of_ble_eq_true rfl) dX12_beginText_15 (fun H locs o_c_14 hz oq hS => ?_)
  obtain ⟨G_17, eG_17⟩ : ∃ z : Gh, z = gset G_5 102 0 := ⟨_, rfl⟩
  have hH : HT g Ty G_17 H := by rw [eG_17]; exact HT.putN 102 0 hH k_h0 ⟨rfl, t_15, hk_16⟩ o_c_14 oq (Or.inr (Or.inr (Or.inr (Or.inr (Or.inr ⟨by decide, t_15⟩)))))
  have fr_18 : FR [102, 107, 108, 109, 110] [] [106] G G_17 := FR.n fr_7 eG_17 (by decide)
  have u_19 : G_17.1 107 = (G.1 102) := by rw [eG_17]; exact (gs_ne (by decide)).trans u_9
  have u_20 : G_17.1 108 = a0 := by rw [eG_17]; exact (gs_ne (by decide)).trans u_10
  have u_21 : G_17.1 109 = 0 := by rw [eG_17]; exact (gs_ne (by decide)).trans u_11
  have u_22 : G_17.1 110 = (-1) := by rw [eG_17]; exact (gs_ne (by decide)).trans u_12
  have u_23 : G_17.1 102 = 0 := by rw [eG_17]; exact gs_eq
  have u_24 : G_17.2.2 106 = some (g.2.2 101) := by rw [eG_17]; exact u_13
  clear oq hz
  exact W.vret hx hb hr (fun t ht hWm => ⟨⟨(Ty, G_17), rfl, ⟨rfl, ⟨fr_18, ⟨u_24, u_19, u_20, u_21, u_22, u_23⟩⟩⟩, by show HT g Ty G_17 t.heap; rw [ht]; exact hH⟩, hS.F ht⟩) hS.2.2 dX12_beginText_18

set_option maxHeartbeats 4000000 in
set_option maxRecDepth 100000 in
theorem c_X12_readRule (l : Launch) (g : Gx) (Ty : TyM) (G : Gh) (sz : Nat) (h0 : Nat) (k_h0 : Ty h0 = some (22, 0)) (h2 : rgI 0 80 (G.1 102)) : Met l yX12_readRule (wsG yX12_readRule cX12_readRule 1 (some .boolean)) ({ frames := 338, cells := 0, slots := 0, locals := 7919 }) (PcT g Ty G sz [.ref h0]) (QwI g Ty sz (fun r u => (rgI (0) (1) r) ∧ u.1 = Ty ∧ FR [102, 107, 108, 109, 110, 114] [] [106] G u.2 ∧ (u.2.1 102 = 0 ∧ (¬ r = 0 → (G.1 102).toInt ≤ 40)))) 0 0 (AF Ty sz) := by
  refine Met.ofW (cc := cX12_readRule) (maxL := 1) (ret := (some .boolean)) (by decide) rfl ?_
  intro p e s m args below meth c s₁ B hml hv
  obtain ⟨rfl, hsz, hK, hH⟩ := hv
  subst hsz
  have hx := B.exec
  have hb := B.bytes
  have hr := B.returns
  have hts := atoms_spec (ws := (wsG yX12_readRule cX12_readRule 1 (some .boolean))) B.pre
  have hG : ∀ w ∈ GW, w.before ([.ref h0] : List Value).toArray s = true := fun w h => hts w (List.mem_cons_of_mem _ h)
  have hown : s.vm.findClass RX12 = some m.cls := findClass_of_methodNamed B.named
  have hlocks := B.notSynchronized
  have hl := lv_entry [.ref h0] (n := 1) (Nat.le_of_ble_eq_true rfl)
  rw [lg_entry_eq]
  generalize (lg_sl [.ref h0] ++ List.replicate (1 - (lg_sl [.ref h0]).length) Slot.unset).toArray = ls at hl ⊢
  have hl : lv_has ls 1 [(0, .ref h0)] := hl
  have hmk : mdK g Ty := mdk_of hH k_h0
  have hS : va_S (AF Ty s.heap.size) s.heap s.heap [] := va_S.rf
  refine lv_aload_n hx hb dX12_readRule_0 rfl (lv_at hl 0 rfl) ?_
  refine lv_bipush (v := 40) hx hb dX12_readRule_1 (by decide) ?_
  obtain ⟨_, ⟨rfl, t_2, hk_3⟩, o_c_1⟩ := hH h0 _ k_h0
  refine va_callv (va_runV (As := [.int 40]) (rest := []) ⟨hx, hb, hml, hown, hts⟩ (c_X12_beginText l g Ty G s.heap.size h0 40 k_h0 (rg_w h2 (by decide) (by decide))) (cwV 1 hts (gwV mw_1435 mw_1437 mw_32 mw_88 mw_1438) rfl rfl rfl hv_X12_beginText ⟨Nat.le_of_ble_eq_true rfl, Nat.le_of_ble_eq_true rfl⟩) ⟨PcT_blind, hg_recv hK o_c_1 rfl, PcT_pre hK hH⟩ rfl rfl hl.1 rfl (lv_room (Nat.le_of_ble_eq_true rfl)) dX12_readRule_3 ⟨Nat.zero_le _, Nat.zero_le _⟩) hS (fun q _ h => AF.mono hS.1 h) (fun q h => AF.mono hS.1 h) (fun ux_4 t H locs ht hvm hx_4 hB hz hk hS => ?_)
  obtain ⟨eTx_4, eGx_4⟩ := hx_4
  obtain ⟨G_5, eG_5⟩ : ∃ z, z = ux_4.2 := ⟨_, rfl⟩
  rw [← eG_5] at eGx_4
  obtain ⟨hfr_6, hex_7⟩ := eGx_4
  have fr_8 : FR [102, 107, 108, 109, 110, 114] [] [106] G G_5 := FR.tr FR.rf hfr_6 (by decide) (fun _ _ => trivial) (by decide)
  have u_9 : G_5.2.2 106 = some (g.2.2 101) := hex_7.1
  have u_10 : G_5.1 107 = (G.1 102) := hex_7.2.1
  have u_11 : G_5.1 108 = 40 := hex_7.2.2.1
  have u_12 : G_5.1 109 = 0 := hex_7.2.2.2.1
  have u_13 : G_5.1 110 = (-1) := hex_7.2.2.2.2.1
  have u_14 : G_5.1 102 = 0 := hex_7.2.2.2.2.2
  have hH : HT g Ty G_5 H := by rw [← ht, ← eTx_4, eG_5]; exact hB
  refine lv_aload_n hx hb dX12_readRule_6 rfl (lv_at hl 0 rfl) ?_
  refine lv_iconst (v := 0) hx hb dX12_readRule_7 (by decide) ?_
  obtain ⟨_, ⟨rfl, t_16, hk_17⟩, o_c_15⟩ := hH h0 _ k_h0
  refine hg_put (ty := .boolean) hx hb hG igX12 tyX12 tyX12_ok nmX12 hown hK hS o_c_15 (AF.of k_h0) rfl 14 (by decide) (hG _ mw_1298) rfl (by decide +kernel) (by rfl) (by rfl) (Nat.le_of_ble_eq_true rfl) dX12_readRule_8 (fun H locs o_c_15 hz oq hS => ?_)
  obtain ⟨G_18, eG_18⟩ : ∃ z : Gh, z = gset G_5 114 0 := ⟨_, rfl⟩
  have hH : HT g Ty G_18 H := by rw [eG_18]; exact HT.putN 114 0 hH k_h0 ⟨rfl, t_16, hk_17⟩ o_c_15 oq (Or.inr (Or.inr (Or.inr (Or.inr (Or.inr ⟨by decide, t_16⟩)))))
  have fr_19 : FR [102, 107, 108, 109, 110, 114] [] [106] G G_18 := FR.n fr_8 eG_18 (by decide)
  have u_20 : G_18.1 107 = (G.1 102) := by rw [eG_18]; exact (gs_ne (by decide)).trans u_10
  have u_21 : G_18.1 108 = 40 := by rw [eG_18]; exact (gs_ne (by decide)).trans u_11
  have u_22 : G_18.1 109 = 0 := by rw [eG_18]; exact (gs_ne (by decide)).trans u_12
  have u_23 : G_18.1 110 = (-1) := by rw [eG_18]; exact (gs_ne (by decide)).trans u_13
  have u_24 : G_18.1 102 = 0 := by rw [eG_18]; exact (gs_ne (by decide)).trans u_14
  have u_25 : G_18.1 114 = 0 := by rw [eG_18]; exact gs_eq
  have u_26 : G_18.2.2 106 = some (g.2.2 101) := by rw [eG_18]; exact u_9
  clear oq hz
  refine lv_aload_n hx hb dX12_readRule_11 rfl (lv_at hl 0 rfl) ?_
  obtain ⟨_, ⟨rfl, t_28, hk_29⟩, o_c_27⟩ := hH h0 _ k_h0
  refine hg_get hx hb hG igX12 hown hK o_c_27 rfl 7 (by decide) (hG _ mw_1291) rfl dX12_readRule_12 ?_
  rw [u_20]
  refine lv_if_le (tgt := 24) hx hb dX12_readRule_15 (by decide) (fun c_30 => ?_) (fun c_30 => ?_)
  · have r_31 : rgI (0) (0) (G.1 102) := rg_w (rg_leL h2 rl_0 c_30) (by decide) (by decide)
    refine lv_aload_n hx hb dX12_readRule_24 rfl (lv_at hl 0 rfl) ?_
    have hPE_32 : PE g Ty G_18 (g.2.2 101) 80 (G_18.2.1 (g.2.2 101)) (G_18.2.1 (g.2.2 115)) (G.1 102) 40 0 40 0 (-1) := ⟨u_26, hmk.2.1, rfl, (fun _ _ => rfl), u_20, u_21, u_25, u_22, u_23, rg_w r_31 (by decide) (by decide), by decide, Or.inr (by decide), by decide, by decide, by decide, by decide⟩
    refine va_calli (va_runV (As := []) (rest := []) ⟨hx, hb, hml, hown, hts⟩ (c_X12_wasRight l g Ty G_18 H.size h0 k_h0 (g.2.2 101) 80 (G_18.2.1 (g.2.2 101)) (G_18.2.1 (g.2.2 115)) (G.1 102) 40 0 40 _ _ hPE_32) (cwV 0 hts (gwV mw_1490 mw_1492 mw_45 mw_88 mw_1493) rfl rfl rfl hv_X12_wasRight ⟨Nat.le_of_ble_eq_true rfl, Nat.le_of_ble_eq_true rfl⟩) ⟨PcT_blind, hg_recv hK o_c_27 rfl, PcT_pre hK hH⟩ rfl rfl hl.1 rfl (lv_room (Nat.le_of_ble_eq_true rfl)) dX12_readRule_25 ⟨Nat.zero_le _, Nat.zero_le _⟩) hS (fun q _ h => AF.mono hS.1 h) (fun q h => AF.mono hS.1 h) (fun x_33 ux_33 t H locs ht hvm hx_33 hB hz hk hS => ?_)
    obtain ⟨eTx_33, eGx_33⟩ := hx_33
    obtain ⟨G_34, eG_34⟩ : ∃ z, z = ux_33.2 := ⟨_, rfl⟩
    rw [← eG_34] at eGx_33
    obtain ⟨hr_35, hg_36, hm_37, hq_38⟩ := eGx_33
    have hfr_39 : FR [109, 110] [] [] G_18 G_34 := FR.ps FR.rf hg_36 (by decide) (by decide)
    have fr_40 : FR [102, 107, 108, 109, 110, 114] [] [106] G G_34 := FR.tr fr_19 hfr_39 (by decide) (fun _ _ => trivial) (by decide)
    have u_41 : G_34.1 107 = (G.1 102) := (hfr_39.1 107 (by decide)).trans u_20
    have u_42 : G_34.1 108 = 40 := (hfr_39.1 108 (by decide)).trans u_21
    have u_43 : G_34.1 102 = 0 := (hfr_39.1 102 (by decide)).trans u_24
    have u_44 : G_34.1 114 = 0 := (hfr_39.1 114 (by decide)).trans u_25
    have u_45 : G_34.2.2 106 = some (g.2.2 101) := (hfr_39.2.2 106 (by decide)).trans u_26
    have hPE_46 := PE.ps hPE_32 hg_36 hq_38
    have hH : HT g Ty G_34 H := by rw [← ht, ← eTx_33, eG_34]; exact hB
    have w01_47 : rgI 0 1 x_33 := wr_01 hr_35
    exact W.zret hx hb hr (nz01 w01_47) (fun t ht hWm => ⟨⟨x_33, (Ty, G_34), rfl, ⟨rg_w w01_47 (by decide) (by decide), ⟨rfl, ⟨fr_40, ⟨u_43, fun q => Int.le_trans (wr_1 hr_35 q (PE.ra8 hPE_32) (by decide)) ((PE.ra hPE_32)).2⟩⟩⟩⟩, by show HT g Ty G_34 t.heap; rw [ht]; exact hH⟩, hS.F ht⟩) hS.2.2 dX12_readRule_28
  · have r_48 : rgI (1) (80) (G.1 102) := rg_w (rg_ltR rl_0 h2 (nle_lt c_30)) (by decide) (by decide)
    refine lv_aload_n hx hb dX12_readRule_18 rfl (lv_at hl 0 rfl) ?_
    refine lv_iconst (v := 0) hx hb dX12_readRule_19 (by decide) ?_
    have hPE_49 : PE g Ty G_18 (g.2.2 101) 80 (G_18.2.1 (g.2.2 101)) (G_18.2.1 (g.2.2 115)) (G.1 102) 40 0 40 0 (-1) := ⟨u_26, hmk.2.1, rfl, (fun _ _ => rfl), u_20, u_21, u_25, u_22, u_23, rg_w r_48 (by decide) (by decide), by decide, Or.inr (by decide), by decide, by decide, by decide, by decide⟩
    refine va_calli (va_runV (As := [.int 0]) (rest := []) ⟨hx, hb, hml, hown, hts⟩ (c_X12_held l g 82 (c_X12_thing l g 82) Ty G_18 H.size h0 0 k_h0 (g.2.2 101) 80 (G_18.2.1 (g.2.2 101)) (G_18.2.1 (g.2.2 115)) (G.1 102) 40 0 40 0 (-1) hPE_49 (by decide)) (cwV 1 hts (gwV mw_1443 mw_1445 mw_34 mw_88 mw_1446) rfl rfl rfl hv_X12_held ⟨Nat.le_of_ble_eq_true rfl, Nat.le_of_ble_eq_true rfl⟩) ⟨PcT_blind, hg_recv hK o_c_27 rfl, PcT_pre hK hH⟩ rfl rfl hl.1 rfl (lv_room (Nat.le_of_ble_eq_true rfl)) dX12_readRule_20 ⟨Nat.zero_le _, Nat.zero_le _⟩) hS (fun q _ h => AF.mono hS.1 h) (fun q h => AF.mono hS.1 h) (fun x_50 ux_50 t H locs ht hvm hx_50 hB hz hk hS => ?_)
    obtain ⟨eTx_50, eGx_50⟩ := hx_50
    obtain ⟨G_51, eG_51⟩ : ∃ z, z = ux_50.2 := ⟨_, rfl⟩
    rw [← eG_51] at eGx_50
    obtain ⟨hr_52, hg_53, hm_54, hq_55⟩ := eGx_50
    have hfr_56 : FR [109, 110] [] [] G_18 G_51 := FR.ps FR.rf hg_53 (by decide) (by decide)
    have fr_57 : FR [102, 107, 108, 109, 110, 114] [] [106] G G_51 := FR.tr fr_19 hfr_56 (by decide) (fun _ _ => trivial) (by decide)
    have u_58 : G_51.1 107 = (G.1 102) := (hfr_56.1 107 (by decide)).trans u_20
    have u_59 : G_51.1 108 = 40 := (hfr_56.1 108 (by decide)).trans u_21
    have u_60 : G_51.1 102 = 0 := (hfr_56.1 102 (by decide)).trans u_24
    have u_61 : G_51.1 114 = 0 := (hfr_56.1 114 (by decide)).trans u_25
    have u_62 : G_51.2.2 106 = some (g.2.2 101) := (hfr_56.2.2 106 (by decide)).trans u_26
    have hPE_63 := PE.ps hPE_49 hg_53 hq_55
    have hH : HT g Ty G_51 H := by rw [← ht, ← eTx_50, eG_51]; exact hB
    refine lv_pop hx hb dX12_readRule_23 rfl ?_
    refine lv_aload_n hx hb dX12_readRule_24 rfl (lv_at hl 0 rfl) ?_
    obtain ⟨_, ⟨rfl, t_65, hk_66⟩, o_c_64⟩ := hH h0 _ k_h0
    refine va_calli (va_runV (As := []) (rest := []) ⟨hx, hb, hml, hown, hts⟩ (c_X12_wasRight l g Ty G_51 H.size h0 k_h0 (g.2.2 101) 80 (G_18.2.1 (g.2.2 101)) (G_18.2.1 (g.2.2 115)) (G.1 102) 40 0 40 _ _ hPE_63) (cwV 0 hts (gwV mw_1490 mw_1492 mw_45 mw_88 mw_1493) rfl rfl rfl hv_X12_wasRight ⟨Nat.le_of_ble_eq_true rfl, Nat.le_of_ble_eq_true rfl⟩) ⟨PcT_blind, hg_recv hK o_c_64 rfl, PcT_pre hK hH⟩ rfl rfl hl.1 rfl (lv_room (Nat.le_of_ble_eq_true rfl)) dX12_readRule_25 ⟨Nat.zero_le _, Nat.zero_le _⟩) hS (fun q _ h => AF.mono hS.1 h) (fun q h => AF.mono hS.1 h) (fun x_67 ux_67 t H locs ht hvm hx_67 hB hz hk hS => ?_)
    obtain ⟨eTx_67, eGx_67⟩ := hx_67
    obtain ⟨G_68, eG_68⟩ : ∃ z, z = ux_67.2 := ⟨_, rfl⟩
    rw [← eG_68] at eGx_67
    obtain ⟨hr_69, hg_70, hm_71, hq_72⟩ := eGx_67
    have hfr_73 : FR [109, 110] [] [] G_51 G_68 := FR.ps FR.rf hg_70 (by decide) (by decide)
    have fr_74 : FR [102, 107, 108, 109, 110, 114] [] [106] G G_68 := FR.tr fr_57 hfr_73 (by decide) (fun _ _ => trivial) (by decide)
    have u_75 : G_68.1 107 = (G.1 102) := (hfr_73.1 107 (by decide)).trans u_58
    have u_76 : G_68.1 108 = 40 := (hfr_73.1 108 (by decide)).trans u_59
    have u_77 : G_68.1 102 = 0 := (hfr_73.1 102 (by decide)).trans u_60
    have u_78 : G_68.1 114 = 0 := (hfr_73.1 114 (by decide)).trans u_61
    have u_79 : G_68.2.2 106 = some (g.2.2 101) := (hfr_73.2.2 106 (by decide)).trans u_62
    have hPE_80 := PE.ps hPE_63 hg_70 hq_72
    have hH : HT g Ty G_68 H := by rw [← ht, ← eTx_67, eG_68]; exact hB
    have w01_81 : rgI 0 1 x_67 := wr_01 hr_69
    exact W.zret hx hb hr (nz01 w01_81) (fun t ht hWm => ⟨⟨x_67, (Ty, G_68), rfl, ⟨rg_w w01_81 (by decide) (by decide), ⟨rfl, ⟨fr_74, ⟨u_77, fun q => Int.le_trans (wr_1 hr_69 q (PE.ra8 hPE_63) (by decide)) ((PE.ra hPE_63)).2⟩⟩⟩⟩, by show HT g Ty G_68 t.heap; rw [ht]; exact hH⟩, hS.F ht⟩) hS.2.2 dX12_readRule_28
