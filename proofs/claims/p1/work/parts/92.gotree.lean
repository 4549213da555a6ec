set_option maxHeartbeats 4000000 in
set_option maxRecDepth 100000 in
theorem c_X12_goTree (l : Launch) (g : Gx) (Ty : TyM) (G : Gh) (sz : Nat) (h0 : Nat) (b0 : Nat) (a1 : Int32) (a2 : Int32) (a3 : Int32) (k_h0 : Ty h0 = some (22, 0)) (k_b0 : Ty b0 = some (30, 122)) (pr1 : rgI (0) (23) a1) (pr2 : rgI (0) (23) a2) (pr3 : rgI (0) (3) a3) (hb9 : b0 ≠ g.2.2 129) (Bd : Int) (hTI : TI Bd (G.2.1 b0)) (hBd : Bd ≤ 2000000) (rl : Nat) (krl : Ty rl = some (31, 40)) (hr1 : G.2.2 111 = some rl) (hr3 : rgI 0 40 (G.1 113)) (hLD : LD g) (hRT : (thr (G.2.1 b0) a1 ∧ thr (G.2.1 b0) a2 ∧ rgI 0 3 a3 ∧ F_X12_atOf (G.2.1 b0) a2 a3 = 24 ∧ (G.2.1 b0) (48 + a2.toNatClampNeg) = 0 ∧ ct (isT (G.2.1 b0)) 24 + TZ (G.2.1 b0) 25 a1 ≤ 24)) : Met l yX12_goTree (wsG yX12_goTree cX12_goTree 6 (some .int)) ({ frames := 341, cells := 0, slots := 0, locals := 8001 }) (PcT g Ty G sz [.ref h0, .ref b0, .int a1, .int a2, .int a3]) (QwI g Ty sz (fun r u => u.1 = Ty ∧ FR [107, 108, 109, 110, 114, 127, 128] [b0, (g.2.2 115), (g.2.2 125), (g.2.2 126), (g.2.2 129)] [106] G u.2 ∧ TI (Bd + 25) (u.2.2.1 b0))) 0 0 (AF Ty sz) := by
  refine Met.ofW (cc := cX12_goTree) (maxL := 6) (ret := (some .int)) (by decide) rfl ?_
  intro p e s m args below meth c s₁ B hml hv
  obtain ⟨rfl, hsz, hK, hH⟩ := hv
  subst hsz
  have hx := B.exec
  have hb := B.bytes
  have hr := B.returns
  have hts := atoms_spec (ws := (wsG yX12_goTree cX12_goTree 6 (some .int))) B.pre
  have hG : ∀ w ∈ GW, w.before ([.ref h0, .ref b0, .int a1, .int a2, .int a3] : List Value).toArray s = true := fun w h => hts w (List.mem_cons_of_mem _ h)
  have hown : s.vm.findClass RX12 = some m.cls := findClass_of_methodNamed B.named
  have hlocks := B.notSynchronized
  have hl := lv_entry [.ref h0, .ref b0, .int a1, .int a2, .int a3] (n := 6) (Nat.le_of_ble_eq_true rfl)
  rw [lg_entry_eq]
  generalize (lg_sl [.ref h0, .ref b0, .int a1, .int a2, .int a3] ++ List.replicate (6 - (lg_sl [.ref h0, .ref b0, .int a1, .int a2, .int a3]).length) Slot.unset).toArray = ls at hl ⊢
  have hl : lv_has ls 6 [(0, .ref h0), (1, .ref b0), (2, .int a1), (3, .int a2), (4, .int a3)] := hl
  have hmk : mdK g Ty := mdk_of hH k_h0
  have hS : va_S (AF Ty s.heap.size) s.heap s.heap [] := va_S.rf
  obtain ⟨⟨σ0, hTS0⟩, h10, hBB0⟩ := id hTI
  obtain ⟨ρ, hT⟩ := hTS0.1
  have hUB0 := hTS0.2.2.2.1
  have hcom := com_tree (rl := G.2.1 rl) (size := G.1 113) hRT.2.1 hRT.2.2.1 hRT.2.2.2.1 hRT.2.2.2.2.1 (TZ_1 25 a1) hRT.2.2.2.2.2
  refine lv_aload_n hx hb dX12_goTree_0 rfl (lv_at hl 1 rfl) ?_
  refine lv_aload_n hx hb dX12_goTree_1 rfl (lv_at hl 0 rfl) ?_
  obtain ⟨_, ⟨rfl, t_2, hk_3⟩, o_c_1⟩ := hH h0 _ k_h0
  refine hg_get hx hb hG igX12 hown hK o_c_1 rfl 29 (by decide) (hG _ mw_1313) rfl dX12_goTree_2 ?_
  refine lv_iconst (v := 0) hx hb dX12_goTree_5 (by decide) ?_
  refine va_callv (va_runS (As := [.ref b0, .ref (g.2.2 129), .int 0]) (rest := []) ⟨hx, hb, hml, hown, hts⟩ (c_X12_lay_a l g Ty G s.heap.size b0 (g.2.2 129) 0 k_b0 (hk_3.2.2.2.2.2.2.2.2.2.2.1) (rg_w rl_0 (by decide) (by decide)) hb9) (cwSx 3 hts hG (gwC mw_1583) mw_88 mw_1581 mw_1582 rfl rfl rfl hd_X12_lay ⟨Nat.le_of_ble_eq_true rfl, Nat.le_of_ble_eq_true rfl⟩) ⟨PcT_blind, PcT_pre hK hH⟩ rfl rfl hl.1 rfl (lv_room (Nat.le_of_ble_eq_true rfl)) dX12_goTree_6 ⟨Nat.zero_le _, Nat.zero_le _⟩) hS (fun q _ h => AF.mono hS.1 h) (fun q h => AF.mono hS.1 h) (fun ux_4 t H locs ht hvm hx_4 hB hz hk hS => ?_)
  obtain ⟨eTx_4, eGx_4⟩ := hx_4
  obtain ⟨G_5, eG_5⟩ : ∃ z, z = ux_4.2 := ⟨_, rfl⟩
  rw [← eG_5] at eGx_4
  obtain ⟨hfr_6, hex_7⟩ := eGx_4
  have fr_8 : FR [107, 108, 109, 110, 114, 127, 128] [b0, (g.2.2 115), (g.2.2 125), (g.2.2 126), (g.2.2 129)] [106] G G_5 := FR.tr FR.rf hfr_6 (by decide) (fun b h => ⟨h.2.2.2.2.1, trivial⟩) (by decide)
  have u_9 : G_5.1 113 = (G.1 113) := (hfr_6.1 113 (by decide))
  have w_10 : G_5.2.1 b0 = (G.2.1 b0) := (hfr_6.2.1 b0 ⟨hb9, trivial⟩)
  have w_11 : G_5.2.1 rl = (G.2.1 rl) := (hfr_6.2.1 rl ⟨(ne_kd krl hmk.2.2.2.2.2.2.2.2.2.2.1 (by decide)), trivial⟩)
  have u_12 : G_5.2.2 111 = some rl := (hfr_6.2.2 111 (by decide)).trans hr1
  obtain ⟨f_13, ef_13⟩ : ∃ z : Nat → Int32, G_5.2.1 (g.2.2 129) = z := ⟨_, rfl⟩
  have ly_14 := hex_7
  rw [ef_13] at ly_14
  have hH : HT g Ty G_5 H := by rw [← ht, ← eTx_4, eG_5]; exact hB
  have sr_15 : SR (G.2.1 b0) f_13 := LY_sr ly_14
  obtain ⟨⟨σ_16, hts_17⟩, h1_18, hb_19⟩ := id hTI
  refine lv_aload_n hx hb dX12_goTree_9 rfl (lv_at hl 0 rfl) ?_
  refine lv_aload_n hx hb dX12_goTree_10 rfl (lv_at hl 1 rfl) ?_
  refine lv_iload_n hx hb dX12_goTree_11 rfl (lv_at hl 2 rfl) ?_
  refine lv_iload_n hx hb dX12_goTree_12 rfl (lv_at hl 3 rfl) ?_
  refine lv_iload hx hb dX12_goTree_13 (lv_at hl 4 rfl) ?_
  obtain ⟨_, ⟨rfl, t_21, hk_22⟩, o_c_20⟩ := hH h0 _ k_h0
  refine va_calli (va_runV (As := [.ref b0, .int a1, .int a2, .int a3]) (rest := []) ⟨hx, hb, hml, hown, hts⟩ (c_X12_goClone l g Ty G_5 H.size h0 b0 a1 a2 a3 k_h0 k_b0 (rg_w pr1 (by decide) (by decide)) (rg_w pr2 (by decide) (by decide)) (rg_w pr3 (by decide) (by decide)) rl krl u_12 (by rw [u_9]; exact hr3) hLD σ_16 (by rw [w_10]; exact hts_17) (by rw [w_10]; exact h1_18) Bd (by rw [w_10]; exact hb_19) (by rw [w_10]; exact (Int.le_trans hb_19 hBd)) (by rw [w_10]; exact (Or.inr hRT.1)) (by rw [w_10, w_11, u_9]; exact hcom.1)) (cwV 4 hts (gwV mw_1584 mw_1586 mw_54 mw_88 mw_1587) rfl rfl rfl hv_X12_goClone ⟨Nat.le_of_ble_eq_true rfl, Nat.le_of_ble_eq_true rfl⟩) ⟨PcT_blind, hg_recv hK o_c_20 rfl, PcT_pre hK hH⟩ rfl rfl hl.1 rfl (lv_room (Nat.le_of_ble_eq_true rfl)) dX12_goTree_15 ⟨Nat.zero_le _, Nat.zero_le _⟩) hS (fun q _ h => AF.mono hS.1 h) (fun q h => AF.mono hS.1 h) (fun x_23 ux_23 t H locs ht hvm hx_23 hB hz hk hS => ?_)
  obtain ⟨eTx_23, eGx_23⟩ := hx_23
  obtain ⟨G_24, eG_24⟩ : ∃ z, z = ux_23.2 := ⟨_, rfl⟩
  rw [← eG_24] at eGx_23
  obtain ⟨hfr_25, hex_26⟩ := eGx_23
  have fr_27 : FR [107, 108, 109, 110, 114, 127, 128] [b0, (g.2.2 115), (g.2.2 125), (g.2.2 126), (g.2.2 129)] [106] G G_24 := FR.tr fr_8 hfr_25 (by decide) (fun b h => ⟨h.1, h.2.1, h.2.2.1, h.2.2.2.1, trivial⟩) (by decide)
  have u_28 : G_24.1 113 = (G.1 113) := (hfr_25.1 113 (by decide)).trans u_9
  have w_29 : G_24.2.1 rl = (G.2.1 rl) := (hfr_25.2.1 rl ⟨(ne_kd krl k_b0 (by decide)), (ne_kd krl hmk.2.2.2.1 (by decide)), (ne_kd krl hmk.2.2.2.2.2.2.2.2.1 (by decide)), (ne_kd krl hmk.2.2.2.2.2.2.2.2.2.1 (by decide)), trivial⟩).trans w_11
  have w_30 : G_24.2.1 (g.2.2 129) = f_13 := (hfr_25.2.1 (g.2.2 129) ⟨(Ne.symm hb9), (ne_kd hmk.2.2.2.2.2.2.2.2.2.2.1 hmk.2.2.2.1 (by decide)), (ne_kd hmk.2.2.2.2.2.2.2.2.2.2.1 hmk.2.2.2.2.2.2.2.2.1 (by decide)), (ne_kd hmk.2.2.2.2.2.2.2.2.2.2.1 hmk.2.2.2.2.2.2.2.2.2.1 (by decide)), trivial⟩).trans ef_13
  have u_31 : G_24.2.2 111 = some rl := (hfr_25.2.2 111 (by decide)).trans u_12
  obtain ⟨f_32, ef_32⟩ : ∃ z : Nat → Int32, G_24.2.1 b0 = z := ⟨_, rfl⟩
  have gc_33 := hex_26
  rw [ef_32, w_10, w_11, u_9] at gc_33
  have hH : HT g Ty G_24 H := by rw [← ht, ← eTx_23, eG_24]; exact hB
  obtain ⟨σ_34, hts_35⟩ := gc_33.1.1
  refine lv_istore (lv' := [(5, .int x_23), (0, .ref h0), (1, .ref b0), (2, .int a1), (3, .int a2), (4, .int a3)]) hx hb dX12_goTree_18 hl (by decide) rfl (fun ls hl => ?_)
  refine lv_aload_n hx hb dX12_goTree_20 rfl (lv_at hl 1 rfl) ?_
  refine lv_aload_n hx hb dX12_goTree_21 rfl (lv_at hl 2 rfl) ?_
  refine lv_iload_n hx hb dX12_goTree_22 rfl (lv_at hl 3 rfl) ?_
  refine lv_iload hx hb dX12_goTree_23 (lv_at hl 0 rfl) ?_
  obtain ⟨_, ⟨rfl, t_37, hk_38⟩, o_c_36⟩ := hH h0 _ k_h0
  refine va_callv (va_runV (As := [.ref b0, .int a1, .int x_23]) (rest := []) ⟨hx, hb, hml, hown, hts⟩ (c_X12_goInside l g 25 Ty G_24 H.size h0 b0 a1 x_23 k_h0 k_b0 (rg_w pr1 (by decide) (by decide)) hb9 ρ (by rw [w_30]; exact (SR_p1 sr_15 hT)) (by rw [w_30]; exact (SR_ub sr_15 hUB0)) (by rw [w_30]; exact (sr_15.thr hRT.1)) σ_34 (f_32 121) (by rw [ef_32]; exact hts_35) (by rw [ef_32]; exact gc_33.2.1) (by rw [w_30]; exact (PV_of sr_15 gc_33.2.2.1 hts_35)) (by rw [ef_32, w_30]; exact gt_cnt sr_15 gc_33.2.2.2 hcom.2 hRT.2.2.2.2.2) (by omega)) (cwV 3 hts (gwV mw_1632 mw_1634 mw_61 mw_88 mw_1635) rfl rfl rfl hv_X12_goInside ⟨Nat.le_of_ble_eq_true rfl, Nat.le_of_ble_eq_true rfl⟩) ⟨PcT_blind, hg_recv hK o_c_36 rfl, PcT_pre hK hH⟩ rfl rfl hl.1 rfl (lv_room (Nat.le_of_ble_eq_true rfl)) dX12_goTree_25 ⟨Nat.zero_le _, Nat.zero_le _⟩) hS (fun q _ h => AF.mono hS.1 h) (fun q h => AF.mono hS.1 h) (fun ux_39 t H locs ht hvm hx_39 hB hz hk hS => ?_)
  obtain ⟨eTx_39, eGx_39⟩ := hx_39
  obtain ⟨G_40, eG_40⟩ : ∃ z, z = ux_39.2 := ⟨_, rfl⟩
  rw [← eG_40] at eGx_39
  obtain ⟨hfr_41, hex_42⟩ := eGx_39
  have fr_43 : FR [107, 108, 109, 110, 114, 127, 128] [b0, (g.2.2 115), (g.2.2 125), (g.2.2 126), (g.2.2 129)] [106] G G_40 := FR.tr fr_27 hfr_41 (by decide) (fun b h => ⟨h.1, trivial⟩) (by decide)
  have u_44 : G_40.1 113 = (G.1 113) := (hfr_41.1 113 (by decide)).trans u_28
  have w_45 : G_40.2.1 rl = (G.2.1 rl) := (hfr_41.2.1 rl ⟨(ne_kd krl k_b0 (by decide)), trivial⟩).trans w_29
  have w_46 : G_40.2.1 (g.2.2 129) = f_13 := (hfr_41.2.1 (g.2.2 129) ⟨(Ne.symm hb9), trivial⟩).trans w_30
  have u_47 : G_40.2.2 111 = some rl := (hfr_41.2.2 111 (by decide)).trans u_31
  obtain ⟨f_48, ef_48⟩ : ∃ z : Nat → Int32, G_40.2.1 b0 = z := ⟨_, rfl⟩
  have gi_49 := hex_42
  rw [ef_48, ef_32, w_30] at gi_49
  have hH : HT g Ty G_40 H := by rw [← ht, ← eTx_39, eG_40]; exact hB
  refine lv_iload hx hb dX12_goTree_28 (lv_at hl 0 rfl) ?_
  exact W.iret hx hb hr (fun t ht hWm => ⟨⟨x_23, (Ty, G_40), rfl, ⟨rfl, ⟨fr_43, (by rw [ef_48]; exact gt_end gi_49 gc_33.1)⟩⟩, by show HT g Ty G_40 t.heap; rw [ht]; exact hH⟩, hS.F ht⟩) hS.2.2 dX12_goTree_30
