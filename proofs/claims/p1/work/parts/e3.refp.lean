def F_X12_spread_x (r0 : Nat → Int32) (a0 : Int32) : Int32 := (if (F_X12_isThere r0 a0) = (0 : Int32) then (-1 : Int32) else (F_X12_tellBits_x (F_X12_spreadOf r0 a0)))
set_option maxHeartbeats 4000000 in
set_option maxRecDepth 100000 in
theorem c_X12_spread_x (l : Launch) (g : Gx) (Ty : TyM) (G : Gh) (sz : Nat) (h0 : Nat) (a0 : Int32) (k_h0 : Ty h0 = some (22, 0)) (Bd : Int) (hI : OI g Bd G) (hBd : Bd ≤ 1900000) (hLD : LD g) : Met l yX12_spread (wsG yX12_spread cX12_spread 2 (some .int)) ({ frames := 4, cells := 0, slots := 0, locals := 90 }) (PcT g Ty G sz [.ref h0, .int a0]) (QwI g Ty sz (fun r u => u.1 = Ty ∧ FR [104, 105] [] [] G u.2 ∧ OI g (Bd + 1000) u.2 ∧ F_X12_spread_x (G.2.1 (g.2.2 100)) a0 = r)) 0 0 (AF Ty sz) := by
  refine Met.ofW (cc := cX12_spread) (maxL := 2) (ret := (some .int)) (by decide) rfl ?_
  intro p e s m args below meth c s₁ B hml hv
  obtain ⟨rfl, hsz, hK, hH⟩ := hv
  subst hsz
  have hx := B.exec
  have hb := B.bytes
  have hr := B.returns
  have hts := atoms_spec (ws := (wsG yX12_spread cX12_spread 2 (some .int))) B.pre
  have hG : ∀ w ∈ GW, w.before ([.ref h0, .int a0] : List Value).toArray s = true := fun w h => hts w (List.mem_cons_of_mem _ h)
  have hown : s.vm.findClass RX12 = some m.cls := findClass_of_methodNamed B.named
  have hlocks := B.notSynchronized
  have hl := lv_entry [.ref h0, .int a0] (n := 2) (Nat.le_of_ble_eq_true rfl)
  rw [lg_entry_eq]
  generalize (lg_sl [.ref h0, .int a0] ++ List.replicate (2 - (lg_sl [.ref h0, .int a0]).length) Slot.unset).toArray = ls at hl ⊢
  have hl : lv_has ls 2 [(0, .ref h0), (1, .int a0)] := hl
  have hmk : mdK g Ty := mdk_of hH k_h0
  have hv : (if (F_X12_isThere (G.2.1 (g.2.2 100)) a0) = (0 : Int32) then (-1 : Int32) else (F_X12_tellBits_x (F_X12_spreadOf (G.2.1 (g.2.2 100)) a0))) = F_X12_spread_x (G.2.1 (g.2.2 100)) a0 := rfl
  have hS : va_S (AF Ty s.heap.size) s.heap s.heap [] := va_S.rf
  obtain ⟨⟨σ0, hTS0⟩, h10, hBB0⟩ := id hI.ti
  obtain ⟨ρ, hT⟩ := hTS0.1
  refine lv_aload_n hx hb dX12_spread_0 rfl (lv_at hl 0 rfl) ?_
  refine lv_iconst (v := 0) hx hb dX12_spread_1 (by decide) ?_
  obtain ⟨_, ⟨rfl, t_2, hk_3⟩, o_c_1⟩ := hH h0 _ k_h0
  refine hg_put (ty := .int) hx hb hG igX12 tyX12 tyX12_ok nmX12 hown hK hS o_c_1 (AF.of k_h0) rfl 5 (by decide) (hG _ mw_1289) rfl (by decide +kernel) rfl rfl (Nat.le_of_ble_eq_true rfl) dX12_spread_2 (fun H locs o_c_1 hz oq hS => ?_)
  obtain ⟨G_4, eG_4⟩ : ∃ z : Gh, z = gset G 105 0 := ⟨_, rfl⟩
  have hH : HT g Ty G_4 H := by rw [eG_4]; exact HT.putN 105 0 hH k_h0 ⟨rfl, t_2, hk_3⟩ o_c_1 oq (Or.inr (Or.inr (Or.inr (Or.inr (Or.inr ⟨by decide, t_2⟩)))))
  have fr_5 : FR [104, 105] [] [] G G_4 := FR.n FR.rf eG_4 (by decide)
  have u_6 : G_4.1 102 = (G.1 102) := by rw [eG_4]; exact (gs_ne (by decide))
  have u_7 : G_4.1 104 = (G.1 104) := by rw [eG_4]; exact (gs_ne (by decide))
  have u_8 : G_4.1 113 = (G.1 113) := by rw [eG_4]; exact (gs_ne (by decide))
  have u_9 : G_4.1 122 = (G.1 122) := by rw [eG_4]; exact (gs_ne (by decide))
  have u_10 : G_4.1 133 = (G.1 133) := by rw [eG_4]; exact (gs_ne (by decide))
  have u_11 : G_4.1 137 = (G.1 137) := by rw [eG_4]; exact (gs_ne (by decide))
  have u_12 : G_4.1 105 = 0 := by rw [eG_4]; exact gs_eq
  have w_13 : G_4.2.1 (g.2.2 100) = (G.2.1 (g.2.2 100)) := by rw [eG_4]; exact rfl
  have w_14 : G_4.2.1 (g.2.2 121) = (G.2.1 (g.2.2 121)) := by rw [eG_4]; exact rfl
  have w_15 : G_4.2.1 (g.2.2 140) = (G.2.1 (g.2.2 140)) := by rw [eG_4]; exact rfl
  have w_16 : G_4.2.1 (g.2.2 141) = (G.2.1 (g.2.2 141)) := by rw [eG_4]; exact rfl
  have w_17 : G_4.2.1 (g.2.2 111) = (G.2.1 (g.2.2 111)) := by rw [eG_4]; exact rfl
  have u_18 : G_4.2.2 111 = some (g.2.2 111) := by rw [eG_4]; exact hI.r111
  have u_19 : G_4.2.2 112 = some (g.2.2 112) := by rw [eG_4]; exact hI.r112
  clear oq hz
  refine lv_aload_n hx hb dX12_spread_5 rfl (lv_at hl 0 rfl) ?_
  obtain ⟨_, ⟨rfl, t_21, hk_22⟩, o_c_20⟩ := hH h0 _ k_h0
  refine hg_get hx hb hG igX12 hown hK o_c_20 rfl 0 (by decide) (hG _ mw_1284) rfl dX12_spread_6 ?_
  refine lv_iload_n hx hb dX12_spread_9 rfl (lv_at hl 1 rfl) ?_
  refine vp_callSi (W.runS (As := [.ref (g.2.2 100), .int a0]) (rest := []) ⟨hx, hb, hml, hown, hts⟩ (c_X12_isThere l g Ty G_4 (g.2.2 100) a0 (hk_22.1)) (cwSx 2 hts hG (gwC mw_1520) mw_88 mw_1518 mw_1519 rfl rfl rfl hd_X12_isThere ⟨Nat.le_of_ble_eq_true rfl, Nat.le_of_ble_eq_true rfl⟩) ⟨PcH_blind, PcH_pre hK hH⟩ rfl rfl hl.1 rfl (lv_room (Nat.le_of_ble_eq_true rfl)) dX12_spread_10 ⟨Nat.zero_le _, Nat.zero_le _⟩) (fun x_23 hx_23 => ?_)
  have rx_23 : rgI (0) (1) x_23 := hx_23.1
  try rw [← hx_23.2.2] at hv
  have ex_24 : x_23 = F_X12_isThere (G.2.1 (g.2.2 100)) a0 := by rw [← w_13]; exact hx_23.2.2
  try rw [← ex_24] at hv
  refine lv_if_ne (tgt := 18) hx hb dX12_spread_13 (by decide) (fun c_25 => ?_) (fun c_25 => ?_)
  · rw [if_neg c_25] at hv
    have th_26 : thr (G.2.1 (g.2.2 100)) a0 := F_isThere_thr (by rw [← ex_24]; exact c_25)
    have r_27 : rgI (1) (1) x_23 := rg_w (rg_neL rx_23 rl_0 c_25) (by decide) (by decide)
    have r_28 : rgI (0) (23) a0 := rg_w (hx_23.2.1.resolve_left c_25) (by decide) (by decide)
    refine lv_aload_n hx hb dX12_spread_18 rfl (lv_at hl 0 rfl) ?_
    refine lv_aload_n hx hb dX12_spread_19 rfl (lv_at hl 0 rfl) ?_
    refine hg_get hx hb hG igX12 hown hK o_c_20 rfl 0 (by decide) (hG _ mw_1284) rfl dX12_spread_20 ?_
    refine lv_iload_n hx hb dX12_spread_23 rfl (lv_at hl 1 rfl) ?_
    refine vp_callSi (W.runS (As := [.ref (g.2.2 100), .int a0]) (rest := [.ref h0]) ⟨hx, hb, hml, hown, hts⟩ (c_X12_spreadOf l g Ty G_4 (g.2.2 100) a0 (hk_22.1) (by rw [w_13]; exact th_26)) (cwSx 2 hts hG (gwC mw_1560) mw_88 mw_1558 mw_1559 rfl rfl rfl hd_X12_spreadOf ⟨Nat.le_of_ble_eq_true rfl, Nat.le_of_ble_eq_true rfl⟩) ⟨PcH_blind, PcH_pre hK hH⟩ rfl rfl hl.1 rfl (lv_room (Nat.le_of_ble_eq_true rfl)) dX12_spread_24 ⟨Nat.zero_le _, Nat.zero_le _⟩) (fun x_29 hx_29 => ?_)
    try rw [← hx_29.2] at hv
    have ex_30 : x_29 = F_X12_spreadOf (G.2.1 (g.2.2 100)) a0 := by rw [← w_13]; exact hx_29.2
    have tx_31 := hx_29.1
    try rw [w_13] at tx_31
    try rw [w_17] at tx_31
    try rw [u_8] at tx_31
    try rw [← ex_30] at hv
    refine va_calli (va_runV (As := [.int x_29]) (rest := []) ⟨hx, hb, hml, hown, hts⟩ (c_X12_tellBits_x l g Ty G_4 H.size h0 x_29 k_h0) (cwV 1 hts (gwV mw_1704 mw_1706 mw_67 mw_88 mw_1707) rfl rfl rfl hv_X12_tellBits ⟨Nat.le_of_ble_eq_true rfl, Nat.le_of_ble_eq_true rfl⟩) ⟨PcT_blind, hg_recv hK o_c_20 rfl, PcT_pre hK hH⟩ rfl rfl hl.1 rfl (lv_room (Nat.le_of_ble_eq_true rfl)) dX12_spread_27 ⟨Nat.zero_le _, Nat.zero_le _⟩) hS (fun q _ h => AF.mono hS.1 h) (fun q h => AF.mono hS.1 h) (fun x_32 ux_32 t H locs ht hvm hx_32 hB hz hk hS => ?_)
    obtain ⟨eTx_32, eGx_32⟩ := hx_32
    obtain ⟨G_33, eG_33⟩ : ∃ z, z = ux_32.2 := ⟨_, rfl⟩
    rw [← eG_33] at eGx_32
    obtain ⟨hfr_34, hex_35⟩ := eGx_32
    have fr_36 : FR [104, 105] [] [] G G_33 := FR.tr fr_5 hfr_34 (by decide) (fun _ _ => trivial) (by decide)
    have u_37 : G_33.1 102 = (G.1 102) := (hfr_34.1 102 (by decide)).trans u_6
    have u_38 : G_33.1 113 = (G.1 113) := (hfr_34.1 113 (by decide)).trans u_8
    have u_39 : G_33.1 122 = (G.1 122) := (hfr_34.1 122 (by decide)).trans u_9
    have u_40 : G_33.1 133 = (G.1 133) := (hfr_34.1 133 (by decide)).trans u_10
    have u_41 : G_33.1 137 = (G.1 137) := (hfr_34.1 137 (by decide)).trans u_11
    have u_42 : G_33.1 105 = 0 := (hfr_34.1 105 (by decide)).trans u_12
    have w_43 : G_33.2.1 (g.2.2 100) = (G.2.1 (g.2.2 100)) := (hfr_34.2.1 (g.2.2 100) trivial).trans w_13
    have w_44 : G_33.2.1 (g.2.2 121) = (G.2.1 (g.2.2 121)) := (hfr_34.2.1 (g.2.2 121) trivial).trans w_14
    have w_45 : G_33.2.1 (g.2.2 140) = (G.2.1 (g.2.2 140)) := (hfr_34.2.1 (g.2.2 140) trivial).trans w_15
    have w_46 : G_33.2.1 (g.2.2 141) = (G.2.1 (g.2.2 141)) := (hfr_34.2.1 (g.2.2 141) trivial).trans w_16
    have w_47 : G_33.2.1 (g.2.2 111) = (G.2.1 (g.2.2 111)) := (hfr_34.2.1 (g.2.2 111) trivial).trans w_17
    have u_48 : G_33.2.2 111 = some (g.2.2 111) := (hfr_34.2.2 111 (by decide)).trans u_18
    have u_49 : G_33.2.2 112 = some (g.2.2 112) := (hfr_34.2.2 112 (by decide)).trans u_19
    obtain ⟨xa_50, xb_51⟩ := hex_35
    have hq_52 : F_X12_tellBits_x x_29 = x_32 := by have q := xb_51; exact q
    try rw [hq_52] at hv
    have t4_53 : rgI (1) (1) (G_33.1 104) := xa_50
    have hH : HT g Ty G_33 H := by rw [← ht, ← eTx_32, eG_33]; exact hB
    exact W.iret hx hb hr (fun t ht hWm => ⟨⟨x_32, (Ty, G_33), rfl, ⟨rfl, ⟨fr_36, ⟨⟨(by rw [u_37]; exact (rg_w hI.a102 (by decide) (by decide))), (rg_w t4_53 (by decide) (by decide)), (by rw [u_38]; exact (rg_w hI.a113 (by decide) (by decide))), (by rw [u_39]; exact (rg_w hI.a122 (by decide) (by decide))), (by rw [u_40]; exact (rg_w hI.a133 (by decide) (by decide))), (by rw [u_41]; exact (rg_w hI.a137 (by decide) (by decide))), u_48, u_49, (by rw [w_43]; exact (hI.ti.hi (show Bd ≤ Bd + 1000 by omega))), (hI.un2 (show Bd ≤ Bd + 1000 by omega) w_44 u_39), (hI.ke2 (show Bd ≤ Bd + 1000 by omega) w_45 w_46)⟩, hv.symm⟩⟩⟩, by show HT g Ty G_33 t.heap; rw [ht]; exact hH⟩, hS.F ht⟩) hS.2.2 dX12_spread_30
  · rw [if_pos c_25] at hv
    have r_54 : rgI (0) (0) x_23 := rg_w (rg_eq rl_0 c_25) (by decide) (by decide)
    refine lv_iconst (v := (-1)) hx hb dX12_spread_16 (by decide) ?_
    exact W.iret hx hb hr (fun t ht hWm => ⟨⟨(-1), (Ty, G_4), rfl, ⟨rfl, ⟨fr_5, ⟨⟨(by rw [u_6]; exact (rg_w hI.a102 (by decide) (by decide))), (by rw [u_7]; exact (rg_w hI.a104 (by decide) (by decide))), (by rw [u_8]; exact (rg_w hI.a113 (by decide) (by decide))), (by rw [u_9]; exact (rg_w hI.a122 (by decide) (by decide))), (by rw [u_10]; exact (rg_w hI.a133 (by decide) (by decide))), (by rw [u_11]; exact (rg_w hI.a137 (by decide) (by decide))), u_18, u_19, (by rw [w_13]; exact (hI.ti.hi (show Bd ≤ Bd + 1000 by omega))), (hI.un2 (show Bd ≤ Bd + 1000 by omega) w_14 u_9), (hI.ke2 (show Bd ≤ Bd + 1000 by omega) w_15 w_16)⟩, hv.symm⟩⟩⟩, by show HT g Ty G_4 t.heap; rw [ht]; exact hH⟩, hS.F ht⟩) hS.2.2 dX12_spread_17

def F_X12_peers_x (r0 : Nat → Int32) (a0 : Int32) : Int32 := (if (F_X12_isThere r0 a0) = (0 : Int32) then (-1 : Int32) else (if (r0 (Int32.toNatClampNeg ((48 : Int32) + a0))) = (0 : Int32) then (if (r0 (Int32.toNatClampNeg ((48 : Int32) + a0))) = (0 : Int32) then ((1 : Int32) <<< (a0 &&& 31)) else ((1 : Int32) <<< (a0 &&& 31))) else (if (r0 (Int32.toNatClampNeg ((48 : Int32) + a0))) = (0 : Int32) then (F_X12_inGroup r0 (r0 (Int32.toNatClampNeg ((48 : Int32) + a0)))) else (F_X12_inGroup r0 (r0 (Int32.toNatClampNeg ((48 : Int32) + a0)))))))
set_option maxHeartbeats 4000000 in
set_option maxRecDepth 100000 in
theorem c_X12_peers_x (l : Launch) (g : Gx) (Ty : TyM) (G : Gh) (sz : Nat) (h0 : Nat) (a0 : Int32) (k_h0 : Ty h0 = some (22, 0)) (Bd : Int) (hI : OI g Bd G) (hBd : Bd ≤ 1900000) (hLD : LD g) : Met l yX12_peers (wsG yX12_peers cX12_peers 4 (some .int)) ({ frames := 3, cells := 0, slots := 0, locals := 66 }) (PcT g Ty G sz [.ref h0, .int a0]) (QwI g Ty sz (fun r u => u.1 = Ty ∧ FR [104, 105] [] [] G u.2 ∧ OI g (Bd + 1000) u.2 ∧ F_X12_peers_x (G.2.1 (g.2.2 100)) a0 = r)) 0 0 (AF Ty sz) := by
  refine Met.ofW (cc := cX12_peers) (maxL := 4) (ret := (some .int)) (by decide) rfl ?_
  intro p e s m args below meth c s₁ B hml hv
  obtain ⟨rfl, hsz, hK, hH⟩ := hv
  subst hsz
  have hx := B.exec
  have hb := B.bytes
  have hr := B.returns
  have hts := atoms_spec (ws := (wsG yX12_peers cX12_peers 4 (some .int))) B.pre
  have hG : ∀ w ∈ GW, w.before ([.ref h0, .int a0] : List Value).toArray s = true := fun w h => hts w (List.mem_cons_of_mem _ h)
  have hown : s.vm.findClass RX12 = some m.cls := findClass_of_methodNamed B.named
  have hlocks := B.notSynchronized
  have hl := lv_entry [.ref h0, .int a0] (n := 4) (Nat.le_of_ble_eq_true rfl)
  rw [lg_entry_eq]
  generalize (lg_sl [.ref h0, .int a0] ++ List.replicate (4 - (lg_sl [.ref h0, .int a0]).length) Slot.unset).toArray = ls at hl ⊢
  have hl : lv_has ls 4 [(0, .ref h0), (1, .int a0)] := hl
  have hmk : mdK g Ty := mdk_of hH k_h0
  have hv : (if (F_X12_isThere (G.2.1 (g.2.2 100)) a0) = (0 : Int32) then (-1 : Int32) else (if ((G.2.1 (g.2.2 100)) (Int32.toNatClampNeg ((48 : Int32) + a0))) = (0 : Int32) then (if ((G.2.1 (g.2.2 100)) (Int32.toNatClampNeg ((48 : Int32) + a0))) = (0 : Int32) then ((1 : Int32) <<< (a0 &&& 31)) else ((1 : Int32) <<< (a0 &&& 31))) else (if ((G.2.1 (g.2.2 100)) (Int32.toNatClampNeg ((48 : Int32) + a0))) = (0 : Int32) then (F_X12_inGroup (G.2.1 (g.2.2 100)) ((G.2.1 (g.2.2 100)) (Int32.toNatClampNeg ((48 : Int32) + a0)))) else (F_X12_inGroup (G.2.1 (g.2.2 100)) ((G.2.1 (g.2.2 100)) (Int32.toNatClampNeg ((48 : Int32) + a0))))))) = F_X12_peers_x (G.2.1 (g.2.2 100)) a0 := rfl
  have hS : va_S (AF Ty s.heap.size) s.heap s.heap [] := va_S.rf
  obtain ⟨⟨σ0, hTS0⟩, h10, hBB0⟩ := id hI.ti
  obtain ⟨ρ, hT⟩ := hTS0.1
  refine lv_aload_n hx hb dX12_peers_0 rfl (lv_at hl 0 rfl) ?_
  refine lv_iconst (v := 0) hx hb dX12_peers_1 (by decide) ?_
  obtain ⟨_, ⟨rfl, t_2, hk_3⟩, o_c_1⟩ := hH h0 _ k_h0
  refine hg_put (ty := .int) hx hb hG igX12 tyX12 tyX12_ok nmX12 hown hK hS o_c_1 (AF.of k_h0) rfl 5 (by decide) (hG _ mw_1289) rfl (by decide +kernel) rfl rfl (Nat.le_of_ble_eq_true rfl) dX12_peers_2 (fun H locs o_c_1 hz oq hS => ?_)
  obtain ⟨G_4, eG_4⟩ : ∃ z : Gh, z = gset G 105 0 := ⟨_, rfl⟩
  have hH : HT g Ty G_4 H := by rw [eG_4]; exact HT.putN 105 0 hH k_h0 ⟨rfl, t_2, hk_3⟩ o_c_1 oq (Or.inr (Or.inr (Or.inr (Or.inr (Or.inr ⟨by decide, t_2⟩)))))
  have fr_5 : FR [104, 105] [] [] G G_4 := FR.n FR.rf eG_4 (by decide)
  have u_6 : G_4.1 102 = (G.1 102) := by rw [eG_4]; exact (gs_ne (by decide))
  have u_7 : G_4.1 104 = (G.1 104) := by rw [eG_4]; exact (gs_ne (by decide))
  have u_8 : G_4.1 113 = (G.1 113) := by rw [eG_4]; exact (gs_ne (by decide))
  have u_9 : G_4.1 122 = (G.1 122) := by rw [eG_4]; exact (gs_ne (by decide))
  have u_10 : G_4.1 133 = (G.1 133) := by rw [eG_4]; exact (gs_ne (by decide))
  have u_11 : G_4.1 137 = (G.1 137) := by rw [eG_4]; exact (gs_ne (by decide))
  have u_12 : G_4.1 105 = 0 := by rw [eG_4]; exact gs_eq
  have w_13 : G_4.2.1 (g.2.2 100) = (G.2.1 (g.2.2 100)) := by rw [eG_4]; exact rfl
  have w_14 : G_4.2.1 (g.2.2 121) = (G.2.1 (g.2.2 121)) := by rw [eG_4]; exact rfl
  have w_15 : G_4.2.1 (g.2.2 140) = (G.2.1 (g.2.2 140)) := by rw [eG_4]; exact rfl
  have w_16 : G_4.2.1 (g.2.2 141) = (G.2.1 (g.2.2 141)) := by rw [eG_4]; exact rfl
  have w_17 : G_4.2.1 (g.2.2 111) = (G.2.1 (g.2.2 111)) := by rw [eG_4]; exact rfl
  have u_18 : G_4.2.2 111 = some (g.2.2 111) := by rw [eG_4]; exact hI.r111
  have u_19 : G_4.2.2 112 = some (g.2.2 112) := by rw [eG_4]; exact hI.r112
  clear oq hz
  refine lv_aload_n hx hb dX12_peers_5 rfl (lv_at hl 0 rfl) ?_
  obtain ⟨_, ⟨rfl, t_21, hk_22⟩, o_c_20⟩ := hH h0 _ k_h0
  refine hg_get hx hb hG igX12 hown hK o_c_20 rfl 0 (by decide) (hG _ mw_1284) rfl dX12_peers_6 ?_
  refine lv_iload_n hx hb dX12_peers_9 rfl (lv_at hl 1 rfl) ?_
  refine vp_callSi (W.runS (As := [.ref (g.2.2 100), .int a0]) (rest := []) ⟨hx, hb, hml, hown, hts⟩ (c_X12_isThere l g Ty G_4 (g.2.2 100) a0 (hk_22.1)) (cwSx 2 hts hG (gwC mw_1520) mw_88 mw_1518 mw_1519 rfl rfl rfl hd_X12_isThere ⟨Nat.le_of_ble_eq_true rfl, Nat.le_of_ble_eq_true rfl⟩) ⟨PcH_blind, PcH_pre hK hH⟩ rfl rfl hl.1 rfl (lv_room (Nat.le_of_ble_eq_true rfl)) dX12_peers_10 ⟨Nat.zero_le _, Nat.zero_le _⟩) (fun x_23 hx_23 => ?_)
  have rx_23 : rgI (0) (1) x_23 := hx_23.1
  try rw [← hx_23.2.2] at hv
  have ex_24 : x_23 = F_X12_isThere (G.2.1 (g.2.2 100)) a0 := by rw [← w_13]; exact hx_23.2.2
  try rw [← ex_24] at hv
  refine lv_if_ne (tgt := 18) hx hb dX12_peers_13 (by decide) (fun c_25 => ?_) (fun c_25 => ?_)
  · rw [if_neg c_25] at hv
    have th_26 : thr (G.2.1 (g.2.2 100)) a0 := F_isThere_thr (by rw [← ex_24]; exact c_25)
    have r_27 : rgI (1) (1) x_23 := rg_w (rg_neL rx_23 rl_0 c_25) (by decide) (by decide)
    have r_28 : rgI (0) (23) a0 := rg_w (hx_23.2.1.resolve_left c_25) (by decide) (by decide)
    refine lv_aload_n hx hb dX12_peers_18 rfl (lv_at hl 0 rfl) ?_
    refine hg_get hx hb hG igX12 hown hK o_c_20 rfl 0 (by decide) (hG _ mw_1284) rfl dX12_peers_19 ?_
    refine lv_bipush (v := 48) hx hb dX12_peers_22 (by decide) ?_
    refine lv_iload_n hx hb dX12_peers_24 rfl (lv_at hl 1 rfl) ?_
    refine lv_iadd hx hb dX12_peers_25 ?_
    refine lv_topi (fun x_29 ex_29 => ?_)
    try rw [← ex_29] at hv
    have rx_29 : rgI (48) (71) x_29 := by rw [ex_29]; exact rg_w (rg_add rl_48 r_28 (by decide) (by decide)) (by decide) (by decide)
    obtain ⟨_, rfl, o_c_30⟩ := hH (g.2.2 100) _ hk_22.1
    have o_c_30 : va_at g.1 vwCl ((g.2.2 100), .inl (g.2.1 1, 122, .inl (G_4.2.1 (g.2.2 100)))) H := o_c_30
    refine hg_iald hx hb hK o_c_30 (rg_in (n := 122) rx_29 (by decide) (by decide)) dX12_peers_26 ?_
    rw [w_13]
    refine lv_topi (fun x_31 ex_31 => ?_)
    try rw [← ex_31] at hv
    refine lv_istore_n (lv' := [(2, .int x_31), (0, .ref h0), (1, .int a0)]) hx hb dX12_peers_27 rfl hl (by decide) rfl (fun ls hl => ?_)
    refine lv_iload_n hx hb dX12_peers_28 rfl (lv_at hl 0 rfl) ?_
    refine lv_if_ne (tgt := 38) hx hb dX12_peers_29 (by decide) (fun c_32 => ?_) (fun c_32 => ?_)
    · rw [if_neg c_32] at hv
      refine lv_aload_n hx hb dX12_peers_38 rfl (lv_at hl 1 rfl) ?_
      refine hg_get hx hb hG igX12 hown hK o_c_20 rfl 0 (by decide) (hG _ mw_1284) rfl dX12_peers_39 ?_
      refine lv_iload_n hx hb dX12_peers_42 rfl (lv_at hl 0 rfl) ?_
      refine vp_callSi (W.runS (As := [.ref (g.2.2 100), .int x_31]) (rest := []) ⟨hx, hb, hml, hown, hts⟩ (c_X12_inGroup l g Ty G_4 (g.2.2 100) x_31 (hk_22.1)) (cwSx 2 hts hG (gwC mw_1566) mw_88 mw_1564 mw_1565 rfl rfl rfl hd_X12_inGroup ⟨Nat.le_of_ble_eq_true rfl, Nat.le_of_ble_eq_true rfl⟩) ⟨PcH_blind, PcH_pre hK hH⟩ rfl rfl hl.1 rfl (lv_room (Nat.le_of_ble_eq_true rfl)) dX12_peers_43 ⟨Nat.zero_le _, Nat.zero_le _⟩) (fun x_33 hx_33 => ?_)
      try rw [← hx_33] at hv
      have ex_34 : x_33 = F_X12_inGroup (G.2.1 (g.2.2 100)) x_31 := by rw [← w_13]; exact hx_33
      try rw [← ex_34] at hv
      refine lv_istore_n (lv' := [(3, .int x_33), (2, .int x_31), (0, .ref h0), (1, .int a0)]) hx hb dX12_peers_46 rfl hl (by decide) rfl (fun ls hl => ?_)
      refine lv_aload_n hx hb dX12_peers_47 rfl (lv_at hl 2 rfl) ?_
      refine lv_iconst (v := 0) hx hb dX12_peers_48 (by decide) ?_
      refine hg_put (ty := .int) hx hb hG igX12 tyX12 tyX12_ok nmX12 hown hK hS o_c_20 (AF.of k_h0) rfl 4 (by decide) (hG _ mw_1288) rfl (by decide +kernel) rfl rfl (Nat.le_of_ble_eq_true rfl) dX12_peers_49 (fun H locs o_c_20 hz oq hS => ?_)
      obtain ⟨G_35, eG_35⟩ : ∃ z : Gh, z = gset G_4 104 0 := ⟨_, rfl⟩
      have hH : HT g Ty G_35 H := by rw [eG_35]; exact HT.putN 104 0 hH k_h0 ⟨rfl, t_21, hk_22⟩ o_c_20 oq (Or.inr (Or.inr (Or.inr (Or.inr (Or.inr ⟨by decide, t_21⟩)))))
      have fr_36 : FR [104, 105] [] [] G G_35 := FR.n fr_5 eG_35 (by decide)
      have u_37 : G_35.1 102 = (G.1 102) := by rw [eG_35]; exact (gs_ne (by decide)).trans u_6
      have u_38 : G_35.1 113 = (G.1 113) := by rw [eG_35]; exact (gs_ne (by decide)).trans u_8
      have u_39 : G_35.1 122 = (G.1 122) := by rw [eG_35]; exact (gs_ne (by decide)).trans u_9
      have u_40 : G_35.1 133 = (G.1 133) := by rw [eG_35]; exact (gs_ne (by decide)).trans u_10
      have u_41 : G_35.1 137 = (G.1 137) := by rw [eG_35]; exact (gs_ne (by decide)).trans u_11
      have u_42 : G_35.1 105 = 0 := by rw [eG_35]; exact (gs_ne (by decide)).trans u_12
      have u_43 : G_35.1 104 = 0 := by rw [eG_35]; exact gs_eq
      have w_44 : G_35.2.1 (g.2.2 100) = (G.2.1 (g.2.2 100)) := by rw [eG_35]; exact w_13
      have w_45 : G_35.2.1 (g.2.2 121) = (G.2.1 (g.2.2 121)) := by rw [eG_35]; exact w_14
      have w_46 : G_35.2.1 (g.2.2 140) = (G.2.1 (g.2.2 140)) := by rw [eG_35]; exact w_15
      have w_47 : G_35.2.1 (g.2.2 141) = (G.2.1 (g.2.2 141)) := by rw [eG_35]; exact w_16
      have w_48 : G_35.2.1 (g.2.2 111) = (G.2.1 (g.2.2 111)) := by rw [eG_35]; exact w_17
      have u_49 : G_35.2.2 111 = some (g.2.2 111) := by rw [eG_35]; exact u_18
      have u_50 : G_35.2.2 112 = some (g.2.2 112) := by rw [eG_35]; exact u_19
      clear oq hz
      refine lv_aload_n hx hb dX12_peers_52 rfl (lv_at hl 2 rfl) ?_
      refine lv_iload_n hx hb dX12_peers_53 rfl (lv_at hl 0 rfl) ?_
      refine vp_callSi (W.runS (As := [.int x_33]) (rest := [.ref h0]) ⟨hx, hb, hml, hown, hts⟩ (c_J6_bitCount_x l g Ty G_35 x_33 ) (cwSx 1 hts hG (gwC mw_620) mw_99 mw_1553 mw_619 rfl rfl rfl hd_J6_bitCount_0f7a4 ⟨Nat.le_of_ble_eq_true rfl, Nat.le_of_ble_eq_true rfl⟩) ⟨PcH_blind, PcH_pre hK hH⟩ rfl rfl hl.1 rfl (lv_room (Nat.le_of_ble_eq_true rfl)) dX12_peers_54 ⟨Nat.zero_le _, Nat.zero_le _⟩) (fun x_51 hx_51 => ?_)
      have rx_51 : rgI (0) (63) x_51 := hx_51.1
      try rw [← hx_51.2] at hv
      try rw [← hx_51.2] at hv
      refine lv_i2l hx hb dX12_peers_57 rfl ?_
      refine lv_topl (fun u_52 eu_52 => ?_)
      obtain ⟨_, ⟨rfl, t_54, hk_55⟩, o_c_53⟩ := hH h0 _ k_h0
      refine va_callv (va_runV (As := [.long u_52]) (rest := []) ⟨hx, hb, hml, hown, hts⟩ (c_X12_tell l g Ty G_35 H.size h0 u_52 k_h0 (by rw [u_43]; exact rg_w rl_0 (by decide) (by decide))) (cwV 1 hts (gwV mw_1510 mw_1512 mw_48 mw_88 mw_1513) rfl rfl rfl hv_X12_tell ⟨Nat.le_of_ble_eq_true rfl, Nat.le_of_ble_eq_true rfl⟩) ⟨PcT_blind, hg_recv hK o_c_53 rfl, PcT_pre hK hH⟩ rfl rfl hl.1 rfl (lv_room (Nat.le_of_ble_eq_true rfl)) dX12_peers_58 ⟨Nat.zero_le _, Nat.zero_le _⟩) hS (fun q _ h => AF.mono hS.1 h) (fun q h => AF.mono hS.1 h) (fun ux_56 t H locs ht hvm hx_56 hB hz hk hS => ?_)
      obtain ⟨eTx_56, eGx_56⟩ := hx_56
      obtain ⟨G_57, eG_57⟩ : ∃ z, z = ux_56.2 := ⟨_, rfl⟩
      rw [← eG_57] at eGx_56
      obtain ⟨x_58, ex_58⟩ : ∃ z : Int32, z = 0 + 1 := ⟨_, rfl⟩
      have e_59 : G_57 = gset G_35 104 x_58 := by rw [ex_58, ← u_43]; exact eGx_56
      have rx_58 : rgI (1) (1) x_58 := by rw [ex_58]; exact rg_w (rg_add rl_0 rl_1 (by decide) (by decide)) (by decide) (by decide)
      have fr_60 : FR [104, 105] [] [] G G_57 := FR.n fr_36 e_59 (by decide)
      have u_61 : G_57.1 102 = (G.1 102) := by rw [e_59]; exact (gs_ne (by decide)).trans u_37
      have u_62 : G_57.1 113 = (G.1 113) := by rw [e_59]; exact (gs_ne (by decide)).trans u_38
      have u_63 : G_57.1 122 = (G.1 122) := by rw [e_59]; exact (gs_ne (by decide)).trans u_39
      have u_64 : G_57.1 133 = (G.1 133) := by rw [e_59]; exact (gs_ne (by decide)).trans u_40
      have u_65 : G_57.1 137 = (G.1 137) := by rw [e_59]; exact (gs_ne (by decide)).trans u_41
      have u_66 : G_57.1 105 = 0 := by rw [e_59]; exact (gs_ne (by decide)).trans u_42
      have u_67 : G_57.1 104 = x_58 := by rw [e_59]; exact gs_eq
      have w_68 : G_57.2.1 (g.2.2 100) = (G.2.1 (g.2.2 100)) := by rw [e_59]; exact w_44
      have w_69 : G_57.2.1 (g.2.2 121) = (G.2.1 (g.2.2 121)) := by rw [e_59]; exact w_45
      have w_70 : G_57.2.1 (g.2.2 140) = (G.2.1 (g.2.2 140)) := by rw [e_59]; exact w_46
      have w_71 : G_57.2.1 (g.2.2 141) = (G.2.1 (g.2.2 141)) := by rw [e_59]; exact w_47
      have w_72 : G_57.2.1 (g.2.2 111) = (G.2.1 (g.2.2 111)) := by rw [e_59]; exact w_48
      have u_73 : G_57.2.2 111 = some (g.2.2 111) := by rw [e_59]; exact u_49
      have u_74 : G_57.2.2 112 = some (g.2.2 112) := by rw [e_59]; exact u_50
      have hH : HT g Ty G_57 H := by rw [← ht, ← eTx_56, eG_57]; exact hB
      refine lv_aload_n hx hb dX12_peers_61 rfl (lv_at hl 2 rfl) ?_
      refine lv_iload_n hx hb dX12_peers_62 rfl (lv_at hl 1 rfl) ?_
      refine lv_if_ne (tgt := 70) hx hb dX12_peers_63 (by decide) (fun c_75 => ?_) (fun c_75 => ?_)
      · rw [if_neg c_75] at hv
        refine lv_aload_n hx hb dX12_peers_70 rfl (lv_at hl 2 rfl) ?_
        obtain ⟨_, ⟨rfl, t_77, hk_78⟩, o_c_76⟩ := hH h0 _ k_h0
        refine hg_get hx hb hG igX12 hown hK o_c_76 rfl 0 (by decide) (hG _ mw_1284) rfl dX12_peers_71 ?_
        refine lv_iload_n hx hb dX12_peers_74 rfl (lv_at hl 1 rfl) ?_
        refine vp_callSi (W.runS (As := [.ref (g.2.2 100), .int x_31]) (rest := [.ref h0]) ⟨hx, hb, hml, hown, hts⟩ (c_X12_slavesOf l g Ty G_57 (g.2.2 100) x_31 (hk_78.1)) (cwSx 2 hts hG (gwC mw_1569) mw_88 mw_1567 mw_1568 rfl rfl rfl hd_X12_slavesOf ⟨Nat.le_of_ble_eq_true rfl, Nat.le_of_ble_eq_true rfl⟩) ⟨PcH_blind, PcH_pre hK hH⟩ rfl rfl hl.1 rfl (lv_room (Nat.le_of_ble_eq_true rfl)) dX12_peers_75 ⟨Nat.zero_le _, Nat.zero_le _⟩) (fun x_79 hx_79 => ?_)
        try rw [← hx_79] at hv
        have ex_80 : x_79 = F_X12_slavesOf (G.2.1 (g.2.2 100)) x_31 := by rw [← w_68]; exact hx_79
        try rw [← ex_80] at hv
        refine lv_i2l hx hb dX12_peers_78 rfl ?_
        refine lv_topl (fun u_81 eu_81 => ?_)
        refine va_callv (va_runV (As := [.long u_81]) (rest := []) ⟨hx, hb, hml, hown, hts⟩ (c_X12_tell l g Ty G_57 H.size h0 u_81 k_h0 (by rw [u_67]; exact rg_w rx_58 (by decide) (by decide))) (cwV 1 hts (gwV mw_1510 mw_1512 mw_48 mw_88 mw_1513) rfl rfl rfl hv_X12_tell ⟨Nat.le_of_ble_eq_true rfl, Nat.le_of_ble_eq_true rfl⟩) ⟨PcT_blind, hg_recv hK o_c_76 rfl, PcT_pre hK hH⟩ rfl rfl hl.1 rfl (lv_room (Nat.le_of_ble_eq_true rfl)) dX12_peers_79 ⟨Nat.zero_le _, Nat.zero_le _⟩) hS (fun q _ h => AF.mono hS.1 h) (fun q h => AF.mono hS.1 h) (fun ux_82 t H locs ht hvm hx_82 hB hz hk hS => ?_)
        obtain ⟨eTx_82, eGx_82⟩ := hx_82
        obtain ⟨G_83, eG_83⟩ : ∃ z, z = ux_82.2 := ⟨_, rfl⟩
        rw [← eG_83] at eGx_82
        obtain ⟨x_84, ex_84⟩ : ∃ z : Int32, z = x_58 + 1 := ⟨_, rfl⟩
        have e_85 : G_83 = gset G_57 104 x_84 := by rw [ex_84, ← u_67]; exact eGx_82
        have rx_84 : rgI (2) (2) x_84 := by rw [ex_84]; exact rg_w (rg_add rx_58 rl_1 (by decide) (by decide)) (by decide) (by decide)
        have fr_86 : FR [104, 105] [] [] G G_83 := FR.n fr_60 e_85 (by decide)
        have u_87 : G_83.1 102 = (G.1 102) := by rw [e_85]; exact (gs_ne (by decide)).trans u_61
        have u_88 : G_83.1 113 = (G.1 113) := by rw [e_85]; exact (gs_ne (by decide)).trans u_62
        have u_89 : G_83.1 122 = (G.1 122) := by rw [e_85]; exact (gs_ne (by decide)).trans u_63
        have u_90 : G_83.1 133 = (G.1 133) := by rw [e_85]; exact (gs_ne (by decide)).trans u_64
        have u_91 : G_83.1 137 = (G.1 137) := by rw [e_85]; exact (gs_ne (by decide)).trans u_65
        have u_92 : G_83.1 105 = 0 := by rw [e_85]; exact (gs_ne (by decide)).trans u_66
        have u_93 : G_83.1 104 = x_84 := by rw [e_85]; exact gs_eq
        have w_94 : G_83.2.1 (g.2.2 100) = (G.2.1 (g.2.2 100)) := by rw [e_85]; exact w_68
        have w_95 : G_83.2.1 (g.2.2 121) = (G.2.1 (g.2.2 121)) := by rw [e_85]; exact w_69
        have w_96 : G_83.2.1 (g.2.2 140) = (G.2.1 (g.2.2 140)) := by rw [e_85]; exact w_70
        have w_97 : G_83.2.1 (g.2.2 141) = (G.2.1 (g.2.2 141)) := by rw [e_85]; exact w_71
        have w_98 : G_83.2.1 (g.2.2 111) = (G.2.1 (g.2.2 111)) := by rw [e_85]; exact w_72
        have u_99 : G_83.2.2 111 = some (g.2.2 111) := by rw [e_85]; exact u_73
        have u_100 : G_83.2.2 112 = some (g.2.2 112) := by rw [e_85]; exact u_74
        have hH : HT g Ty G_83 H := by rw [← ht, ← eTx_82, eG_83]; exact hB
        refine lv_iload_n hx hb dX12_peers_82 rfl (lv_at hl 0 rfl) ?_
        exact W.iret hx hb hr (fun t ht hWm => ⟨⟨x_33, (Ty, G_83), rfl, ⟨rfl, ⟨fr_86, ⟨⟨(by rw [u_87]; exact (rg_w hI.a102 (by decide) (by decide))), (by rw [u_93]; exact (rg_w rx_84 (by decide) (by decide))), (by rw [u_88]; exact (rg_w hI.a113 (by decide) (by decide))), (by rw [u_89]; exact (rg_w hI.a122 (by decide) (by decide))), (by rw [u_90]; exact (rg_w hI.a133 (by decide) (by decide))), (by rw [u_91]; exact (rg_w hI.a137 (by decide) (by decide))), u_99, u_100, (by rw [w_94]; exact (hI.ti.hi (show Bd ≤ Bd + 1000 by omega))), (hI.un2 (show Bd ≤ Bd + 1000 by omega) w_95 u_89), (hI.ke2 (show Bd ≤ Bd + 1000 by omega) w_96 w_97)⟩, hv.symm⟩⟩⟩, by show HT g Ty G_83 t.heap; rw [ht]; exact hH⟩, hS.F ht⟩) hS.2.2 dX12_peers_83
      · rw [if_pos c_75] at hv
        have r_101 : rgI (0) (0) x_31 := rg_w (rg_eq rl_0 c_75) (by decide) (by decide)
        refine lv_lconst (v := 0) hx hb dX12_peers_66 (by decide) ?_
        refine lv_goto (tgt := 79) hx hb dX12_peers_67 (by decide) ?_
        obtain ⟨_, ⟨rfl, t_103, hk_104⟩, o_c_102⟩ := hH h0 _ k_h0
        refine va_callv (va_runV (As := [.long 0]) (rest := []) ⟨hx, hb, hml, hown, hts⟩ (c_X12_tell l g Ty G_57 H.size h0 0 k_h0 (by rw [u_67]; exact rg_w rx_58 (by decide) (by decide))) (cwV 1 hts (gwV mw_1510 mw_1512 mw_48 mw_88 mw_1513) rfl rfl rfl hv_X12_tell ⟨Nat.le_of_ble_eq_true rfl, Nat.le_of_ble_eq_true rfl⟩) ⟨PcT_blind, hg_recv hK o_c_102 rfl, PcT_pre hK hH⟩ rfl rfl hl.1 rfl (lv_room (Nat.le_of_ble_eq_true rfl)) dX12_peers_79 ⟨Nat.zero_le _, Nat.zero_le _⟩) hS (fun q _ h => AF.mono hS.1 h) (fun q h => AF.mono hS.1 h) (fun ux_105 t H locs ht hvm hx_105 hB hz hk hS => ?_)
        obtain ⟨eTx_105, eGx_105⟩ := hx_105
        obtain ⟨G_106, eG_106⟩ : ∃ z, z = ux_105.2 := ⟨_, rfl⟩
        rw [← eG_106] at eGx_105
        obtain ⟨x_107, ex_107⟩ : ∃ z : Int32, z = x_58 + 1 := ⟨_, rfl⟩
        have e_108 : G_106 = gset G_57 104 x_107 := by rw [ex_107, ← u_67]; exact eGx_105
        have rx_107 : rgI (2) (2) x_107 := by rw [ex_107]; exact rg_w (rg_add rx_58 rl_1 (by decide) (by decide)) (by decide) (by decide)
        have fr_109 : FR [104, 105] [] [] G G_106 := FR.n fr_60 e_108 (by decide)
        have u_110 : G_106.1 102 = (G.1 102) := by rw [e_108]; exact (gs_ne (by decide)).trans u_61
        have u_111 : G_106.1 113 = (G.1 113) := by rw [e_108]; exact (gs_ne (by decide)).trans u_62
        have u_112 : G_106.1 122 = (G.1 122) := by rw [e_108]; exact (gs_ne (by decide)).trans u_63
        have u_113 : G_106.1 133 = (G.1 133) := by rw [e_108]; exact (gs_ne (by decide)).trans u_64
        have u_114 : G_106.1 137 = (G.1 137) := by rw [e_108]; exact (gs_ne (by decide)).trans u_65
        have u_115 : G_106.1 105 = 0 := by rw [e_108]; exact (gs_ne (by decide)).trans u_66
        have u_116 : G_106.1 104 = x_107 := by rw [e_108]; exact gs_eq
        have w_117 : G_106.2.1 (g.2.2 100) = (G.2.1 (g.2.2 100)) := by rw [e_108]; exact w_68
        have w_118 : G_106.2.1 (g.2.2 121) = (G.2.1 (g.2.2 121)) := by rw [e_108]; exact w_69
        have w_119 : G_106.2.1 (g.2.2 140) = (G.2.1 (g.2.2 140)) := by rw [e_108]; exact w_70
        have w_120 : G_106.2.1 (g.2.2 141) = (G.2.1 (g.2.2 141)) := by rw [e_108]; exact w_71
        have w_121 : G_106.2.1 (g.2.2 111) = (G.2.1 (g.2.2 111)) := by rw [e_108]; exact w_72
        have u_122 : G_106.2.2 111 = some (g.2.2 111) := by rw [e_108]; exact u_73
        have u_123 : G_106.2.2 112 = some (g.2.2 112) := by rw [e_108]; exact u_74
        have hH : HT g Ty G_106 H := by rw [← ht, ← eTx_105, eG_106]; exact hB
        refine lv_iload_n hx hb dX12_peers_82 rfl (lv_at hl 0 rfl) ?_
        exact W.iret hx hb hr (fun t ht hWm => ⟨⟨x_33, (Ty, G_106), rfl, ⟨rfl, ⟨fr_109, ⟨⟨(by rw [u_110]; exact (rg_w hI.a102 (by decide) (by decide))), (by rw [u_116]; exact (rg_w rx_107 (by decide) (by decide))), (by rw [u_111]; exact (rg_w hI.a113 (by decide) (by decide))), (by rw [u_112]; exact (rg_w hI.a122 (by decide) (by decide))), (by rw [u_113]; exact (rg_w hI.a133 (by decide) (by decide))), (by rw [u_114]; exact (rg_w hI.a137 (by decide) (by decide))), u_122, u_123, (by rw [w_117]; exact (hI.ti.hi (show Bd ≤ Bd + 1000 by omega))), (hI.un2 (show Bd ≤ Bd + 1000 by omega) w_118 u_112), (hI.ke2 (show Bd ≤ Bd + 1000 by omega) w_119 w_120)⟩, hv.symm⟩⟩⟩, by show HT g Ty G_106 t.heap; rw [ht]; exact hH⟩, hS.F ht⟩) hS.2.2 dX12_peers_83
    · rw [if_pos c_32] at hv
      have r_124 : rgI (0) (0) x_31 := rg_w (rg_eq rl_0 c_32) (by decide) (by decide)
      refine lv_iconst (v := 1) hx hb dX12_peers_32 (by decide) ?_
      refine lv_iload_n hx hb dX12_peers_33 rfl (lv_at hl 2 rfl) ?_
      refine lv_ishl hx hb dX12_peers_34 ?_
      refine lv_topi (fun x_125 ex_125 => ?_)
      try rw [← ex_125] at hv
      refine lv_goto (tgt := 46) hx hb dX12_peers_35 (by decide) ?_
      refine lv_istore_n (lv' := [(3, .int x_125), (2, .int x_31), (0, .ref h0), (1, .int a0)]) hx hb dX12_peers_46 rfl hl (by decide) rfl (fun ls hl => ?_)
      refine lv_aload_n hx hb dX12_peers_47 rfl (lv_at hl 2 rfl) ?_
      refine lv_iconst (v := 0) hx hb dX12_peers_48 (by decide) ?_
      refine hg_put (ty := .int) hx hb hG igX12 tyX12 tyX12_ok nmX12 hown hK hS o_c_20 (AF.of k_h0) rfl 4 (by decide) (hG _ mw_1288) rfl (by decide +kernel) rfl rfl (Nat.le_of_ble_eq_true rfl) dX12_peers_49 (fun H locs o_c_20 hz oq hS => ?_)
      obtain ⟨G_126, eG_126⟩ : ∃ z : Gh, z = gset G_4 104 0 := ⟨_, rfl⟩
      have hH : HT g Ty G_126 H := by rw [eG_126]; exact HT.putN 104 0 hH k_h0 ⟨rfl, t_21, hk_22⟩ o_c_20 oq (Or.inr (Or.inr (Or.inr (Or.inr (Or.inr ⟨by decide, t_21⟩)))))
      have fr_127 : FR [104, 105] [] [] G G_126 := FR.n fr_5 eG_126 (by decide)
      have u_128 : G_126.1 102 = (G.1 102) := by rw [eG_126]; exact (gs_ne (by decide)).trans u_6
      have u_129 : G_126.1 113 = (G.1 113) := by rw [eG_126]; exact (gs_ne (by decide)).trans u_8
      have u_130 : G_126.1 122 = (G.1 122) := by rw [eG_126]; exact (gs_ne (by decide)).trans u_9
      have u_131 : G_126.1 133 = (G.1 133) := by rw [eG_126]; exact (gs_ne (by decide)).trans u_10
      have u_132 : G_126.1 137 = (G.1 137) := by rw [eG_126]; exact (gs_ne (by decide)).trans u_11
      have u_133 : G_126.1 105 = 0 := by rw [eG_126]; exact (gs_ne (by decide)).trans u_12
      have u_134 : G_126.1 104 = 0 := by rw [eG_126]; exact gs_eq
      have w_135 : G_126.2.1 (g.2.2 100) = (G.2.1 (g.2.2 100)) := by rw [eG_126]; exact w_13
      have w_136 : G_126.2.1 (g.2.2 121) = (G.2.1 (g.2.2 121)) := by rw [eG_126]; exact w_14
      have w_137 : G_126.2.1 (g.2.2 140) = (G.2.1 (g.2.2 140)) := by rw [eG_126]; exact w_15
      have w_138 : G_126.2.1 (g.2.2 141) = (G.2.1 (g.2.2 141)) := by rw [eG_126]; exact w_16
      have w_139 : G_126.2.1 (g.2.2 111) = (G.2.1 (g.2.2 111)) := by rw [eG_126]; exact w_17
      have u_140 : G_126.2.2 111 = some (g.2.2 111) := by rw [eG_126]; exact u_18
      have u_141 : G_126.2.2 112 = some (g.2.2 112) := by rw [eG_126]; exact u_19
      clear oq hz
      refine lv_aload_n hx hb dX12_peers_52 rfl (lv_at hl 2 rfl) ?_
      refine lv_iload_n hx hb dX12_peers_53 rfl (lv_at hl 0 rfl) ?_
      refine vp_callSi (W.runS (As := [.int x_125]) (rest := [.ref h0]) ⟨hx, hb, hml, hown, hts⟩ (c_J6_bitCount_x l g Ty G_126 x_125 ) (cwSx 1 hts hG (gwC mw_620) mw_99 mw_1553 mw_619 rfl rfl rfl hd_J6_bitCount_0f7a4 ⟨Nat.le_of_ble_eq_true rfl, Nat.le_of_ble_eq_true rfl⟩) ⟨PcH_blind, PcH_pre hK hH⟩ rfl rfl hl.1 rfl (lv_room (Nat.le_of_ble_eq_true rfl)) dX12_peers_54 ⟨Nat.zero_le _, Nat.zero_le _⟩) (fun x_142 hx_142 => ?_)
      have rx_142 : rgI (0) (63) x_142 := hx_142.1
      try rw [← hx_142.2] at hv
      try rw [← hx_142.2] at hv
      refine lv_i2l hx hb dX12_peers_57 rfl ?_
      refine lv_topl (fun u_143 eu_143 => ?_)
      obtain ⟨_, ⟨rfl, t_145, hk_146⟩, o_c_144⟩ := hH h0 _ k_h0
      refine va_callv (va_runV (As := [.long u_143]) (rest := []) ⟨hx, hb, hml, hown, hts⟩ (c_X12_tell l g Ty G_126 H.size h0 u_143 k_h0 (by rw [u_134]; exact rg_w rl_0 (by decide) (by decide))) (cwV 1 hts (gwV mw_1510 mw_1512 mw_48 mw_88 mw_1513) rfl rfl rfl hv_X12_tell ⟨Nat.le_of_ble_eq_true rfl, Nat.le_of_ble_eq_true rfl⟩) ⟨PcT_blind, hg_recv hK o_c_144 rfl, PcT_pre hK hH⟩ rfl rfl hl.1 rfl (lv_room (Nat.le_of_ble_eq_true rfl)) dX12_peers_58 ⟨Nat.zero_le _, Nat.zero_le _⟩) hS (fun q _ h => AF.mono hS.1 h) (fun q h => AF.mono hS.1 h) (fun ux_147 t H locs ht hvm hx_147 hB hz hk hS => ?_)
      obtain ⟨eTx_147, eGx_147⟩ := hx_147
      obtain ⟨G_148, eG_148⟩ : ∃ z, z = ux_147.2 := ⟨_, rfl⟩
      rw [← eG_148] at eGx_147
      obtain ⟨x_149, ex_149⟩ : ∃ z : Int32, z = 0 + 1 := ⟨_, rfl⟩
      have e_150 : G_148 = gset G_126 104 x_149 := by rw [ex_149, ← u_134]; exact eGx_147
      have rx_149 : rgI (1) (1) x_149 := by rw [ex_149]; exact rg_w (rg_add rl_0 rl_1 (by decide) (by decide)) (by decide) (by decide)
      have fr_151 : FR [104, 105] [] [] G G_148 := FR.n fr_127 e_150 (by decide)
      have u_152 : G_148.1 102 = (G.1 102) := by rw [e_150]; exact (gs_ne (by decide)).trans u_128
      have u_153 : G_148.1 113 = (G.1 113) := by rw [e_150]; exact (gs_ne (by decide)).trans u_129
      have u_154 : G_148.1 122 = (G.1 122) := by rw [e_150]; exact (gs_ne (by decide)).trans u_130
      have u_155 : G_148.1 133 = (G.1 133) := by rw [e_150]; exact (gs_ne (by decide)).trans u_131
      have u_156 : G_148.1 137 = (G.1 137) := by rw [e_150]; exact (gs_ne (by decide)).trans u_132
      have u_157 : G_148.1 105 = 0 := by rw [e_150]; exact (gs_ne (by decide)).trans u_133
      have u_158 : G_148.1 104 = x_149 := by rw [e_150]; exact gs_eq
      have w_159 : G_148.2.1 (g.2.2 100) = (G.2.1 (g.2.2 100)) := by rw [e_150]; exact w_135
      have w_160 : G_148.2.1 (g.2.2 121) = (G.2.1 (g.2.2 121)) := by rw [e_150]; exact w_136
      have w_161 : G_148.2.1 (g.2.2 140) = (G.2.1 (g.2.2 140)) := by rw [e_150]; exact w_137
      have w_162 : G_148.2.1 (g.2.2 141) = (G.2.1 (g.2.2 141)) := by rw [e_150]; exact w_138
      have w_163 : G_148.2.1 (g.2.2 111) = (G.2.1 (g.2.2 111)) := by rw [e_150]; exact w_139
      have u_164 : G_148.2.2 111 = some (g.2.2 111) := by rw [e_150]; exact u_140
      have u_165 : G_148.2.2 112 = some (g.2.2 112) := by rw [e_150]; exact u_141
      have hH : HT g Ty G_148 H := by rw [← ht, ← eTx_147, eG_148]; exact hB
      refine lv_aload_n hx hb dX12_peers_61 rfl (lv_at hl 2 rfl) ?_
      refine lv_iload_n hx hb dX12_peers_62 rfl (lv_at hl 1 rfl) ?_
      refine lv_if_ne (tgt := 70) hx hb dX12_peers_63 (by decide) (fun c_166 => ?_) (fun c_166 => ?_)
      · rw [if_neg c_166] at hv
        exact absurd (rg_one r_124 rl_0) c_166
      · rw [if_pos c_166] at hv
        refine lv_lconst (v := 0) hx hb dX12_peers_66 (by decide) ?_
        refine lv_goto (tgt := 79) hx hb dX12_peers_67 (by decide) ?_
        obtain ⟨_, ⟨rfl, t_168, hk_169⟩, o_c_167⟩ := hH h0 _ k_h0
        refine va_callv (va_runV (As := [.long 0]) (rest := []) ⟨hx, hb, hml, hown, hts⟩ (c_X12_tell l g Ty G_148 H.size h0 0 k_h0 (by rw [u_158]; exact rg_w rx_149 (by decide) (by decide))) (cwV 1 hts (gwV mw_1510 mw_1512 mw_48 mw_88 mw_1513) rfl rfl rfl hv_X12_tell ⟨Nat.le_of_ble_eq_true rfl, Nat.le_of_ble_eq_true rfl⟩) ⟨PcT_blind, hg_recv hK o_c_167 rfl, PcT_pre hK hH⟩ rfl rfl hl.1 rfl (lv_room (Nat.le_of_ble_eq_true rfl)) dX12_peers_79 ⟨Nat.zero_le _, Nat.zero_le _⟩) hS (fun q _ h => AF.mono hS.1 h) (fun q h => AF.mono hS.1 h) (fun ux_170 t H locs ht hvm hx_170 hB hz hk hS => ?_)
        obtain ⟨eTx_170, eGx_170⟩ := hx_170
        obtain ⟨G_171, eG_171⟩ : ∃ z, z = ux_170.2 := ⟨_, rfl⟩
        rw [← eG_171] at eGx_170
        obtain ⟨x_172, ex_172⟩ : ∃ z : Int32, z = x_149 + 1 := ⟨_, rfl⟩
        have e_173 : G_171 = gset G_148 104 x_172 := by rw [ex_172, ← u_158]; exact eGx_170
        have rx_172 : rgI (2) (2) x_172 := by rw [ex_172]; exact rg_w (rg_add rx_149 rl_1 (by decide) (by decide)) (by decide) (by decide)
        have fr_174 : FR [104, 105] [] [] G G_171 := FR.n fr_151 e_173 (by decide)
        have u_175 : G_171.1 102 = (G.1 102) := by rw [e_173]; exact (gs_ne (by decide)).trans u_152
        have u_176 : G_171.1 113 = (G.1 113) := by rw [e_173]; exact (gs_ne (by decide)).trans u_153
        have u_177 : G_171.1 122 = (G.1 122) := by rw [e_173]; exact (gs_ne (by decide)).trans u_154
        have u_178 : G_171.1 133 = (G.1 133) := by rw [e_173]; exact (gs_ne (by decide)).trans u_155
        have u_179 : G_171.1 137 = (G.1 137) := by rw [e_173]; exact (gs_ne (by decide)).trans u_156
        have u_180 : G_171.1 105 = 0 := by rw [e_173]; exact (gs_ne (by decide)).trans u_157
        have u_181 : G_171.1 104 = x_172 := by rw [e_173]; exact gs_eq
        have w_182 : G_171.2.1 (g.2.2 100) = (G.2.1 (g.2.2 100)) := by rw [e_173]; exact w_159
        have w_183 : G_171.2.1 (g.2.2 121) = (G.2.1 (g.2.2 121)) := by rw [e_173]; exact w_160
        have w_184 : G_171.2.1 (g.2.2 140) = (G.2.1 (g.2.2 140)) := by rw [e_173]; exact w_161
        have w_185 : G_171.2.1 (g.2.2 141) = (G.2.1 (g.2.2 141)) := by rw [e_173]; exact w_162
        have w_186 : G_171.2.1 (g.2.2 111) = (G.2.1 (g.2.2 111)) := by rw [e_173]; exact w_163
        have u_187 : G_171.2.2 111 = some (g.2.2 111) := by rw [e_173]; exact u_164
        have u_188 : G_171.2.2 112 = some (g.2.2 112) := by rw [e_173]; exact u_165
        have hH : HT g Ty G_171 H := by rw [← ht, ← eTx_170, eG_171]; exact hB
        refine lv_iload_n hx hb dX12_peers_82 rfl (lv_at hl 0 rfl) ?_
        exact W.iret hx hb hr (fun t ht hWm => ⟨⟨x_125, (Ty, G_171), rfl, ⟨rfl, ⟨fr_174, ⟨⟨(by rw [u_175]; exact (rg_w hI.a102 (by decide) (by decide))), (by rw [u_181]; exact (rg_w rx_172 (by decide) (by decide))), (by rw [u_176]; exact (rg_w hI.a113 (by decide) (by decide))), (by rw [u_177]; exact (rg_w hI.a122 (by decide) (by decide))), (by rw [u_178]; exact (rg_w hI.a133 (by decide) (by decide))), (by rw [u_179]; exact (rg_w hI.a137 (by decide) (by decide))), u_187, u_188, (by rw [w_182]; exact (hI.ti.hi (show Bd ≤ Bd + 1000 by omega))), (hI.un2 (show Bd ≤ Bd + 1000 by omega) w_183 u_177), (hI.ke2 (show Bd ≤ Bd + 1000 by omega) w_184 w_185)⟩, hv.symm⟩⟩⟩, by show HT g Ty G_171 t.heap; rw [ht]; exact hH⟩, hS.F ht⟩) hS.2.2 dX12_peers_83
  · rw [if_pos c_25] at hv
    have r_189 : rgI (0) (0) x_23 := rg_w (rg_eq rl_0 c_25) (by decide) (by decide)
    refine lv_iconst (v := (-1)) hx hb dX12_peers_16 (by decide) ?_
    exact W.iret hx hb hr (fun t ht hWm => ⟨⟨(-1), (Ty, G_4), rfl, ⟨rfl, ⟨fr_5, ⟨⟨(by rw [u_6]; exact (rg_w hI.a102 (by decide) (by decide))), (by rw [u_7]; exact (rg_w hI.a104 (by decide) (by decide))), (by rw [u_8]; exact (rg_w hI.a113 (by decide) (by decide))), (by rw [u_9]; exact (rg_w hI.a122 (by decide) (by decide))), (by rw [u_10]; exact (rg_w hI.a133 (by decide) (by decide))), (by rw [u_11]; exact (rg_w hI.a137 (by decide) (by decide))), u_18, u_19, (by rw [w_13]; exact (hI.ti.hi (show Bd ≤ Bd + 1000 by omega))), (hI.un2 (show Bd ≤ Bd + 1000 by omega) w_14 u_9), (hI.ke2 (show Bd ≤ Bd + 1000 by omega) w_15 w_16)⟩, hv.symm⟩⟩⟩, by show HT g Ty G_4 t.heap; rw [ht]; exact hH⟩, hS.F ht⟩) hS.2.2 dX12_peers_17

def F_X12_keepers_x_57 : Nat → Int32 → Int32 → Int32 → Int32 → (Nat → Int32) → (Nat → Int32) → Int32 × (Nat → Int32)
  | 0, _, _, y3, _, _, yr1 => (y3, yr1)
  | n + 1, y1, y2, y3, y4, yr0, yr1 => (if (24 : Int32) ≤ y4 then (y3, yr1) else (if (F_X12_isThere yr0 y4) = (0 : Int32) then (F_X12_keepers_x_57 n y1 y2 y3 (y4 + (1 : Int32)) yr0 yr1) else (if y4 = y1 then (F_X12_keepers_x_57 n y1 y2 y3 (y4 + (1 : Int32)) yr0 yr1) else (if y4 = y2 then (F_X12_keepers_x_57 n y1 y2 y3 (y4 + (1 : Int32)) yr0 yr1) else (tu1 (F_X12_goMake (LYF yr0 yr1 (Int32.toNatClampNeg (0 : Int32))) y4 (0 : Int32)) (fun z5 => (if (F_X12_has (F_X12_spreadOf z5 y1) y2) = (0 : Int32) then (F_X12_keepers_x_57 n y1 y2 (y3 ||| ((1 : Int32) <<< (y4 &&& 31))) (y4 + (1 : Int32)) yr0 z5) else (F_X12_keepers_x_57 n y1 y2 (y3 ||| (0 : Int32)) (y4 + (1 : Int32)) yr0 z5))))))))
def F_X12_keepers_x (r0 : Nat → Int32) (r1 : Nat → Int32) (a0 : Int32) (a1 : Int32) : Int32 × (Nat → Int32) := (if (F_X12_isThere r0 a0) = (0 : Int32) then ((-1 : Int32), r1) else (if (F_X12_isThere r0 a1) = (0 : Int32) then ((-1 : Int32), r1) else (if a0 = a1 then ((-2 : Int32), r1) else (if (F_X12_has (F_X12_spreadOf r0 a0) a1) = (0 : Int32) then ((-2 : Int32), r1) else (tu2 (F_X12_keepers_x_57 26 a0 a1 (0 : Int32) (0 : Int32) r0 r1) (fun z6 z7 => ((F_X12_tellBits_x z6), z7)))))))
set_option maxHeartbeats 4000000 in
set_option maxRecDepth 100000 in
theorem c_X12_keepers_x (l : Launch) (g : Gx) (Ty : TyM) (G : Gh) (sz : Nat) (h0 : Nat) (a0 : Int32) (a1 : Int32) (k_h0 : Ty h0 = some (22, 0)) (Bd : Int) (hI : OI g Bd G) (hBd : Bd ≤ 1900000) (hLD : LD g) : Met l yX12_keepers (wsG yX12_keepers cX12_keepers 5 (some .int)) ({ frames := 5, cells := 0, slots := 0, locals := 111 }) (PcT g Ty G sz [.ref h0, .int a0, .int a1]) (QwI g Ty sz (fun r u => u.1 = Ty ∧ FR [104, 105] [(g.2.2 124)] [] G u.2 ∧ OI g (Bd + 1000) u.2 ∧ F_X12_keepers_x (G.2.1 (g.2.2 100)) (G.2.1 (g.2.2 124)) a0 a1 = (r, (u.2.2.1 (g.2.2 124))))) 0 0 (AF Ty sz) := by
  refine Met.ofW (cc := cX12_keepers) (maxL := 5) (ret := (some .int)) (by decide) rfl ?_
  intro p e s m args below meth c s₁ B hml hv
  obtain ⟨rfl, hsz, hK, hH⟩ := hv
  subst hsz
  have hx := B.exec
  have hb := B.bytes
  have hr := B.returns
  have hts := atoms_spec (ws := (wsG yX12_keepers cX12_keepers 5 (some .int))) B.pre
  have hG : ∀ w ∈ GW, w.before ([.ref h0, .int a0, .int a1] : List Value).toArray s = true := fun w h => hts w (List.mem_cons_of_mem _ h)
  have hown : s.vm.findClass RX12 = some m.cls := findClass_of_methodNamed B.named
  have hlocks := B.notSynchronized
  have hl := lv_entry [.ref h0, .int a0, .int a1] (n := 5) (Nat.le_of_ble_eq_true rfl)
  rw [lg_entry_eq]
  generalize (lg_sl [.ref h0, .int a0, .int a1] ++ List.replicate (5 - (lg_sl [.ref h0, .int a0, .int a1]).length) Slot.unset).toArray = ls at hl ⊢
  have hl : lv_has ls 5 [(0, .ref h0), (1, .int a0), (2, .int a1)] := hl
  have hmk : mdK g Ty := mdk_of hH k_h0
  have hv : (if (F_X12_isThere (G.2.1 (g.2.2 100)) a0) = (0 : Int32) then ((-1 : Int32), (G.2.1 (g.2.2 124))) else (if (F_X12_isThere (G.2.1 (g.2.2 100)) a1) = (0 : Int32) then ((-1 : Int32), (G.2.1 (g.2.2 124))) else (if a0 = a1 then ((-2 : Int32), (G.2.1 (g.2.2 124))) else (if (F_X12_has (F_X12_spreadOf (G.2.1 (g.2.2 100)) a0) a1) = (0 : Int32) then ((-2 : Int32), (G.2.1 (g.2.2 124))) else (tu2 (F_X12_keepers_x_57 26 a0 a1 (0 : Int32) (0 : Int32) (G.2.1 (g.2.2 100)) (G.2.1 (g.2.2 124))) (fun z3 z4 => ((F_X12_tellBits_x z3), z4))))))) = F_X12_keepers_x (G.2.1 (g.2.2 100)) (G.2.1 (g.2.2 124)) a0 a1 := rfl
  have hS : va_S (AF Ty s.heap.size) s.heap s.heap [] := va_S.rf
  obtain ⟨⟨σ0, hTS0⟩, h10, hBB0⟩ := id hI.ti
  obtain ⟨ρ, hT⟩ := hTS0.1
  have L_57 : ∀ (n_57 : Nat) (H : Heap) (locs : List Loc) (G_57 : Gh) (fl5_57 : Nat → Int32) (y3_57 : Int32) (y4_57 : Int32) (ls : Array Slot), rgI (0) (32) (G_57.1 104) → FR [104, 105] [(g.2.2 124)] [] G G_57 → G_57.2.1 (g.2.2 124) = fl5_57 → rgI (0) (23) a0 → rgI (0) (23) a1 → rgI (0) (24) y4_57 → thr (G.2.1 (g.2.2 100)) a0 → (24 - (y4_57).toInt).toNat < n_57 → lv_has ls 5 [(0, .ref h0), (1, .int a0), (2, .int a1), (3, .int y3_57), (4, .int y4_57)] → (tu2 (F_X12_keepers_x_57 n_57 a0 a1 y3_57 y4_57 (G.2.1 (g.2.2 100)) fl5_57) (fun z1 z2 => ((F_X12_tellBits_x z1), z2))) = F_X12_keepers_x (G.2.1 (g.2.2 100)) (G.2.1 (g.2.2 124)) a0 a1 → HT g Ty G_57 H → va_S (AF Ty s.heap.size) s.heap H locs → Wm p l e (wsG yX12_keepers cX12_keepers 5 (some .int)) ({ frames := 5, cells := 0, slots := 0, locals := 111 }) s m [.ref h0, .int a0, .int a1] below meth c H locs (0) (0) (QwI g Ty s.heap.size (fun r u => u.1 = Ty ∧ FR [104, 105] [(g.2.2 124)] [] G u.2 ∧ OI g (Bd + 1000) u.2 ∧ F_X12_keepers_x (G.2.1 (g.2.2 100)) (G.2.1 (g.2.2 124)) a0 a1 = (r, (u.2.2.1 (g.2.2 124))))) 0 0 (AF Ty s.heap.size) (F0 m 57 ls []) := by
    intro n_57
    induction n_57 with
    | zero => intro H locs G_57 fl5_57 y3_57 y4_57 ls rg104_57 frL_57 efl5_57 ry1_57 ry2_57 ry4_57 hi0_57 hm; exact absurd hm (Nat.not_lt_zero _)
    | succ n_57 ih_57 =>
      intro H locs G_57 fl5_57 y3_57 y4_57 ls rg104_57 frL_57 efl5_57 ry1_57 ry2_57 ry4_57 hi0_57 hm_57 hl hv hH hS
      rw [F_X12_keepers_x_57] at hv
      refine lv_iload hx hb dX12_keepers_57 (lv_at hl 4 rfl) ?_
      refine lv_bipush (v := 24) hx hb dX12_keepers_59 (by decide) ?_
      refine lv_icmp_ge (tgt := 145) hx hb dX12_keepers_61 (by decide) (fun c_1 => ?_) (fun c_1 => ?_)
      · rw [if_pos c_1] at hv
        have r_2 : rgI (24) (24) y4_57 := rg_w (rg_leR rl_24 ry4_57 c_1) (by decide) (by decide)
        rw [tu2_eq] at hv
        refine lv_aload_n hx hb dX12_keepers_145 rfl (lv_at hl 0 rfl) ?_
        refine lv_iload_n hx hb dX12_keepers_146 rfl (lv_at hl 3 rfl) ?_
        obtain ⟨_, ⟨rfl, t_4, hk_5⟩, o_c_3⟩ := hH h0 _ k_h0
        refine va_calli (va_runV (As := [.int y3_57]) (rest := []) ⟨hx, hb, hml, hown, hts⟩ (c_X12_tellBits_x l g Ty G_57 H.size h0 y3_57 k_h0) (cwV 1 hts (gwV mw_1704 mw_1706 mw_67 mw_88 mw_1707) rfl rfl rfl hv_X12_tellBits ⟨Nat.le_of_ble_eq_true rfl, Nat.le_of_ble_eq_true rfl⟩) ⟨PcT_blind, hg_recv hK o_c_3 rfl, PcT_pre hK hH⟩ rfl rfl hl.1 rfl (lv_room (Nat.le_of_ble_eq_true rfl)) dX12_keepers_147 ⟨Nat.zero_le _, Nat.zero_le _⟩) hS (fun q _ h => AF.mono hS.1 h) (fun q h => AF.mono hS.1 h) (fun x_6 ux_6 t H locs ht hvm hx_6 hB hz hk hS => ?_)
        obtain ⟨eTx_6, eGx_6⟩ := hx_6
        obtain ⟨G_7, eG_7⟩ : ∃ z, z = ux_6.2 := ⟨_, rfl⟩
        rw [← eG_7] at eGx_6
        obtain ⟨hfr_8, hex_9⟩ := eGx_6
        have fr_10 : FR [104, 105] [(g.2.2 124)] [] G G_7 := FR.tr frL_57 hfr_8 (by decide) (fun _ _ => trivial) (by decide)
        have u_11 : G_7.1 102 = (G.1 102) := (hfr_8.1 102 (by decide)).trans (frL_57.1 102 (by decide))
        have u_12 : G_7.1 113 = (G.1 113) := (hfr_8.1 113 (by decide)).trans (frL_57.1 113 (by decide))
        have u_13 : G_7.1 122 = (G.1 122) := (hfr_8.1 122 (by decide)).trans (frL_57.1 122 (by decide))
        have u_14 : G_7.1 133 = (G.1 133) := (hfr_8.1 133 (by decide)).trans (frL_57.1 133 (by decide))
        have u_15 : G_7.1 137 = (G.1 137) := (hfr_8.1 137 (by decide)).trans (frL_57.1 137 (by decide))
        have w_16 : G_7.2.1 (g.2.2 100) = (G.2.1 (g.2.2 100)) := (hfr_8.2.1 (g.2.2 100) trivial).trans (frL_57.2.1 (g.2.2 100) ⟨(hLD 100 (by decide) 124 (by decide) (by decide)), trivial⟩)
        have w_17 : G_7.2.1 (g.2.2 121) = (G.2.1 (g.2.2 121)) := (hfr_8.2.1 (g.2.2 121) trivial).trans (frL_57.2.1 (g.2.2 121) ⟨(ne_kd hmk.2.2.2.2.2.1 hmk.2.2.2.2.2.2.2.1 (by decide)), trivial⟩)
        have w_18 : G_7.2.1 (g.2.2 140) = (G.2.1 (g.2.2 140)) := (hfr_8.2.1 (g.2.2 140) trivial).trans (frL_57.2.1 (g.2.2 140) ⟨(ne_kd hmk.2.2.2.2.2.2.2.2.2.2.2.2.2.2.2.2.2.2.1 hmk.2.2.2.2.2.2.2.1 (by decide)), trivial⟩)
        have w_19 : G_7.2.1 (g.2.2 141) = (G.2.1 (g.2.2 141)) := (hfr_8.2.1 (g.2.2 141) trivial).trans (frL_57.2.1 (g.2.2 141) ⟨(ne_kd hmk.2.2.2.2.2.2.2.2.2.2.2.2.2.2.2.2.2.2.2.1 hmk.2.2.2.2.2.2.2.1 (by decide)), trivial⟩)
        have w_20 : G_7.2.1 (g.2.2 111) = (G.2.1 (g.2.2 111)) := (hfr_8.2.1 (g.2.2 111) trivial).trans (frL_57.2.1 (g.2.2 111) ⟨(ne_kd hmk.2.2.2.2.2.2.2.2.2.2.2.2.2.2.2.2.2.2.2.2.1 hmk.2.2.2.2.2.2.2.1 (by decide)), trivial⟩)
        have w_21 : G_7.2.1 (g.2.2 124) = fl5_57 := (hfr_8.2.1 (g.2.2 124) trivial).trans efl5_57
        have u_22 : G_7.2.2 111 = some (g.2.2 111) := (hfr_8.2.2 111 (by decide)).trans ((frL_57.2.2 111 (by decide)).trans hI.r111)
        have u_23 : G_7.2.2 112 = some (g.2.2 112) := (hfr_8.2.2 112 (by decide)).trans ((frL_57.2.2 112 (by decide)).trans hI.r112)
        obtain ⟨xa_24, xb_25⟩ := hex_9
        have hq_26 : F_X12_tellBits_x y3_57 = x_6 := by have q := xb_25; exact q
        try rw [hq_26] at hv
        have t4_27 : rgI (1) (1) (G_7.1 104) := xa_24
        have hH : HT g Ty G_7 H := by rw [← ht, ← eTx_6, eG_7]; exact hB
        exact W.iret hx hb hr (fun t ht hWm => ⟨⟨x_6, (Ty, G_7), rfl, ⟨rfl, ⟨fr_10, ⟨⟨(by rw [u_11]; exact (rg_w hI.a102 (by decide) (by decide))), (rg_w t4_27 (by decide) (by decide)), (by rw [u_12]; exact (rg_w hI.a113 (by decide) (by decide))), (by rw [u_13]; exact (rg_w hI.a122 (by decide) (by decide))), (by rw [u_14]; exact (rg_w hI.a133 (by decide) (by decide))), (by rw [u_15]; exact (rg_w hI.a137 (by decide) (by decide))), u_22, u_23, (by rw [w_16]; exact (hI.ti.hi (show Bd ≤ Bd + 1000 by omega))), (hI.un2 (show Bd ≤ Bd + 1000 by omega) w_17 u_13), (hI.ke2 (show Bd ≤ Bd + 1000 by omega) w_18 w_19)⟩, hv.symm.trans (by rw [w_21])⟩⟩⟩, by show HT g Ty G_7 t.heap; rw [ht]; exact hH⟩, hS.F ht⟩) hS.2.2 dX12_keepers_150
      · rw [if_neg c_1] at hv
        have r_28 : rgI (0) (23) y4_57 := rg_w (rg_ltL ry4_57 rl_24 (nle_lt c_1)) (by decide) (by decide)
        refine lv_aload_n hx hb dX12_keepers_64 rfl (lv_at hl 0 rfl) ?_
        obtain ⟨_, ⟨rfl, t_30, hk_31⟩, o_c_29⟩ := hH h0 _ k_h0
        refine hg_get hx hb hG igX12 hown hK o_c_29 rfl 0 (by decide) (hG _ mw_1284) rfl dX12_keepers_65 ?_
        refine lv_iload hx hb dX12_keepers_68 (lv_at hl 4 rfl) ?_
        refine vp_callSi (W.runS (As := [.ref (g.2.2 100), .int y4_57]) (rest := []) ⟨hx, hb, hml, hown, hts⟩ (c_X12_isThere l g Ty G_57 (g.2.2 100) y4_57 (hk_31.1)) (cwSx 2 hts hG (gwC mw_1520) mw_88 mw_1518 mw_1519 rfl rfl rfl hd_X12_isThere ⟨Nat.le_of_ble_eq_true rfl, Nat.le_of_ble_eq_true rfl⟩) ⟨PcH_blind, PcH_pre hK hH⟩ rfl rfl hl.1 rfl (lv_room (Nat.le_of_ble_eq_true rfl)) dX12_keepers_70 ⟨Nat.zero_le _, Nat.zero_le _⟩) (fun x_32 hx_32 => ?_)
        have rx_32 : rgI (0) (1) x_32 := hx_32.1
        try rw [← hx_32.2.2] at hv
        have ex_33 : x_32 = F_X12_isThere (G.2.1 (g.2.2 100)) y4_57 := by rw [← (frL_57.2.1 (g.2.2 100) ⟨(hLD 100 (by decide) 124 (by decide) (by decide)), trivial⟩)]; exact hx_32.2.2
        try rw [← ex_33] at hv
        refine lv_if_eq (tgt := 139) hx hb dX12_keepers_73 (by decide) (fun c_34 => ?_) (fun c_34 => ?_)
        · rw [if_pos c_34] at hv
          have r_35 : rgI (0) (0) x_32 := rg_w (rg_eq rl_0 c_34) (by decide) (by decide)
          obtain ⟨x_36, ex_36⟩ : ∃ y : Int32, y = y4_57 + 1 := ⟨_, rfl⟩
          try rw [← ex_36] at hv
          have rx_36 : rgI (1) (24) x_36 := by rw [ex_36]; exact rg_w (rg_add r_28 rl_1 (by decide) (by decide)) (by decide) (by decide)
          have qx_36 : x_36.toInt = (y4_57 : Int32).toInt + 1 := by rw [ex_36]; exact rg_addE r_28 rl_1 (by decide) (by decide)
          refine lv_iinc (v := x_36) (lv' := [(4, .int x_36), (0, .ref h0), (1, .int a0), (2, .int a1), (3, .int y3_57)]) hx hb dX12_keepers_139 hl (k := 4) rfl (by rw [ex_36]; rfl) (by decide) rfl (fun ls hl => ?_)
          refine lv_goto (tgt := 57) hx hb dX12_keepers_142 (by decide) ?_
          exact ih_57 H locs G_57 fl5_57 y3_57 x_36 ls (rg_w rg104_57 (by decide) (by decide)) frL_57 efl5_57 ry1_57 ry2_57 (rg_w rx_36 (by decide) (by decide)) hi0_57 (by have h1 := qx_36; have h2 := r_28.1; have h3 := r_28.2; have h4 := hm_57; omega) (lv_sub hl [1, 2, 3, 4, 0] rfl) hv hH hS
        · rw [if_neg c_34] at hv
          have th_37 : thr (G.2.1 (g.2.2 100)) y4_57 := F_isThere_thr (by rw [← ex_33]; exact c_34)
          have r_38 : rgI (1) (1) x_32 := rg_w (rg_neL rx_32 rl_0 c_34) (by decide) (by decide)
          refine lv_iload hx hb dX12_keepers_76 (lv_at hl 4 rfl) ?_
          refine lv_iload_n hx hb dX12_keepers_78 rfl (lv_at hl 1 rfl) ?_
          refine lv_icmp_eq (tgt := 139) hx hb dX12_keepers_79 (by decide) (fun c_39 => ?_) (fun c_39 => ?_)
          · rw [if_pos c_39] at hv
            obtain ⟨x_40, ex_40⟩ : ∃ y : Int32, y = y4_57 + 1 := ⟨_, rfl⟩
            try rw [← ex_40] at hv
            have rx_40 : rgI (1) (24) x_40 := by rw [ex_40]; exact rg_w (rg_add r_28 rl_1 (by decide) (by decide)) (by decide) (by decide)
            have qx_40 : x_40.toInt = (y4_57 : Int32).toInt + 1 := by rw [ex_40]; exact rg_addE r_28 rl_1 (by decide) (by decide)
            refine lv_iinc (v := x_40) (lv' := [(4, .int x_40), (0, .ref h0), (1, .int a0), (2, .int a1), (3, .int y3_57)]) hx hb dX12_keepers_139 hl (k := 4) rfl (by rw [ex_40]; rfl) (by decide) rfl (fun ls hl => ?_)
            refine lv_goto (tgt := 57) hx hb dX12_keepers_142 (by decide) ?_
            exact ih_57 H locs G_57 fl5_57 y3_57 x_40 ls (rg_w rg104_57 (by decide) (by decide)) frL_57 efl5_57 ry1_57 ry2_57 (rg_w rx_40 (by decide) (by decide)) hi0_57 (by have h1 := qx_40; have h2 := r_28.1; have h3 := r_28.2; have h4 := hm_57; omega) (lv_sub hl [1, 2, 3, 4, 0] rfl) hv hH hS
          · rw [if_neg c_39] at hv
            refine lv_iload hx hb dX12_keepers_82 (lv_at hl 4 rfl) ?_
            refine lv_iload_n hx hb dX12_keepers_84 rfl (lv_at hl 2 rfl) ?_
            refine lv_icmp_ne (tgt := 91) hx hb dX12_keepers_85 (by decide) (fun c_41 => ?_) (fun c_41 => ?_)
            · rw [if_neg c_41] at hv
              refine lv_aload_n hx hb dX12_keepers_91 rfl (lv_at hl 0 rfl) ?_
              refine hg_get hx hb hG igX12 hown hK o_c_29 rfl 0 (by decide) (hG _ mw_1284) rfl dX12_keepers_92 ?_
              refine lv_aload_n hx hb dX12_keepers_95 rfl (lv_at hl 0 rfl) ?_
              refine hg_get hx hb hG igX12 hown hK o_c_29 rfl 24 (by decide) (hG _ mw_1308) rfl dX12_keepers_96 ?_
              refine lv_iconst (v := 0) hx hb dX12_keepers_99 (by decide) ?_
              refine va_callv (va_runS (As := [.ref (g.2.2 100), .ref (g.2.2 124), .int 0]) (rest := []) ⟨hx, hb, hml, hown, hts⟩ (c_X12_lay_a l g Ty G_57 H.size (g.2.2 100) (g.2.2 124) 0 (hk_31.1) (hk_31.2.2.2.2.2.2.2.1) (rg_w rl_0 (by decide) (by decide)) (hLD 100 (by decide) 124 (by decide) (by decide))) (cwSx 3 hts hG (gwC mw_1583) mw_88 mw_1581 mw_1582 rfl rfl rfl hd_X12_lay ⟨Nat.le_of_ble_eq_true rfl, Nat.le_of_ble_eq_true rfl⟩) ⟨PcT_blind, PcT_pre hK hH⟩ rfl rfl hl.1 rfl (lv_room (Nat.le_of_ble_eq_true rfl)) dX12_keepers_100 ⟨Nat.zero_le _, Nat.zero_le _⟩) hS (fun q _ h => AF.mono hS.1 h) (fun q h => AF.mono hS.1 h) (fun ux_42 t H locs ht hvm hx_42 hB hz hk hS => ?_)
              obtain ⟨eTx_42, eGx_42⟩ := hx_42
              obtain ⟨G_43, eG_43⟩ : ∃ z, z = ux_42.2 := ⟨_, rfl⟩
              rw [← eG_43] at eGx_42
              obtain ⟨hfr_44, hex_45⟩ := eGx_42
              have fr_46 : FR [104, 105] [(g.2.2 124)] [] G G_43 := FR.tr frL_57 hfr_44 (by decide) (fun b h => ⟨h.1, trivial⟩) (by decide)
              have u_47 : G_43.1 104 = (G_57.1 104) := (hfr_44.1 104 (by decide))
              have u_48 : G_43.1 102 = (G.1 102) := (hfr_44.1 102 (by decide)).trans (frL_57.1 102 (by decide))
              have u_49 : G_43.1 113 = (G.1 113) := (hfr_44.1 113 (by decide)).trans (frL_57.1 113 (by decide))
              have u_50 : G_43.1 122 = (G.1 122) := (hfr_44.1 122 (by decide)).trans (frL_57.1 122 (by decide))
              have u_51 : G_43.1 133 = (G.1 133) := (hfr_44.1 133 (by decide)).trans (frL_57.1 133 (by decide))
              have u_52 : G_43.1 137 = (G.1 137) := (hfr_44.1 137 (by decide)).trans (frL_57.1 137 (by decide))
              have w_53 : G_43.2.1 (g.2.2 100) = (G.2.1 (g.2.2 100)) := (hfr_44.2.1 (g.2.2 100) ⟨(hLD 100 (by decide) 124 (by decide) (by decide)), trivial⟩).trans (frL_57.2.1 (g.2.2 100) ⟨(hLD 100 (by decide) 124 (by decide) (by decide)), trivial⟩)
              have w_54 : G_43.2.1 (g.2.2 121) = (G.2.1 (g.2.2 121)) := (hfr_44.2.1 (g.2.2 121) ⟨(ne_kd hmk.2.2.2.2.2.1 hmk.2.2.2.2.2.2.2.1 (by decide)), trivial⟩).trans (frL_57.2.1 (g.2.2 121) ⟨(ne_kd hmk.2.2.2.2.2.1 hmk.2.2.2.2.2.2.2.1 (by decide)), trivial⟩)
              have w_55 : G_43.2.1 (g.2.2 140) = (G.2.1 (g.2.2 140)) := (hfr_44.2.1 (g.2.2 140) ⟨(ne_kd hmk.2.2.2.2.2.2.2.2.2.2.2.2.2.2.2.2.2.2.1 hmk.2.2.2.2.2.2.2.1 (by decide)), trivial⟩).trans (frL_57.2.1 (g.2.2 140) ⟨(ne_kd hmk.2.2.2.2.2.2.2.2.2.2.2.2.2.2.2.2.2.2.1 hmk.2.2.2.2.2.2.2.1 (by decide)), trivial⟩)
              have w_56 : G_43.2.1 (g.2.2 141) = (G.2.1 (g.2.2 141)) := (hfr_44.2.1 (g.2.2 141) ⟨(ne_kd hmk.2.2.2.2.2.2.2.2.2.2.2.2.2.2.2.2.2.2.2.1 hmk.2.2.2.2.2.2.2.1 (by decide)), trivial⟩).trans (frL_57.2.1 (g.2.2 141) ⟨(ne_kd hmk.2.2.2.2.2.2.2.2.2.2.2.2.2.2.2.2.2.2.2.1 hmk.2.2.2.2.2.2.2.1 (by decide)), trivial⟩)
              have w_57 : G_43.2.1 (g.2.2 111) = (G.2.1 (g.2.2 111)) := (hfr_44.2.1 (g.2.2 111) ⟨(ne_kd hmk.2.2.2.2.2.2.2.2.2.2.2.2.2.2.2.2.2.2.2.2.1 hmk.2.2.2.2.2.2.2.1 (by decide)), trivial⟩).trans (frL_57.2.1 (g.2.2 111) ⟨(ne_kd hmk.2.2.2.2.2.2.2.2.2.2.2.2.2.2.2.2.2.2.2.2.1 hmk.2.2.2.2.2.2.2.1 (by decide)), trivial⟩)
              have u_58 : G_43.2.2 111 = some (g.2.2 111) := (hfr_44.2.2 111 (by decide)).trans ((frL_57.2.2 111 (by decide)).trans hI.r111)
              have u_59 : G_43.2.2 112 = some (g.2.2 112) := (hfr_44.2.2 112 (by decide)).trans ((frL_57.2.2 112 (by decide)).trans hI.r112)
              obtain ⟨f_60, ef_60⟩ : ∃ z : Nat → Int32, G_43.2.1 (g.2.2 124) = z := ⟨_, rfl⟩
              have ly_61 := hex_45
              rw [ef_60, (frL_57.2.1 (g.2.2 100) ⟨(hLD 100 (by decide) 124 (by decide) (by decide)), trivial⟩), efl5_57] at ly_61
              have lq_62 : LYF (G.2.1 (g.2.2 100)) fl5_57 (Int32.toNatClampNeg 0) = f_60 := (LYF_eq ly_61).symm
              rw [lq_62] at hv
              have hH : HT g Ty G_43 H := by rw [← ht, ← eTx_42, eG_43]; exact hB
              have sr_63 : SR (G.2.1 (g.2.2 100)) f_60 := LY_sr ly_61
              refine lv_aload_n hx hb dX12_keepers_103 rfl (lv_at hl 0 rfl) ?_
              obtain ⟨_, ⟨rfl, t_65, hk_66⟩, o_c_64⟩ := hH h0 _ k_h0
              refine hg_get hx hb hG igX12 hown hK o_c_64 rfl 24 (by decide) (hG _ mw_1308) rfl dX12_keepers_104 ?_
              refine lv_iload hx hb dX12_keepers_107 (lv_at hl 4 rfl) ?_
              refine lv_iconst (v := 0) hx hb dX12_keepers_109 (by decide) ?_
              refine va_callv (va_runS (As := [.ref (g.2.2 124), .int y4_57, .int 0]) (rest := []) ⟨hx, hb, hml, hown, hts⟩ (c_X12_goMake l g Ty G_43 H.size (g.2.2 124) y4_57 0 (hk_66.2.2.2.2.2.2.2.1) (rg_w r_28 (by decide) (by decide))) (cwSx 3 hts hG (gwC mw_1645) mw_88 mw_1643 mw_1644 rfl rfl rfl hd_X12_goMake ⟨Nat.le_of_ble_eq_true rfl, Nat.le_of_ble_eq_true rfl⟩) ⟨PcT_blind, PcT_pre hK hH⟩ rfl rfl hl.1 rfl (lv_room (Nat.le_of_ble_eq_true rfl)) dX12_keepers_110 ⟨Nat.zero_le _, Nat.zero_le _⟩) hS (fun q _ h => AF.mono hS.1 h) (fun q h => AF.mono hS.1 h) (fun ux_67 t H locs ht hvm hx_67 hB hz hk hS => ?_)
              obtain ⟨eTx_67, eGx_67⟩ := hx_67
              obtain ⟨G_68, eG_68⟩ : ∃ z, z = ux_67.2 := ⟨_, rfl⟩
              rw [← eG_68] at eGx_67
              have hg_70 := eGx_67
              rw [ef_60] at hg_70
              obtain ⟨f_69, ef_69⟩ : ∃ z : Nat → Int32, z = F_X12_goMake f_60 y4_57 0 := ⟨_, rfl⟩
              rw [← ef_69] at hg_70
              have fr_71 : FR [104, 105] [(g.2.2 124)] [] G G_68 := FR.a fr_46 hg_70 (fun b h => h.1)
              have u_72 : G_68.1 104 = (G_57.1 104) := by rw [hg_70]; exact u_47
              have u_73 : G_68.1 102 = (G.1 102) := by rw [hg_70]; exact u_48
              have u_74 : G_68.1 113 = (G.1 113) := by rw [hg_70]; exact u_49
              have u_75 : G_68.1 122 = (G.1 122) := by rw [hg_70]; exact u_50
              have u_76 : G_68.1 133 = (G.1 133) := by rw [hg_70]; exact u_51
              have u_77 : G_68.1 137 = (G.1 137) := by rw [hg_70]; exact u_52
              have w_78 : G_68.2.1 (g.2.2 100) = (G.2.1 (g.2.2 100)) := by rw [hg_70]; exact (aset_ne (hLD 100 (by decide) 124 (by decide) (by decide))).trans w_53
              have w_79 : G_68.2.1 (g.2.2 121) = (G.2.1 (g.2.2 121)) := by rw [hg_70]; exact (aset_ne (ne_kd hmk.2.2.2.2.2.1 hmk.2.2.2.2.2.2.2.1 (by decide))).trans w_54
              have w_80 : G_68.2.1 (g.2.2 140) = (G.2.1 (g.2.2 140)) := by rw [hg_70]; exact (aset_ne (ne_kd hmk.2.2.2.2.2.2.2.2.2.2.2.2.2.2.2.2.2.2.1 hmk.2.2.2.2.2.2.2.1 (by decide))).trans w_55
              have w_81 : G_68.2.1 (g.2.2 141) = (G.2.1 (g.2.2 141)) := by rw [hg_70]; exact (aset_ne (ne_kd hmk.2.2.2.2.2.2.2.2.2.2.2.2.2.2.2.2.2.2.2.1 hmk.2.2.2.2.2.2.2.1 (by decide))).trans w_56
              have w_82 : G_68.2.1 (g.2.2 111) = (G.2.1 (g.2.2 111)) := by rw [hg_70]; exact (aset_ne (ne_kd hmk.2.2.2.2.2.2.2.2.2.2.2.2.2.2.2.2.2.2.2.2.1 hmk.2.2.2.2.2.2.2.1 (by decide))).trans w_57
              have w_83 : G_68.2.1 (g.2.2 124) = f_69 := by rw [hg_70]; exact aset_eq
              have u_84 : G_68.2.2 111 = some (g.2.2 111) := by rw [hg_70]; exact u_58
              have u_85 : G_68.2.2 112 = some (g.2.2 112) := by rw [hg_70]; exact u_59
              rw [← ef_69, tu1_eq] at hv
              have hH : HT g Ty G_68 H := by rw [← ht, ← eTx_67, eG_68]; exact hB
              have th_86 : thr f_69 a0 := by rw [ef_69]; exact (TI_make (SR_ti sr_63 hI.ti) (Int.le_trans hBd (by decide)) (sr_63.thr th_37)).2.thr (sr_63.thr hi0_57)
              refine lv_iload_n hx hb dX12_keepers_113 rfl (lv_at hl 3 rfl) ?_
              refine lv_aload_n hx hb dX12_keepers_114 rfl (lv_at hl 0 rfl) ?_
              obtain ⟨_, ⟨rfl, t_88, hk_89⟩, o_c_87⟩ := hH h0 _ k_h0
              refine hg_get hx hb hG igX12 hown hK o_c_87 rfl 24 (by decide) (hG _ mw_1308) rfl dX12_keepers_115 ?_
              refine lv_iload_n hx hb dX12_keepers_118 rfl (lv_at hl 1 rfl) ?_
              refine vp_callSi (W.runS (As := [.ref (g.2.2 124), .int a0]) (rest := [.int y3_57]) ⟨hx, hb, hml, hown, hts⟩ (c_X12_spreadOf l g Ty G_68 (g.2.2 124) a0 (hk_89.2.2.2.2.2.2.2.1) (by rw [w_83]; exact th_86)) (cwSx 2 hts hG (gwC mw_1560) mw_88 mw_1558 mw_1559 rfl rfl rfl hd_X12_spreadOf ⟨Nat.le_of_ble_eq_true rfl, Nat.le_of_ble_eq_true rfl⟩) ⟨PcH_blind, PcH_pre hK hH⟩ rfl rfl hl.1 rfl (lv_room (Nat.le_of_ble_eq_true rfl)) dX12_keepers_119 ⟨Nat.zero_le _, Nat.zero_le _⟩) (fun x_90 hx_90 => ?_)
              try rw [← hx_90.2] at hv
              have ex_91 : x_90 = F_X12_spreadOf f_69 a0 := by rw [← w_83]; exact hx_90.2
              have tx_92 := hx_90.1
              try rw [w_83] at tx_92
              try rw [w_82] at tx_92
              try rw [u_74] at tx_92
              try rw [w_78] at tx_92
              try rw [← ex_91] at hv
              refine lv_iload_n hx hb dX12_keepers_122 rfl (lv_at hl 2 rfl) ?_
              refine vp_callSi (W.runS (As := [.int x_90, .int a1]) (rest := [.int y3_57]) ⟨hx, hb, hml, hown, hts⟩ (c_X12_has l g Ty G_68 x_90 a1 ) (cwSx 2 hts hG (gwC mw_1563) mw_88 mw_1561 mw_1562 rfl rfl rfl hd_X12_has ⟨Nat.le_of_ble_eq_true rfl, Nat.le_of_ble_eq_true rfl⟩) ⟨PcH_blind, PcH_pre hK hH⟩ rfl rfl hl.1 rfl (lv_room (Nat.le_of_ble_eq_true rfl)) dX12_keepers_123 ⟨Nat.zero_le _, Nat.zero_le _⟩) (fun x_93 hx_93 => ?_)
              have rx_93 : rgI (0) (1) x_93 := hx_93.1
              try rw [← hx_93.2] at hv
              try rw [← hx_93.2] at hv
              refine lv_if_eq (tgt := 133) hx hb dX12_keepers_126 (by decide) (fun c_94 => ?_) (fun c_94 => ?_)
              · rw [if_pos c_94] at hv
                have r_95 : rgI (0) (0) x_93 := rg_w (rg_eq rl_0 c_94) (by decide) (by decide)
                have hb_96 : bt x_90 (a1 : Int32).toNatClampNeg = false := has_0 (rg_w ry2_57 (by decide) (by decide)) (by rw [← hx_93.2]; exact c_94)
                refine lv_iconst (v := 1) hx hb dX12_keepers_133 (by decide) ?_
                refine lv_iload hx hb dX12_keepers_134 (lv_at hl 4 rfl) ?_
                refine lv_ishl hx hb dX12_keepers_136 ?_
                refine lv_topi (fun x_97 ex_97 => ?_)
                try rw [← ex_97] at hv
                refine lv_ior hx hb dX12_keepers_137 ?_
                refine lv_topi (fun x_98 ex_98 => ?_)
                try rw [← ex_98] at hv
                refine lv_istore_n (lv' := [(3, .int x_98), (0, .ref h0), (1, .int a0), (2, .int a1), (4, .int y4_57)]) hx hb dX12_keepers_138 rfl hl (by decide) rfl (fun ls hl => ?_)
                obtain ⟨x_99, ex_99⟩ : ∃ y : Int32, y = y4_57 + 1 := ⟨_, rfl⟩
                try rw [← ex_99] at hv
                have rx_99 : rgI (1) (24) x_99 := by rw [ex_99]; exact rg_w (rg_add r_28 rl_1 (by decide) (by decide)) (by decide) (by decide)
                have qx_99 : x_99.toInt = (y4_57 : Int32).toInt + 1 := by rw [ex_99]; exact rg_addE r_28 rl_1 (by decide) (by decide)
                refine lv_iinc (v := x_99) (lv' := [(4, .int x_99), (3, .int x_98), (0, .ref h0), (1, .int a0), (2, .int a1)]) hx hb dX12_keepers_139 hl (k := 4) rfl (by rw [ex_99]; rfl) (by decide) rfl (fun ls hl => ?_)
                refine lv_goto (tgt := 57) hx hb dX12_keepers_142 (by decide) ?_
                exact ih_57 H locs G_68 f_69 x_98 x_99 ls (by rw [u_72]; exact rg_w rg104_57 (by decide) (by decide)) fr_71 w_83 ry1_57 ry2_57 (rg_w rx_99 (by decide) (by decide)) hi0_57 (by have h1 := qx_99; have h2 := r_28.1; have h3 := r_28.2; have h4 := hm_57; omega) (lv_sub hl [2, 3, 4, 1, 0] rfl) hv hH hS
              · rw [if_neg c_94] at hv
                have r_100 : rgI (1) (1) x_93 := rg_w (rg_neL rx_93 rl_0 c_94) (by decide) (by decide)
                have hb_101 : bt x_90 (a1 : Int32).toNatClampNeg = true := has_1 (rg_w ry2_57 (by decide) (by decide)) (by rw [← hx_93.2]; exact c_94)
                refine lv_iconst (v := 0) hx hb dX12_keepers_129 (by decide) ?_
                refine lv_goto (tgt := 137) hx hb dX12_keepers_130 (by decide) ?_
                refine lv_ior hx hb dX12_keepers_137 ?_
                refine lv_topi (fun x_102 ex_102 => ?_)
                try rw [← ex_102] at hv
                refine lv_istore_n (lv' := [(3, .int x_102), (0, .ref h0), (1, .int a0), (2, .int a1), (4, .int y4_57)]) hx hb dX12_keepers_138 rfl hl (by decide) rfl (fun ls hl => ?_)
                obtain ⟨x_103, ex_103⟩ : ∃ y : Int32, y = y4_57 + 1 := ⟨_, rfl⟩
                try rw [← ex_103] at hv
                have rx_103 : rgI (1) (24) x_103 := by rw [ex_103]; exact rg_w (rg_add r_28 rl_1 (by decide) (by decide)) (by decide) (by decide)
                have qx_103 : x_103.toInt = (y4_57 : Int32).toInt + 1 := by rw [ex_103]; exact rg_addE r_28 rl_1 (by decide) (by decide)
                refine lv_iinc (v := x_103) (lv' := [(4, .int x_103), (3, .int x_102), (0, .ref h0), (1, .int a0), (2, .int a1)]) hx hb dX12_keepers_139 hl (k := 4) rfl (by rw [ex_103]; rfl) (by decide) rfl (fun ls hl => ?_)
                refine lv_goto (tgt := 57) hx hb dX12_keepers_142 (by decide) ?_
                exact ih_57 H locs G_68 f_69 x_102 x_103 ls (by rw [u_72]; exact rg_w rg104_57 (by decide) (by decide)) fr_71 w_83 ry1_57 ry2_57 (rg_w rx_103 (by decide) (by decide)) hi0_57 (by have h1 := qx_103; have h2 := r_28.1; have h3 := r_28.2; have h4 := hm_57; omega) (lv_sub hl [2, 3, 4, 1, 0] rfl) hv hH hS
            · rw [if_pos c_41] at hv
              refine lv_goto (tgt := 139) hx hb dX12_keepers_88 (by decide) ?_
              obtain ⟨x_104, ex_104⟩ : ∃ y : Int32, y = y4_57 + 1 := ⟨_, rfl⟩
              try rw [← ex_104] at hv
              have rx_104 : rgI (1) (24) x_104 := by rw [ex_104]; exact rg_w (rg_add r_28 rl_1 (by decide) (by decide)) (by decide) (by decide)
              have qx_104 : x_104.toInt = (y4_57 : Int32).toInt + 1 := by rw [ex_104]; exact rg_addE r_28 rl_1 (by decide) (by decide)
              refine lv_iinc (v := x_104) (lv' := [(4, .int x_104), (0, .ref h0), (1, .int a0), (2, .int a1), (3, .int y3_57)]) hx hb dX12_keepers_139 hl (k := 4) rfl (by rw [ex_104]; rfl) (by decide) rfl (fun ls hl => ?_)
              refine lv_goto (tgt := 57) hx hb dX12_keepers_142 (by decide) ?_
              exact ih_57 H locs G_57 fl5_57 y3_57 x_104 ls (rg_w rg104_57 (by decide) (by decide)) frL_57 efl5_57 ry1_57 ry2_57 (rg_w rx_104 (by decide) (by decide)) hi0_57 (by have h1 := qx_104; have h2 := r_28.1; have h3 := r_28.2; have h4 := hm_57; omega) (lv_sub hl [1, 2, 3, 4, 0] rfl) hv hH hS
  refine lv_aload_n hx hb dX12_keepers_0 rfl (lv_at hl 0 rfl) ?_
  refine lv_iconst (v := 0) hx hb dX12_keepers_1 (by decide) ?_
  obtain ⟨_, ⟨rfl, t_106, hk_107⟩, o_c_105⟩ := hH h0 _ k_h0
  refine hg_put (ty := .int) hx hb hG igX12 tyX12 tyX12_ok nmX12 hown hK hS o_c_105 (AF.of k_h0) rfl 5 (by decide) (hG _ mw_1289) rfl (by decide +kernel) rfl rfl (Nat.le_of_ble_eq_true rfl) dX12_keepers_2 (fun H locs o_c_105 hz oq hS => ?_)
  obtain ⟨G_108, eG_108⟩ : ∃ z : Gh, z = gset G 105 0 := ⟨_, rfl⟩
  have hH : HT g Ty G_108 H := by rw [eG_108]; exact HT.putN 105 0 hH k_h0 ⟨rfl, t_106, hk_107⟩ o_c_105 oq (Or.inr (Or.inr (Or.inr (Or.inr (Or.inr ⟨by decide, t_106⟩)))))
  have fr_109 : FR [104, 105] [(g.2.2 124)] [] G G_108 := FR.n FR.rf eG_108 (by decide)
  have u_110 : G_108.1 102 = (G.1 102) := by rw [eG_108]; exact (gs_ne (by decide))
  have u_111 : G_108.1 104 = (G.1 104) := by rw [eG_108]; exact (gs_ne (by decide))
  have u_112 : G_108.1 113 = (G.1 113) := by rw [eG_108]; exact (gs_ne (by decide))
  have u_113 : G_108.1 122 = (G.1 122) := by rw [eG_108]; exact (gs_ne (by decide))
  have u_114 : G_108.1 133 = (G.1 133) := by rw [eG_108]; exact (gs_ne (by decide))
  have u_115 : G_108.1 137 = (G.1 137) := by rw [eG_108]; exact (gs_ne (by decide))
  have u_116 : G_108.1 105 = 0 := by rw [eG_108]; exact gs_eq
  have w_117 : G_108.2.1 (g.2.2 100) = (G.2.1 (g.2.2 100)) := by rw [eG_108]; exact rfl
  have w_118 : G_108.2.1 (g.2.2 121) = (G.2.1 (g.2.2 121)) := by rw [eG_108]; exact rfl
  have w_119 : G_108.2.1 (g.2.2 140) = (G.2.1 (g.2.2 140)) := by rw [eG_108]; exact rfl
  have w_120 : G_108.2.1 (g.2.2 141) = (G.2.1 (g.2.2 141)) := by rw [eG_108]; exact rfl
  have w_121 : G_108.2.1 (g.2.2 111) = (G.2.1 (g.2.2 111)) := by rw [eG_108]; exact rfl
  have w_122 : G_108.2.1 (g.2.2 124) = (G.2.1 (g.2.2 124)) := by rw [eG_108]; exact rfl
  have u_123 : G_108.2.2 111 = some (g.2.2 111) := by rw [eG_108]; exact hI.r111
  have u_124 : G_108.2.2 112 = some (g.2.2 112) := by rw [eG_108]; exact hI.r112
  clear oq hz
  refine lv_aload_n hx hb dX12_keepers_5 rfl (lv_at hl 0 rfl) ?_
  obtain ⟨_, ⟨rfl, t_126, hk_127⟩, o_c_125⟩ := hH h0 _ k_h0
  refine hg_get hx hb hG igX12 hown hK o_c_125 rfl 0 (by decide) (hG _ mw_1284) rfl dX12_keepers_6 ?_
  refine lv_iload_n hx hb dX12_keepers_9 rfl (lv_at hl 1 rfl) ?_
  refine vp_callSi (W.runS (As := [.ref (g.2.2 100), .int a0]) (rest := []) ⟨hx, hb, hml, hown, hts⟩ (c_X12_isThere l g Ty G_108 (g.2.2 100) a0 (hk_127.1)) (cwSx 2 hts hG (gwC mw_1520) mw_88 mw_1518 mw_1519 rfl rfl rfl hd_X12_isThere ⟨Nat.le_of_ble_eq_true rfl, Nat.le_of_ble_eq_true rfl⟩) ⟨PcH_blind, PcH_pre hK hH⟩ rfl rfl hl.1 rfl (lv_room (Nat.le_of_ble_eq_true rfl)) dX12_keepers_10 ⟨Nat.zero_le _, Nat.zero_le _⟩) (fun x_128 hx_128 => ?_)
  have rx_128 : rgI (0) (1) x_128 := hx_128.1
  try rw [← hx_128.2.2] at hv
  have ex_129 : x_128 = F_X12_isThere (G.2.1 (g.2.2 100)) a0 := by rw [← w_117]; exact hx_128.2.2
  try rw [← ex_129] at hv
  refine lv_if_eq (tgt := 27) hx hb dX12_keepers_13 (by decide) (fun c_130 => ?_) (fun c_130 => ?_)
  · rw [if_pos c_130] at hv
    have r_131 : rgI (0) (0) x_128 := rg_w (rg_eq rl_0 c_130) (by decide) (by decide)
    refine lv_iconst (v := (-1)) hx hb dX12_keepers_27 (by decide) ?_
    exact W.iret hx hb hr (fun t ht hWm => ⟨⟨(-1), (Ty, G_108), rfl, ⟨rfl, ⟨fr_109, ⟨⟨(by rw [u_110]; exact (rg_w hI.a102 (by decide) (by decide))), (by rw [u_111]; exact (rg_w hI.a104 (by decide) (by decide))), (by rw [u_112]; exact (rg_w hI.a113 (by decide) (by decide))), (by rw [u_113]; exact (rg_w hI.a122 (by decide) (by decide))), (by rw [u_114]; exact (rg_w hI.a133 (by decide) (by decide))), (by rw [u_115]; exact (rg_w hI.a137 (by decide) (by decide))), u_123, u_124, (by rw [w_117]; exact (hI.ti.hi (show Bd ≤ Bd + 1000 by omega))), (hI.un2 (show Bd ≤ Bd + 1000 by omega) w_118 u_113), (hI.ke2 (show Bd ≤ Bd + 1000 by omega) w_119 w_120)⟩, hv.symm.trans (by rw [w_122])⟩⟩⟩, by show HT g Ty G_108 t.heap; rw [ht]; exact hH⟩, hS.F ht⟩) hS.2.2 dX12_keepers_28
  · rw [if_neg c_130] at hv
    have th_132 : thr (G.2.1 (g.2.2 100)) a0 := F_isThere_thr (by rw [← ex_129]; exact c_130)
    have r_133 : rgI (1) (1) x_128 := rg_w (rg_neL rx_128 rl_0 c_130) (by decide) (by decide)
    have r_134 : rgI (0) (23) a0 := rg_w (hx_128.2.1.resolve_left c_130) (by decide) (by decide)
    refine lv_aload_n hx hb dX12_keepers_16 rfl (lv_at hl 0 rfl) ?_
    refine hg_get hx hb hG igX12 hown hK o_c_125 rfl 0 (by decide) (hG _ mw_1284) rfl dX12_keepers_17 ?_
    refine lv_iload_n hx hb dX12_keepers_20 rfl (lv_at hl 2 rfl) ?_
    refine vp_callSi (W.runS (As := [.ref (g.2.2 100), .int a1]) (rest := []) ⟨hx, hb, hml, hown, hts⟩ (c_X12_isThere l g Ty G_108 (g.2.2 100) a1 (hk_127.1)) (cwSx 2 hts hG (gwC mw_1520) mw_88 mw_1518 mw_1519 rfl rfl rfl hd_X12_isThere ⟨Nat.le_of_ble_eq_true rfl, Nat.le_of_ble_eq_true rfl⟩) ⟨PcH_blind, PcH_pre hK hH⟩ rfl rfl hl.1 rfl (lv_room (Nat.le_of_ble_eq_true rfl)) dX12_keepers_21 ⟨Nat.zero_le _, Nat.zero_le _⟩) (fun x_135 hx_135 => ?_)
    have rx_135 : rgI (0) (1) x_135 := hx_135.1
    try rw [← hx_135.2.2] at hv
    have ex_136 : x_135 = F_X12_isThere (G.2.1 (g.2.2 100)) a1 := by rw [← w_117]; exact hx_135.2.2
    try rw [← ex_136] at hv
    refine lv_if_ne (tgt := 29) hx hb dX12_keepers_24 (by decide) (fun c_137 => ?_) (fun c_137 => ?_)
    · rw [if_neg c_137] at hv
      have th_138 : thr (G.2.1 (g.2.2 100)) a1 := F_isThere_thr (by rw [← ex_136]; exact c_137)
      have r_139 : rgI (1) (1) x_135 := rg_w (rg_neL rx_135 rl_0 c_137) (by decide) (by decide)
      have r_140 : rgI (0) (23) a1 := rg_w (hx_135.2.1.resolve_left c_137) (by decide) (by decide)
      refine lv_iload_n hx hb dX12_keepers_29 rfl (lv_at hl 1 rfl) ?_
      refine lv_iload_n hx hb dX12_keepers_30 rfl (lv_at hl 2 rfl) ?_
      refine lv_icmp_eq (tgt := 49) hx hb dX12_keepers_31 (by decide) (fun c_141 => ?_) (fun c_141 => ?_)
      · rw [if_pos c_141] at hv
        refine lv_bipush (v := (-2)) hx hb dX12_keepers_49 (by decide) ?_
        exact W.iret hx hb hr (fun t ht hWm => ⟨⟨(-2), (Ty, G_108), rfl, ⟨rfl, ⟨fr_109, ⟨⟨(by rw [u_110]; exact (rg_w hI.a102 (by decide) (by decide))), (by rw [u_111]; exact (rg_w hI.a104 (by decide) (by decide))), (by rw [u_112]; exact (rg_w hI.a113 (by decide) (by decide))), (by rw [u_113]; exact (rg_w hI.a122 (by decide) (by decide))), (by rw [u_114]; exact (rg_w hI.a133 (by decide) (by decide))), (by rw [u_115]; exact (rg_w hI.a137 (by decide) (by decide))), u_123, u_124, (by rw [w_117]; exact (hI.ti.hi (show Bd ≤ Bd + 1000 by omega))), (hI.un2 (show Bd ≤ Bd + 1000 by omega) w_118 u_113), (hI.ke2 (show Bd ≤ Bd + 1000 by omega) w_119 w_120)⟩, hv.symm.trans (by rw [w_122])⟩⟩⟩, by show HT g Ty G_108 t.heap; rw [ht]; exact hH⟩, hS.F ht⟩) hS.2.2 dX12_keepers_51
      · rw [if_neg c_141] at hv
        refine lv_aload_n hx hb dX12_keepers_34 rfl (lv_at hl 0 rfl) ?_
        refine hg_get hx hb hG igX12 hown hK o_c_125 rfl 0 (by decide) (hG _ mw_1284) rfl dX12_keepers_35 ?_
        refine lv_iload_n hx hb dX12_keepers_38 rfl (lv_at hl 1 rfl) ?_
        refine vp_callSi (W.runS (As := [.ref (g.2.2 100), .int a0]) (rest := []) ⟨hx, hb, hml, hown, hts⟩ (c_X12_spreadOf l g Ty G_108 (g.2.2 100) a0 (hk_127.1) (by rw [w_117]; exact th_132)) (cwSx 2 hts hG (gwC mw_1560) mw_88 mw_1558 mw_1559 rfl rfl rfl hd_X12_spreadOf ⟨Nat.le_of_ble_eq_true rfl, Nat.le_of_ble_eq_true rfl⟩) ⟨PcH_blind, PcH_pre hK hH⟩ rfl rfl hl.1 rfl (lv_room (Nat.le_of_ble_eq_true rfl)) dX12_keepers_39 ⟨Nat.zero_le _, Nat.zero_le _⟩) (fun x_142 hx_142 => ?_)
        try rw [← hx_142.2] at hv
        have ex_143 : x_142 = F_X12_spreadOf (G.2.1 (g.2.2 100)) a0 := by rw [← w_117]; exact hx_142.2
        have tx_144 := hx_142.1
        try rw [w_117] at tx_144
        try rw [w_121] at tx_144
        try rw [u_112] at tx_144
        try rw [← ex_143] at hv
        refine lv_iload_n hx hb dX12_keepers_42 rfl (lv_at hl 2 rfl) ?_
        refine vp_callSi (W.runS (As := [.int x_142, .int a1]) (rest := []) ⟨hx, hb, hml, hown, hts⟩ (c_X12_has l g Ty G_108 x_142 a1 ) (cwSx 2 hts hG (gwC mw_1563) mw_88 mw_1561 mw_1562 rfl rfl rfl hd_X12_has ⟨Nat.le_of_ble_eq_true rfl, Nat.le_of_ble_eq_true rfl⟩) ⟨PcH_blind, PcH_pre hK hH⟩ rfl rfl hl.1 rfl (lv_room (Nat.le_of_ble_eq_true rfl)) dX12_keepers_43 ⟨Nat.zero_le _, Nat.zero_le _⟩) (fun x_145 hx_145 => ?_)
        have rx_145 : rgI (0) (1) x_145 := hx_145.1
        try rw [← hx_145.2] at hv
        try rw [← hx_145.2] at hv
        refine lv_if_ne (tgt := 52) hx hb dX12_keepers_46 (by decide) (fun c_146 => ?_) (fun c_146 => ?_)
        · rw [if_neg c_146] at hv
          have r_147 : rgI (1) (1) x_145 := rg_w (rg_neL rx_145 rl_0 c_146) (by decide) (by decide)
          have hb_148 : bt x_142 (a1 : Int32).toNatClampNeg = true := has_1 (rg_w r_140 (by decide) (by decide)) (by rw [← hx_145.2]; exact c_146)
          refine lv_iconst (v := 0) hx hb dX12_keepers_52 (by decide) ?_
          refine lv_istore_n (lv' := [(3, .int 0), (0, .ref h0), (1, .int a0), (2, .int a1)]) hx hb dX12_keepers_53 rfl hl (by decide) rfl (fun ls hl => ?_)
          refine lv_iconst (v := 0) hx hb dX12_keepers_54 (by decide) ?_
          refine lv_istore (lv' := [(4, .int 0), (3, .int 0), (0, .ref h0), (1, .int a0), (2, .int a1)]) hx hb dX12_keepers_55 hl (by decide) rfl (fun ls hl => ?_)
          exact L_57 26 H locs G_108 (G.2.1 (g.2.2 124)) 0 0 ls (by rw [u_111]; exact rg_w hI.a104 (by decide) (by decide)) fr_109 w_122 r_134 r_140 (rg_w rl_0 (by decide) (by decide)) th_132 (by decide) (lv_sub hl [2, 3, 4, 1, 0] rfl) hv hH hS
        · rw [if_pos c_146] at hv
          have r_149 : rgI (0) (0) x_145 := rg_w (rg_eq rl_0 c_146) (by decide) (by decide)
          have hb_150 : bt x_142 (a1 : Int32).toNatClampNeg = false := has_0 (rg_w r_140 (by decide) (by decide)) (by rw [← hx_145.2]; exact c_146)
          refine lv_bipush (v := (-2)) hx hb dX12_keepers_49 (by decide) ?_
          exact W.iret hx hb hr (fun t ht hWm => ⟨⟨(-2), (Ty, G_108), rfl, ⟨rfl, ⟨fr_109, ⟨⟨(by rw [u_110]; exact (rg_w hI.a102 (by decide) (by decide))), (by rw [u_111]; exact (rg_w hI.a104 (by decide) (by decide))), (by rw [u_112]; exact (rg_w hI.a113 (by decide) (by decide))), (by rw [u_113]; exact (rg_w hI.a122 (by decide) (by decide))), (by rw [u_114]; exact (rg_w hI.a133 (by decide) (by decide))), (by rw [u_115]; exact (rg_w hI.a137 (by decide) (by decide))), u_123, u_124, (by rw [w_117]; exact (hI.ti.hi (show Bd ≤ Bd + 1000 by omega))), (hI.un2 (show Bd ≤ Bd + 1000 by omega) w_118 u_113), (hI.ke2 (show Bd ≤ Bd + 1000 by omega) w_119 w_120)⟩, hv.symm.trans (by rw [w_122])⟩⟩⟩, by show HT g Ty G_108 t.heap; rw [ht]; exact hH⟩, hS.F ht⟩) hS.2.2 dX12_keepers_51
    · rw [if_pos c_137] at hv
      have r_151 : rgI (0) (0) x_135 := rg_w (rg_eq rl_0 c_137) (by decide) (by decide)
      refine lv_iconst (v := (-1)) hx hb dX12_keepers_27 (by decide) ?_
      exact W.iret hx hb hr (fun t ht hWm => ⟨⟨(-1), (Ty, G_108), rfl, ⟨rfl, ⟨fr_109, ⟨⟨(by rw [u_110]; exact (rg_w hI.a102 (by decide) (by decide))), (by rw [u_111]; exact (rg_w hI.a104 (by decide) (by decide))), (by rw [u_112]; exact (rg_w hI.a113 (by decide) (by decide))), (by rw [u_113]; exact (rg_w hI.a122 (by decide) (by decide))), (by rw [u_114]; exact (rg_w hI.a133 (by decide) (by decide))), (by rw [u_115]; exact (rg_w hI.a137 (by decide) (by decide))), u_123, u_124, (by rw [w_117]; exact (hI.ti.hi (show Bd ≤ Bd + 1000 by omega))), (hI.un2 (show Bd ≤ Bd + 1000 by omega) w_118 u_113), (hI.ke2 (show Bd ≤ Bd + 1000 by omega) w_119 w_120)⟩, hv.symm.trans (by rw [w_122])⟩⟩⟩, by show HT g Ty G_108 t.heap; rw [ht]; exact hH⟩, hS.F ht⟩) hS.2.2 dX12_keepers_28

def F_X12_inside_x (r0 : Nat → Int32) (a0 : Int32) : Int32 := (if (F_X12_isThere r0 a0) = (0 : Int32) then (-1 : Int32) else (F_X12_insideOf_x r0 a0))
set_option maxHeartbeats 4000000 in
set_option maxRecDepth 100000 in
theorem c_X12_inside_x (l : Launch) (g : Gx) (Ty : TyM) (G : Gh) (sz : Nat) (h0 : Nat) (a0 : Int32) (k_h0 : Ty h0 = some (22, 0)) (Bd : Int) (hI : OI g Bd G) (hBd : Bd ≤ 1900000) (hLD : LD g) : Met l yX12_inside (wsG yX12_inside cX12_inside 5 (some .int)) ({ frames := 3, cells := 0, slots := 0, locals := 66 }) (PcT g Ty G sz [.ref h0, .int a0]) (QwI g Ty sz (fun r u => u.1 = Ty ∧ FR [104, 105] [] [] G u.2 ∧ OI g (Bd + 1000) u.2 ∧ F_X12_inside_x (G.2.1 (g.2.2 100)) a0 = r)) 0 0 (AF Ty sz) := by
  refine Met.ofW (cc := cX12_inside) (maxL := 5) (ret := (some .int)) (by decide) rfl ?_
  intro p e s m args below meth c s₁ B hml hv
  obtain ⟨rfl, hsz, hK, hH⟩ := hv
  subst hsz
  have hx := B.exec
  have hb := B.bytes
  have hr := B.returns
  have hts := atoms_spec (ws := (wsG yX12_inside cX12_inside 5 (some .int))) B.pre
  have hG : ∀ w ∈ GW, w.before ([.ref h0, .int a0] : List Value).toArray s = true := fun w h => hts w (List.mem_cons_of_mem _ h)
  have hown : s.vm.findClass RX12 = some m.cls := findClass_of_methodNamed B.named
  have hlocks := B.notSynchronized
  have hl := lv_entry [.ref h0, .int a0] (n := 5) (Nat.le_of_ble_eq_true rfl)
  rw [lg_entry_eq]
  generalize (lg_sl [.ref h0, .int a0] ++ List.replicate (5 - (lg_sl [.ref h0, .int a0]).length) Slot.unset).toArray = ls at hl ⊢
  have hl : lv_has ls 5 [(0, .ref h0), (1, .int a0)] := hl
  have hmk : mdK g Ty := mdk_of hH k_h0
  have hv : (if (F_X12_isThere (G.2.1 (g.2.2 100)) a0) = (0 : Int32) then (-1 : Int32) else (F_X12_insideOf_x (G.2.1 (g.2.2 100)) a0)) = F_X12_inside_x (G.2.1 (g.2.2 100)) a0 := rfl
  have hS : va_S (AF Ty s.heap.size) s.heap s.heap [] := va_S.rf
  obtain ⟨⟨σ0, hTS0⟩, h10, hBB0⟩ := id hI.ti
  obtain ⟨ρ, hT⟩ := hTS0.1
  have L_32 : ∀ (n_32 : Nat) (H : Heap) (locs : List Loc) (G_32 : Gh) (y2_32 : Int32) (y3_32 : Int32) (y4_32 : Int32) (ls : Array Slot), rgI (0) (32) (G_32.1 104) → FR [104, 105] [] [] G G_32 → rgI (0) (23) a0 → rgI (0) (23) y3_32 → rgI (0) (24) y4_32 → SB (G.2.1 (g.2.2 100)) y2_32 → thr (G.2.1 (g.2.2 100)) a0 → (24 - (y4_32).toInt).toNat < n_32 → lv_has ls 5 [(0, .ref h0), (1, .int a0), (2, .int y2_32), (3, .int y3_32), (4, .int y4_32)] → y2_32 = F_X12_inside_x (G.2.1 (g.2.2 100)) a0 → HT g Ty G_32 H → va_S (AF Ty s.heap.size) s.heap H locs → Wm p l e (wsG yX12_inside cX12_inside 5 (some .int)) ({ frames := 3, cells := 0, slots := 0, locals := 66 }) s m [.ref h0, .int a0] below meth c H locs (0) (0) (QwI g Ty s.heap.size (fun r u => u.1 = Ty ∧ FR [104, 105] [] [] G u.2 ∧ OI g (Bd + 1000) u.2 ∧ F_X12_inside_x (G.2.1 (g.2.2 100)) a0 = r)) 0 0 (AF Ty s.heap.size) (F0 m 32 ls []) := by
    intro n_32
    induction n_32 with
    | zero => intro H locs G_32 y2_32 y3_32 y4_32 ls rg104_32 frL_32 ry1_32 ry3_32 ry4_32 hi0_32 hi1_32 hm; exact absurd hm (Nat.not_lt_zero _)
    | succ n_32 ih_32 =>
      intro H locs G_32 y2_32 y3_32 y4_32 ls rg104_32 frL_32 ry1_32 ry3_32 ry4_32 hi0_32 hi1_32 hm_32 hl hv hH hS
      refine lv_iload hx hb dX12_inside_32 (lv_at hl 4 rfl) ?_
      refine lv_bipush (v := 24) hx hb dX12_inside_34 (by decide) ?_
      refine lv_icmp_ge (tgt := 81) hx hb dX12_inside_36 (by decide) (fun c_1 => ?_) (fun c_1 => ?_)
      · have r_2 : rgI (24) (24) y4_32 := rg_w (rg_leR rl_24 ry4_32 c_1) (by decide) (by decide)
        refine lv_aload_n hx hb dX12_inside_81 rfl (lv_at hl 0 rfl) ?_
        refine lv_iload_n hx hb dX12_inside_82 rfl (lv_at hl 2 rfl) ?_
        obtain ⟨_, ⟨rfl, t_4, hk_5⟩, o_c_3⟩ := hH h0 _ k_h0
        refine va_calli (va_runV (As := [.int y2_32]) (rest := []) ⟨hx, hb, hml, hown, hts⟩ (c_X12_tellBits_x l g Ty G_32 H.size h0 y2_32 k_h0) (cwV 1 hts (gwV mw_1704 mw_1706 mw_67 mw_88 mw_1707) rfl rfl rfl hv_X12_tellBits ⟨Nat.le_of_ble_eq_true rfl, Nat.le_of_ble_eq_true rfl⟩) ⟨PcT_blind, hg_recv hK o_c_3 rfl, PcT_pre hK hH⟩ rfl rfl hl.1 rfl (lv_room (Nat.le_of_ble_eq_true rfl)) dX12_inside_83 ⟨Nat.zero_le _, Nat.zero_le _⟩) hS (fun q _ h => AF.mono hS.1 h) (fun q h => AF.mono hS.1 h) (fun x_6 ux_6 t H locs ht hvm hx_6 hB hz hk hS => ?_)
        obtain ⟨eTx_6, eGx_6⟩ := hx_6
        obtain ⟨G_7, eG_7⟩ : ∃ z, z = ux_6.2 := ⟨_, rfl⟩
        rw [← eG_7] at eGx_6
        obtain ⟨hfr_8, hex_9⟩ := eGx_6
        have fr_10 : FR [104, 105] [] [] G G_7 := FR.tr frL_32 hfr_8 (by decide) (fun _ _ => trivial) (by decide)
        have u_11 : G_7.1 102 = (G.1 102) := (hfr_8.1 102 (by decide)).trans (frL_32.1 102 (by decide))
        have u_12 : G_7.1 113 = (G.1 113) := (hfr_8.1 113 (by decide)).trans (frL_32.1 113 (by decide))
        have u_13 : G_7.1 122 = (G.1 122) := (hfr_8.1 122 (by decide)).trans (frL_32.1 122 (by decide))
        have u_14 : G_7.1 133 = (G.1 133) := (hfr_8.1 133 (by decide)).trans (frL_32.1 133 (by decide))
        have u_15 : G_7.1 137 = (G.1 137) := (hfr_8.1 137 (by decide)).trans (frL_32.1 137 (by decide))
        have w_16 : G_7.2.1 (g.2.2 100) = (G.2.1 (g.2.2 100)) := (hfr_8.2.1 (g.2.2 100) trivial).trans (frL_32.2.1 (g.2.2 100) trivial)
        have w_17 : G_7.2.1 (g.2.2 121) = (G.2.1 (g.2.2 121)) := (hfr_8.2.1 (g.2.2 121) trivial).trans (frL_32.2.1 (g.2.2 121) trivial)
        have w_18 : G_7.2.1 (g.2.2 140) = (G.2.1 (g.2.2 140)) := (hfr_8.2.1 (g.2.2 140) trivial).trans (frL_32.2.1 (g.2.2 140) trivial)
        have w_19 : G_7.2.1 (g.2.2 141) = (G.2.1 (g.2.2 141)) := (hfr_8.2.1 (g.2.2 141) trivial).trans (frL_32.2.1 (g.2.2 141) trivial)
        have w_20 : G_7.2.1 (g.2.2 111) = (G.2.1 (g.2.2 111)) := (hfr_8.2.1 (g.2.2 111) trivial).trans (frL_32.2.1 (g.2.2 111) trivial)
        have u_21 : G_7.2.2 111 = some (g.2.2 111) := (hfr_8.2.2 111 (by decide)).trans ((frL_32.2.2 111 (by decide)).trans hI.r111)
        have u_22 : G_7.2.2 112 = some (g.2.2 112) := (hfr_8.2.2 112 (by decide)).trans ((frL_32.2.2 112 (by decide)).trans hI.r112)
        obtain ⟨xa_23, xb_24⟩ := hex_9
        have hq_25 : F_X12_tellBits_x y2_32 = x_6 := by have q := xb_24; exact q
        try rw [hq_25] at hv
        have t4_26 : rgI (1) (1) (G_7.1 104) := xa_23
        have hH : HT g Ty G_7 H := by rw [← ht, ← eTx_6, eG_7]; exact hB
        refine lv_pop hx hb dX12_inside_86 rfl ?_
        refine lv_aload_n hx hb dX12_inside_87 rfl (lv_at hl 0 rfl) ?_
        refine lv_iload_n hx hb dX12_inside_88 rfl (lv_at hl 3 rfl) ?_
        refine lv_i2l hx hb dX12_inside_89 rfl ?_
        refine lv_topl (fun u_27 eu_27 => ?_)
        obtain ⟨_, ⟨rfl, t_29, hk_30⟩, o_c_28⟩ := hH h0 _ k_h0
        refine va_callv (va_runV (As := [.long u_27]) (rest := []) ⟨hx, hb, hml, hown, hts⟩ (c_X12_tell l g Ty G_7 H.size h0 u_27 k_h0 (rg_w t4_26 (by decide) (by decide))) (cwV 1 hts (gwV mw_1510 mw_1512 mw_48 mw_88 mw_1513) rfl rfl rfl hv_X12_tell ⟨Nat.le_of_ble_eq_true rfl, Nat.le_of_ble_eq_true rfl⟩) ⟨PcT_blind, hg_recv hK o_c_28 rfl, PcT_pre hK hH⟩ rfl rfl hl.1 rfl (lv_room (Nat.le_of_ble_eq_true rfl)) dX12_inside_90 ⟨Nat.zero_le _, Nat.zero_le _⟩) hS (fun q _ h => AF.mono hS.1 h) (fun q h => AF.mono hS.1 h) (fun ux_31 t H locs ht hvm hx_31 hB hz hk hS => ?_)
        obtain ⟨eTx_31, eGx_31⟩ := hx_31
        obtain ⟨G_32, eG_32⟩ : ∃ z, z = ux_31.2 := ⟨_, rfl⟩
        rw [← eG_32] at eGx_31
        obtain ⟨x_33, ex_33⟩ : ∃ z : Int32, z = (G_7.1 104) + 1 := ⟨_, rfl⟩
        have e_34 : G_32 = gset G_7 104 x_33 := by rw [ex_33]; exact eGx_31
        have rx_33 : rgI (2) (2) x_33 := by rw [ex_33]; exact rg_w (rg_add t4_26 rl_1 (by decide) (by decide)) (by decide) (by decide)
        have fr_35 : FR [104, 105] [] [] G G_32 := FR.n fr_10 e_34 (by decide)
        have u_36 : G_32.1 102 = (G.1 102) := by rw [e_34]; exact (gs_ne (by decide)).trans u_11
        have u_37 : G_32.1 113 = (G.1 113) := by rw [e_34]; exact (gs_ne (by decide)).trans u_12
        have u_38 : G_32.1 122 = (G.1 122) := by rw [e_34]; exact (gs_ne (by decide)).trans u_13
        have u_39 : G_32.1 133 = (G.1 133) := by rw [e_34]; exact (gs_ne (by decide)).trans u_14
        have u_40 : G_32.1 137 = (G.1 137) := by rw [e_34]; exact (gs_ne (by decide)).trans u_15
        have u_41 : G_32.1 104 = x_33 := by rw [e_34]; exact gs_eq
        have w_42 : G_32.2.1 (g.2.2 100) = (G.2.1 (g.2.2 100)) := by rw [e_34]; exact w_16
        have w_43 : G_32.2.1 (g.2.2 121) = (G.2.1 (g.2.2 121)) := by rw [e_34]; exact w_17
        have w_44 : G_32.2.1 (g.2.2 140) = (G.2.1 (g.2.2 140)) := by rw [e_34]; exact w_18
        have w_45 : G_32.2.1 (g.2.2 141) = (G.2.1 (g.2.2 141)) := by rw [e_34]; exact w_19
        have w_46 : G_32.2.1 (g.2.2 111) = (G.2.1 (g.2.2 111)) := by rw [e_34]; exact w_20
        have u_47 : G_32.2.2 111 = some (g.2.2 111) := by rw [e_34]; exact u_21
        have u_48 : G_32.2.2 112 = some (g.2.2 112) := by rw [e_34]; exact u_22
        have hH : HT g Ty G_32 H := by rw [← ht, ← eTx_31, eG_32]; exact hB
        refine lv_iload_n hx hb dX12_inside_93 rfl (lv_at hl 2 rfl) ?_
        exact W.iret hx hb hr (fun t ht hWm => ⟨⟨y2_32, (Ty, G_32), rfl, ⟨rfl, ⟨fr_35, ⟨⟨(by rw [u_36]; exact (rg_w hI.a102 (by decide) (by decide))), (by rw [u_41]; exact (rg_w rx_33 (by decide) (by decide))), (by rw [u_37]; exact (rg_w hI.a113 (by decide) (by decide))), (by rw [u_38]; exact (rg_w hI.a122 (by decide) (by decide))), (by rw [u_39]; exact (rg_w hI.a133 (by decide) (by decide))), (by rw [u_40]; exact (rg_w hI.a137 (by decide) (by decide))), u_47, u_48, (by rw [w_42]; exact (hI.ti.hi (show Bd ≤ Bd + 1000 by omega))), (hI.un2 (show Bd ≤ Bd + 1000 by omega) w_43 u_38), (hI.ke2 (show Bd ≤ Bd + 1000 by omega) w_44 w_45)⟩, hv.symm⟩⟩⟩, by show HT g Ty G_32 t.heap; rw [ht]; exact hH⟩, hS.F ht⟩) hS.2.2 dX12_inside_94
      · have r_49 : rgI (0) (23) y4_32 := rg_w (rg_ltL ry4_32 rl_24 (nle_lt c_1)) (by decide) (by decide)
        refine lv_iload_n hx hb dX12_inside_39 rfl (lv_at hl 2 rfl) ?_
        refine lv_iload hx hb dX12_inside_40 (lv_at hl 4 rfl) ?_
        refine vp_callSi (W.runS (As := [.int y2_32, .int y4_32]) (rest := []) ⟨hx, hb, hml, hown, hts⟩ (c_X12_has l g Ty G_32 y2_32 y4_32 ) (cwSx 2 hts hG (gwC mw_1563) mw_88 mw_1561 mw_1562 rfl rfl rfl hd_X12_has ⟨Nat.le_of_ble_eq_true rfl, Nat.le_of_ble_eq_true rfl⟩) ⟨PcH_blind, PcH_pre hK hH⟩ rfl rfl hl.1 rfl (lv_room (Nat.le_of_ble_eq_true rfl)) dX12_inside_42 ⟨Nat.zero_le _, Nat.zero_le _⟩) (fun x_50 hx_50 => ?_)
        have rx_50 : rgI (0) (1) x_50 := hx_50.1
        try rw [← hx_50.2] at hv
        try rw [← hx_50.2] at hv
        refine lv_if_eq (tgt := 73) hx hb dX12_inside_45 (by decide) (fun c_51 => ?_) (fun c_51 => ?_)
        · have r_52 : rgI (0) (0) x_50 := rg_w (rg_eq rl_0 c_51) (by decide) (by decide)
          have hb_53 : bt y2_32 (y4_32 : Int32).toNatClampNeg = false := has_0 (rg_w r_49 (by decide) (by decide)) (by rw [← hx_50.2]; exact c_51)
          refine lv_iload_n hx hb dX12_inside_73 rfl (lv_at hl 3 rfl) ?_
          refine lv_istore_n (lv' := [(3, .int y3_32), (0, .ref h0), (1, .int a0), (2, .int y2_32), (4, .int y4_32)]) hx hb dX12_inside_74 rfl hl (by decide) rfl (fun ls hl => ?_)
          obtain ⟨x_54, ex_54⟩ : ∃ y : Int32, y = y4_32 + 1 := ⟨_, rfl⟩
          try rw [← ex_54] at hv
          have rx_54 : rgI (1) (24) x_54 := by rw [ex_54]; exact rg_w (rg_add r_49 rl_1 (by decide) (by decide)) (by decide) (by decide)
          have qx_54 : x_54.toInt = (y4_32 : Int32).toInt + 1 := by rw [ex_54]; exact rg_addE r_49 rl_1 (by decide) (by decide)
          refine lv_iinc (v := x_54) (lv' := [(4, .int x_54), (3, .int y3_32), (0, .ref h0), (1, .int a0), (2, .int y2_32)]) hx hb dX12_inside_75 hl (k := 4) rfl (by rw [ex_54]; rfl) (by decide) rfl (fun ls hl => ?_)
          refine lv_goto (tgt := 32) hx hb dX12_inside_78 (by decide) ?_
          exact ih_32 H locs G_32 y2_32 y3_32 x_54 ls (rg_w rg104_32 (by decide) (by decide)) frL_32 ry1_32 ry3_32 (rg_w rx_54 (by decide) (by decide)) hi0_32 hi1_32 (by have h1 := qx_54; have h2 := r_49.1; have h3 := r_49.2; have h4 := hm_32; omega) (lv_sub hl [2, 3, 4, 1, 0] rfl) hv hH hS
        · have r_55 : rgI (1) (1) x_50 := rg_w (rg_neL rx_50 rl_0 c_51) (by decide) (by decide)
          have hb_56 : bt y2_32 (y4_32 : Int32).toNatClampNeg = true := has_1 (rg_w r_49 (by decide) (by decide)) (by rw [← hx_50.2]; exact c_51)
          have th_57 : thr (G.2.1 (g.2.2 100)) y4_32 := SB.th hi0_32 r_49 hb_56
          refine lv_iload_n hx hb dX12_inside_48 rfl (lv_at hl 3 rfl) ?_
          refine lv_aload_n hx hb dX12_inside_49 rfl (lv_at hl 0 rfl) ?_
          obtain ⟨_, ⟨rfl, t_59, hk_60⟩, o_c_58⟩ := hH h0 _ k_h0
          refine hg_get hx hb hG igX12 hown hK o_c_58 rfl 0 (by decide) (hG _ mw_1284) rfl dX12_inside_50 ?_
          refine lv_iload hx hb dX12_inside_53 (lv_at hl 4 rfl) ?_
          refine vp_callSi (W.runS (As := [.ref (g.2.2 100), .int y4_32]) (rest := [.int y3_32]) ⟨hx, hb, hml, hown, hts⟩ (c_X12_stepsOf l g Ty G_32 (g.2.2 100) y4_32 (hk_60.1) ρ (by rw [(frL_32.2.1 (g.2.2 100) trivial)]; exact hT) (by rw [(frL_32.2.1 (g.2.2 100) trivial)]; exact th_57)) (cwSx 2 hts hG (gwC mw_1530) mw_88 mw_1528 mw_1529 rfl rfl rfl hd_X12_stepsOf ⟨Nat.le_of_ble_eq_true rfl, Nat.le_of_ble_eq_true rfl⟩) ⟨PcH_blind, PcH_pre hK hH⟩ rfl rfl hl.1 rfl (lv_room (Nat.le_of_ble_eq_true rfl)) dX12_inside_55 ⟨Nat.zero_le _, Nat.zero_le _⟩) (fun x_61 hx_61 => ?_)
          have rx_61 : rgI (0) (23) x_61 := hx_61.1
          try rw [← hx_61.2] at hv
          have ex_62 : x_61 = F_X12_stepsOf (G.2.1 (g.2.2 100)) y4_32 := by rw [← (frL_32.2.1 (g.2.2 100) trivial)]; exact hx_61.2
          try rw [← ex_62] at hv
          refine lv_aload_n hx hb dX12_inside_58 rfl (lv_at hl 0 rfl) ?_
          refine hg_get hx hb hG igX12 hown hK o_c_58 rfl 0 (by decide) (hG _ mw_1284) rfl dX12_inside_59 ?_
          refine lv_iload_n hx hb dX12_inside_62 rfl (lv_at hl 1 rfl) ?_
          refine vp_callSi (W.runS (As := [.ref (g.2.2 100), .int a0]) (rest := [.int x_61, .int y3_32]) ⟨hx, hb, hml, hown, hts⟩ (c_X12_stepsOf l g Ty G_32 (g.2.2 100) a0 (hk_60.1) ρ (by rw [(frL_32.2.1 (g.2.2 100) trivial)]; exact hT) (by rw [(frL_32.2.1 (g.2.2 100) trivial)]; exact hi1_32)) (cwSx 2 hts hG (gwC mw_1530) mw_88 mw_1528 mw_1529 rfl rfl rfl hd_X12_stepsOf ⟨Nat.le_of_ble_eq_true rfl, Nat.le_of_ble_eq_true rfl⟩) ⟨PcH_blind, PcH_pre hK hH⟩ rfl rfl hl.1 rfl (lv_room (Nat.le_of_ble_eq_true rfl)) dX12_inside_63 ⟨Nat.zero_le _, Nat.zero_le _⟩) (fun x_63 hx_63 => ?_)
          have rx_63 : rgI (0) (23) x_63 := hx_63.1
          try rw [← hx_63.2] at hv
          have ex_64 : x_63 = F_X12_stepsOf (G.2.1 (g.2.2 100)) a0 := by rw [← (frL_32.2.1 (g.2.2 100) trivial)]; exact hx_63.2
          try rw [← ex_64] at hv
          refine lv_isub hx hb dX12_inside_66 ?_
          refine lv_topi (fun x_65 ex_65 => ?_)
          try rw [← ex_65] at hv
          have rx_65 : rgI (-23) (23) x_65 := by rw [ex_65]; exact rg_w (rg_sub rx_61 rx_63 (by decide) (by decide)) (by decide) (by decide)
          refine va_mmax hx hb (by rw [hml]; exact hl.1.symm) hown (hG _ mw_1741) (hG _ mw_473) (hG _ mw_91) (hG _ mw_474) (Nat.le_of_ble_eq_true rfl) (Nat.le_of_ble_eq_true rfl) (Nat.le_of_ble_eq_true rfl) (Nat.le_of_ble_eq_true rfl) dX12_inside_67 ?_
          refine lv_topi (fun x_66 ex_66 => ?_)
          try rw [← ex_66] at hv
          have rx_66 : rgI (0) (23) x_66 := by rw [ex_66]; exact rg_w (show rgI (0) (23) _ from rg_mx ry3_32 rx_65 (by decide) (by decide) (by decide) (by decide)) (by decide) (by decide)
          refine lv_goto (tgt := 74) hx hb dX12_inside_70 (by decide) ?_
          refine lv_istore_n (lv' := [(3, .int x_66), (0, .ref h0), (1, .int a0), (2, .int y2_32), (4, .int y4_32)]) hx hb dX12_inside_74 rfl hl (by decide) rfl (fun ls hl => ?_)
          obtain ⟨x_67, ex_67⟩ : ∃ y : Int32, y = y4_32 + 1 := ⟨_, rfl⟩
          try rw [← ex_67] at hv
          have rx_67 : rgI (1) (24) x_67 := by rw [ex_67]; exact rg_w (rg_add r_49 rl_1 (by decide) (by decide)) (by decide) (by decide)
          have qx_67 : x_67.toInt = (y4_32 : Int32).toInt + 1 := by rw [ex_67]; exact rg_addE r_49 rl_1 (by decide) (by decide)
          refine lv_iinc (v := x_67) (lv' := [(4, .int x_67), (3, .int x_66), (0, .ref h0), (1, .int a0), (2, .int y2_32)]) hx hb dX12_inside_75 hl (k := 4) rfl (by rw [ex_67]; rfl) (by decide) rfl (fun ls hl => ?_)
          refine lv_goto (tgt := 32) hx hb dX12_inside_78 (by decide) ?_
          exact ih_32 H locs G_32 y2_32 x_66 x_67 ls (rg_w rg104_32 (by decide) (by decide)) frL_32 ry1_32 rx_66 (rg_w rx_67 (by decide) (by decide)) hi0_32 hi1_32 (by have h1 := qx_67; have h2 := r_49.1; have h3 := r_49.2; have h4 := hm_32; omega) (lv_sub hl [2, 3, 4, 1, 0] rfl) hv hH hS
  refine lv_aload_n hx hb dX12_inside_0 rfl (lv_at hl 0 rfl) ?_
  refine lv_iconst (v := 0) hx hb dX12_inside_1 (by decide) ?_
  obtain ⟨_, ⟨rfl, t_69, hk_70⟩, o_c_68⟩ := hH h0 _ k_h0
  refine hg_put (ty := .int) hx hb hG igX12 tyX12 tyX12_ok nmX12 hown hK hS o_c_68 (AF.of k_h0) rfl 5 (by decide) (hG _ mw_1289) rfl (by decide +kernel) rfl rfl (Nat.le_of_ble_eq_true rfl) dX12_inside_2 (fun H locs o_c_68 hz oq hS => ?_)
  obtain ⟨G_71, eG_71⟩ : ∃ z : Gh, z = gset G 105 0 := ⟨_, rfl⟩
  have hH : HT g Ty G_71 H := by rw [eG_71]; exact HT.putN 105 0 hH k_h0 ⟨rfl, t_69, hk_70⟩ o_c_68 oq (Or.inr (Or.inr (Or.inr (Or.inr (Or.inr ⟨by decide, t_69⟩)))))
  have fr_72 : FR [104, 105] [] [] G G_71 := FR.n FR.rf eG_71 (by decide)
  have u_73 : G_71.1 102 = (G.1 102) := by rw [eG_71]; exact (gs_ne (by decide))
  have u_74 : G_71.1 104 = (G.1 104) := by rw [eG_71]; exact (gs_ne (by decide))
  have u_75 : G_71.1 113 = (G.1 113) := by rw [eG_71]; exact (gs_ne (by decide))
  have u_76 : G_71.1 122 = (G.1 122) := by rw [eG_71]; exact (gs_ne (by decide))
  have u_77 : G_71.1 133 = (G.1 133) := by rw [eG_71]; exact (gs_ne (by decide))
  have u_78 : G_71.1 137 = (G.1 137) := by rw [eG_71]; exact (gs_ne (by decide))
  have u_79 : G_71.1 105 = 0 := by rw [eG_71]; exact gs_eq
  have w_80 : G_71.2.1 (g.2.2 100) = (G.2.1 (g.2.2 100)) := by rw [eG_71]; exact rfl
  have w_81 : G_71.2.1 (g.2.2 121) = (G.2.1 (g.2.2 121)) := by rw [eG_71]; exact rfl
  have w_82 : G_71.2.1 (g.2.2 140) = (G.2.1 (g.2.2 140)) := by rw [eG_71]; exact rfl
  have w_83 : G_71.2.1 (g.2.2 141) = (G.2.1 (g.2.2 141)) := by rw [eG_71]; exact rfl
  have w_84 : G_71.2.1 (g.2.2 111) = (G.2.1 (g.2.2 111)) := by rw [eG_71]; exact rfl
  have u_85 : G_71.2.2 111 = some (g.2.2 111) := by rw [eG_71]; exact hI.r111
  have u_86 : G_71.2.2 112 = some (g.2.2 112) := by rw [eG_71]; exact hI.r112
  clear oq hz
  refine lv_aload_n hx hb dX12_inside_5 rfl (lv_at hl 0 rfl) ?_
  obtain ⟨_, ⟨rfl, t_88, hk_89⟩, o_c_87⟩ := hH h0 _ k_h0
  refine hg_get hx hb hG igX12 hown hK o_c_87 rfl 0 (by decide) (hG _ mw_1284) rfl dX12_inside_6 ?_
  refine lv_iload_n hx hb dX12_inside_9 rfl (lv_at hl 1 rfl) ?_
  refine vp_callSi (W.runS (As := [.ref (g.2.2 100), .int a0]) (rest := []) ⟨hx, hb, hml, hown, hts⟩ (c_X12_isThere l g Ty G_71 (g.2.2 100) a0 (hk_89.1)) (cwSx 2 hts hG (gwC mw_1520) mw_88 mw_1518 mw_1519 rfl rfl rfl hd_X12_isThere ⟨Nat.le_of_ble_eq_true rfl, Nat.le_of_ble_eq_true rfl⟩) ⟨PcH_blind, PcH_pre hK hH⟩ rfl rfl hl.1 rfl (lv_room (Nat.le_of_ble_eq_true rfl)) dX12_inside_10 ⟨Nat.zero_le _, Nat.zero_le _⟩) (fun x_90 hx_90 => ?_)
  have rx_90 : rgI (0) (1) x_90 := hx_90.1
  try rw [← hx_90.2.2] at hv
  have ex_91 : x_90 = F_X12_isThere (G.2.1 (g.2.2 100)) a0 := by rw [← w_80]; exact hx_90.2.2
  try rw [← ex_91] at hv
  refine lv_if_ne (tgt := 18) hx hb dX12_inside_13 (by decide) (fun c_92 => ?_) (fun c_92 => ?_)
  · rw [if_neg c_92] at hv
    have th_93 : thr (G.2.1 (g.2.2 100)) a0 := F_isThere_thr (by rw [← ex_91]; exact c_92)
    have r_94 : rgI (1) (1) x_90 := rg_w (rg_neL rx_90 rl_0 c_92) (by decide) (by decide)
    have r_95 : rgI (0) (23) a0 := rg_w (hx_90.2.1.resolve_left c_92) (by decide) (by decide)
    refine lv_aload_n hx hb dX12_inside_18 rfl (lv_at hl 0 rfl) ?_
    refine hg_get hx hb hG igX12 hown hK o_c_87 rfl 0 (by decide) (hG _ mw_1284) rfl dX12_inside_19 ?_
    refine lv_iload_n hx hb dX12_inside_22 rfl (lv_at hl 1 rfl) ?_
    refine vp_callSi (W.runS (As := [.ref (g.2.2 100), .int a0]) (rest := []) ⟨hx, hb, hml, hown, hts⟩ (c_X12_insideOf_x l g Ty G_71 (g.2.2 100) a0 (hk_89.1) ρ (by rw [w_80]; exact hT)) (cwSx 2 hts hG (gwC mw_1740) mw_88 mw_1738 mw_1739 rfl rfl rfl hd_X12_insideOf ⟨Nat.le_of_ble_eq_true rfl, Nat.le_of_ble_eq_true rfl⟩) ⟨PcH_blind, PcH_pre hK hH⟩ rfl rfl hl.1 rfl (lv_room (Nat.le_of_ble_eq_true rfl)) dX12_inside_23 ⟨Nat.zero_le _, Nat.zero_le _⟩) (fun x_96 hx_96 => ?_)
    try rw [← hx_96.2] at hv
    have ex_97 : x_96 = F_X12_insideOf_x (G.2.1 (g.2.2 100)) a0 := by rw [← w_80]; exact hx_96.2
    have tx_98 := hx_96.1
    try rw [w_80] at tx_98
    try rw [w_84] at tx_98
    try rw [u_75] at tx_98
    have ex_99 : x_96 = F_X12_insideOf_x (G.2.1 (g.2.2 100)) a0 := hx_96.2.trans (by rw [w_80])
    try rw [← ex_99] at hv
    refine lv_istore_n (lv' := [(2, .int x_96), (0, .ref h0), (1, .int a0)]) hx hb dX12_inside_26 rfl hl (by decide) rfl (fun ls hl => ?_)
    refine lv_iconst (v := 0) hx hb dX12_inside_27 (by decide) ?_
    refine lv_istore_n (lv' := [(3, .int 0), (2, .int x_96), (0, .ref h0), (1, .int a0)]) hx hb dX12_inside_28 rfl hl (by decide) rfl (fun ls hl => ?_)
    refine lv_iconst (v := 0) hx hb dX12_inside_29 (by decide) ?_
    refine lv_istore (lv' := [(4, .int 0), (3, .int 0), (2, .int x_96), (0, .ref h0), (1, .int a0)]) hx hb dX12_inside_30 hl (by decide) rfl (fun ls hl => ?_)
    exact L_32 26 H locs G_71 x_96 0 0 ls (by rw [u_74]; exact rg_w hI.a104 (by decide) (by decide)) fr_72 r_95 (rg_w rl_0 (by decide) (by decide)) (rg_w rl_0 (by decide) (by decide)) tx_98 th_93 (by decide) (lv_sub hl [3, 4, 2, 1, 0] rfl) hv hH hS
  · rw [if_pos c_92] at hv
    have r_100 : rgI (0) (0) x_90 := rg_w (rg_eq rl_0 c_92) (by decide) (by decide)
    refine lv_iconst (v := (-1)) hx hb dX12_inside_16 (by decide) ?_
    exact W.iret hx hb hr (fun t ht hWm => ⟨⟨(-1), (Ty, G_71), rfl, ⟨rfl, ⟨fr_72, ⟨⟨(by rw [u_73]; exact (rg_w hI.a102 (by decide) (by decide))), (by rw [u_74]; exact (rg_w hI.a104 (by decide) (by decide))), (by rw [u_75]; exact (rg_w hI.a113 (by decide) (by decide))), (by rw [u_76]; exact (rg_w hI.a122 (by decide) (by decide))), (by rw [u_77]; exact (rg_w hI.a133 (by decide) (by decide))), (by rw [u_78]; exact (rg_w hI.a137 (by decide) (by decide))), u_85, u_86, (by rw [w_80]; exact (hI.ti.hi (show Bd ≤ Bd + 1000 by omega))), (hI.un2 (show Bd ≤ Bd + 1000 by omega) w_81 u_76), (hI.ke2 (show Bd ≤ Bd + 1000 by omega) w_82 w_83)⟩, hv.symm⟩⟩⟩, by show HT g Ty G_71 t.heap; rw [ht]; exact hH⟩, hS.F ht⟩) hS.2.2 dX12_inside_17

def F_X12_path_x (r0 : Nat → Int32) (a0 : Int32) : Int32 := (if (F_X12_isThere r0 a0) = (0 : Int32) then (-1 : Int32) else (F_X12_stepsOf r0 a0))
set_option maxHeartbeats 4000000 in
set_option maxRecDepth 100000 in
theorem c_X12_path_x (l : Launch) (g : Gx) (Ty : TyM) (G : Gh) (sz : Nat) (h0 : Nat) (a0 : Int32) (k_h0 : Ty h0 = some (22, 0)) (Bd : Int) (hI : OI g Bd G) (hBd : Bd ≤ 1900000) (hLD : LD g) : Met l yX12_path (wsG yX12_path cX12_path 5 (some .int)) ({ frames := 2, cells := 0, slots := 0, locals := 43 }) (PcT g Ty G sz [.ref h0, .int a0]) (QwI g Ty sz (fun r u => u.1 = Ty ∧ FR [104, 105] [] [] G u.2 ∧ OI g (Bd + 1000) u.2 ∧ F_X12_path_x (G.2.1 (g.2.2 100)) a0 = r)) 0 0 (AF Ty sz) := by
  refine Met.ofW (cc := cX12_path) (maxL := 5) (ret := (some .int)) (by decide) rfl ?_
  intro p e s m args below meth c s₁ B hml hv
  obtain ⟨rfl, hsz, hK, hH⟩ := hv
  subst hsz
  have hx := B.exec
  have hb := B.bytes
  have hr := B.returns
  have hts := atoms_spec (ws := (wsG yX12_path cX12_path 5 (some .int))) B.pre
  have hG : ∀ w ∈ GW, w.before ([.ref h0, .int a0] : List Value).toArray s = true := fun w h => hts w (List.mem_cons_of_mem _ h)
  have hown : s.vm.findClass RX12 = some m.cls := findClass_of_methodNamed B.named
  have hlocks := B.notSynchronized
  have hl := lv_entry [.ref h0, .int a0] (n := 5) (Nat.le_of_ble_eq_true rfl)
  rw [lg_entry_eq]
  generalize (lg_sl [.ref h0, .int a0] ++ List.replicate (5 - (lg_sl [.ref h0, .int a0]).length) Slot.unset).toArray = ls at hl ⊢
  have hl : lv_has ls 5 [(0, .ref h0), (1, .int a0)] := hl
  have hmk : mdK g Ty := mdk_of hH k_h0
  have hv : (if (F_X12_isThere (G.2.1 (g.2.2 100)) a0) = (0 : Int32) then (-1 : Int32) else (F_X12_stepsOf (G.2.1 (g.2.2 100)) a0)) = F_X12_path_x (G.2.1 (g.2.2 100)) a0 := rfl
  have hS : va_S (AF Ty s.heap.size) s.heap s.heap [] := va_S.rf
  obtain ⟨⟨σ0, hTS0⟩, h10, hBB0⟩ := id hI.ti
  obtain ⟨ρ, hT⟩ := hTS0.1
  have L_39 : ∀ (n_39 : Nat) (H : Heap) (locs : List Loc) (G_39 : Gh) (y2_39 : Int32) (y3_39 : Int32) (y4_39 : Int32) (ls : Array Slot), rgI (0) (32) (G_39.1 104) → FR [104, 105] [] [] G G_39 → rgI (0) (23) y2_39 → rgI (-1) (22) y4_39 → (∀ j : Nat, (j : Int) < (y2_39 : Int32).toInt → ¬ cz (G.2.1 (g.2.2 100)) a0.toNatClampNeg j = 0) → ((y3_39 : Int32).toNatClampNeg = cz (G.2.1 (g.2.2 100)) a0.toNatClampNeg ((y2_39 : Int32).toInt - 1 - (y4_39 : Int32).toInt).toNat ∧ thr (G.2.1 (g.2.2 100)) y3_39) → thr (G.2.1 (g.2.2 100)) a0 → (y4_39 : Int32).toInt < (y2_39 : Int32).toInt → ((y4_39).toInt - (-1)).toNat < n_39 → lv_has ls 5 [(0, .ref h0), (2, .int y2_39), (3, .int y3_39), (4, .int y4_39)] → y2_39 = F_X12_path_x (G.2.1 (g.2.2 100)) a0 → HT g Ty G_39 H → va_S (AF Ty s.heap.size) s.heap H locs → Wm p l e (wsG yX12_path cX12_path 5 (some .int)) ({ frames := 2, cells := 0, slots := 0, locals := 43 }) s m [.ref h0, .int a0] below meth c H locs (0) (0) (QwI g Ty s.heap.size (fun r u => u.1 = Ty ∧ FR [104, 105] [] [] G u.2 ∧ OI g (Bd + 1000) u.2 ∧ F_X12_path_x (G.2.1 (g.2.2 100)) a0 = r)) 0 0 (AF Ty s.heap.size) (F0 m 39 ls []) := by
    intro n_39
    induction n_39 with
    | zero => intro H locs G_39 y2_39 y3_39 y4_39 ls rg104_39 frL_39 ry2_39 ry4_39 hi0_39 hi1_39 hi2_39 hi3_39 hm; exact absurd hm (Nat.not_lt_zero _)
    | succ n_39 ih_39 =>
      intro H locs G_39 y2_39 y3_39 y4_39 ls rg104_39 frL_39 ry2_39 ry4_39 hi0_39 hi1_39 hi2_39 hi3_39 hm_39 hl hv hH hS
      refine lv_iload hx hb dX12_path_39 (lv_at hl 3 rfl) ?_
      refine lv_if_lt (tgt := 74) hx hb dX12_path_41 (by decide) (fun c_1 => ?_) (fun c_1 => ?_)
      · have r_2 : rgI (-1) (-1) y4_39 := rg_w (rg_ltL ry4_39 rl_0 c_1) (by decide) (by decide)
        refine lv_iload_n hx hb dX12_path_74 rfl (lv_at hl 1 rfl) ?_
        exact W.iret hx hb hr (fun t ht hWm => ⟨⟨y2_39, (Ty, G_39), rfl, ⟨rfl, ⟨frL_39, ⟨⟨(by rw [(frL_39.1 102 (by decide))]; exact (rg_w hI.a102 (by decide) (by decide))), (rg_w rg104_39 (by decide) (by decide)), (by rw [(frL_39.1 113 (by decide))]; exact (rg_w hI.a113 (by decide) (by decide))), (by rw [(frL_39.1 122 (by decide))]; exact (rg_w hI.a122 (by decide) (by decide))), (by rw [(frL_39.1 133 (by decide))]; exact (rg_w hI.a133 (by decide) (by decide))), (by rw [(frL_39.1 137 (by decide))]; exact (rg_w hI.a137 (by decide) (by decide))), ((frL_39.2.2 111 (by decide)).trans hI.r111), ((frL_39.2.2 112 (by decide)).trans hI.r112), (by rw [(frL_39.2.1 (g.2.2 100) trivial)]; exact (hI.ti.hi (show Bd ≤ Bd + 1000 by omega))), (hI.un2 (show Bd ≤ Bd + 1000 by omega) (frL_39.2.1 (g.2.2 121) trivial) (frL_39.1 122 (by decide))), (hI.ke2 (show Bd ≤ Bd + 1000 by omega) (frL_39.2.1 (g.2.2 140) trivial) (frL_39.2.1 (g.2.2 141) trivial))⟩, hv.symm⟩⟩⟩, by show HT g Ty G_39 t.heap; rw [ht]; exact hH⟩, hS.F ht⟩) hS.2.2 dX12_path_75
      · have r_3 : rgI (0) (22) y4_39 := rg_w (rg_leR rl_0 ry4_39 (nlt_le c_1)) (by decide) (by decide)
        refine lv_aload_n hx hb dX12_path_44 rfl (lv_at hl 0 rfl) ?_
        obtain ⟨_, ⟨rfl, t_5, hk_6⟩, o_c_4⟩ := hH h0 _ k_h0
        refine hg_get hx hb hG igX12 hown hK o_c_4 rfl 3 (by decide) (hG _ mw_1287) rfl dX12_path_45 ?_
        refine lv_iload hx hb dX12_path_48 (lv_at hl 3 rfl) ?_
        refine lv_aload_n hx hb dX12_path_50 rfl (lv_at hl 0 rfl) ?_
        refine hg_get hx hb hG igX12 hown hK o_c_4 rfl 0 (by decide) (hG _ mw_1284) rfl dX12_path_51 ?_
        refine lv_bipush (v := 24) hx hb dX12_path_54 (by decide) ?_
        refine lv_iload_n hx hb dX12_path_56 rfl (lv_at hl 2 rfl) ?_
        refine lv_iadd hx hb dX12_path_57 ?_
        refine lv_topi (fun x_7 ex_7 => ?_)
        try rw [← ex_7] at hv
        obtain ⟨_, rfl, o_c_8⟩ := hH (g.2.2 100) _ hk_6.1
        have o_c_8 : va_at g.1 vwCl ((g.2.2 100), .inl (g.2.1 1, 122, .inl (G_39.2.1 (g.2.2 100)))) H := o_c_8
        have in_9 : vp_in x_7 122 := (rg_in (n := 122) (rg_w (by rw [ex_7]; exact rg_add rl_24 hi1_39.2.1 (by decide) (by decide) : rgI 24 47 x_7) (by decide) (by decide) : rgI 24 47 x_7) (by decide) (by decide))
        refine hg_iald hx hb hK o_c_8 in_9 dX12_path_58 ?_
        rw [(frL_39.2.1 (g.2.2 100) trivial)]
        refine lv_topi (fun x_10 ex_10 => ?_)
        try rw [← ex_10] at hv
        refine lv_i2l hx hb dX12_path_59 rfl ?_
        refine lv_topl (fun u_11 eu_11 => ?_)
        obtain ⟨_, ⟨f_13, rfl⟩, o_c_12⟩ := hH (g.2.2 103) _ hk_6.2.2.1
        refine hg_last hx hb hK hS o_c_12 (AF.of hk_6.2.2.1) (rg_in (n := 32) r_3 (by decide) (by decide)) dX12_path_60 (fun H locs o_c_12 hz oq hS => ?_)
        generalize hff_14 : vp_updL f_13 _ u_11 = f_14 at o_c_12
        have hH : HT g Ty G_39 H := hH.put hk_6.2.2.1 ⟨_, rfl⟩ o_c_12 oq
        have o_c_4 := o_c_4.kept (oq _ (ne_kd k_h0 hk_6.2.2.1 (by decide)))
        have o_c_8 := o_c_8.kept (oq _ (ne_kd hk_6.1 hk_6.2.2.1 (by decide)))
        clear oq hz
        refine lv_aload_n hx hb dX12_path_61 rfl (lv_at hl 0 rfl) ?_
        refine hg_get hx hb hG igX12 hown hK o_c_4 rfl 0 (by decide) (hG _ mw_1284) rfl dX12_path_62 ?_
        refine lv_iload_n hx hb dX12_path_65 rfl (lv_at hl 2 rfl) ?_
        have in_15 : vp_in y3_39 122 := (rg_in (n := 122) hi1_39.2.1 (by decide) (by decide))
        refine hg_iald hx hb hK o_c_8 in_15 dX12_path_66 ?_
        rw [(frL_39.2.1 (g.2.2 100) trivial)]
        refine lv_topi (fun x_16 ex_16 => ?_)
        try rw [← ex_16] at hv
        refine lv_istore_n (lv' := [(3, .int x_16), (0, .ref h0), (2, .int y2_39), (4, .int y4_39)]) hx hb dX12_path_67 rfl hl (by decide) rfl (fun ls hl => ?_)
        obtain ⟨x_17, ex_17⟩ : ∃ y : Int32, y = y4_39 + (-1) := ⟨_, rfl⟩
        try rw [← ex_17] at hv
        have rx_17 : rgI (-1) (21) x_17 := by rw [ex_17]; exact rg_w (rg_add r_3 rl_m1 (by decide) (by decide)) (by decide) (by decide)
        have qx_17 : x_17.toInt = (y4_39 : Int32).toInt + (-1) := by rw [ex_17]; exact rg_addE r_3 rl_m1 (by decide) (by decide)
        refine lv_iinc (v := x_17) (lv' := [(4, .int x_17), (3, .int x_16), (0, .ref h0), (2, .int y2_39)]) hx hb dX12_path_68 hl (k := 3) rfl (by rw [ex_17]; rfl) (by decide) rfl (fun ls hl => ?_)
        refine lv_goto (tgt := 39) hx hb dX12_path_71 (by decide) ?_
        exact ih_39 H locs G_39 y2_39 x_16 x_17 ls (rg_w rg104_39 (by decide) (by decide)) frL_39 ry2_39 (rg_w rx_17 (by decide) (by decide)) hi0_39 (up_s hT hi0_39 hi2_39 hi1_39 r_3.1 (by have q1 := hi3_39; omega) qx_17 ex_16) hi2_39 (by have q := qx_17; have q1 := hi3_39; omega) (by have h1 := qx_17; have h2 := r_3.1; have h3 := r_3.2; have h4 := hm_39; omega) (lv_sub hl [2, 3, 1, 0] rfl) hv hH hS
  refine lv_aload_n hx hb dX12_path_0 rfl (lv_at hl 0 rfl) ?_
  refine lv_iconst (v := 0) hx hb dX12_path_1 (by decide) ?_
  obtain ⟨_, ⟨rfl, t_19, hk_20⟩, o_c_18⟩ := hH h0 _ k_h0
  refine hg_put (ty := .int) hx hb hG igX12 tyX12 tyX12_ok nmX12 hown hK hS o_c_18 (AF.of k_h0) rfl 5 (by decide) (hG _ mw_1289) rfl (by decide +kernel) rfl rfl (Nat.le_of_ble_eq_true rfl) dX12_path_2 (fun H locs o_c_18 hz oq hS => ?_)
  obtain ⟨G_21, eG_21⟩ : ∃ z : Gh, z = gset G 105 0 := ⟨_, rfl⟩
  have hH : HT g Ty G_21 H := by rw [eG_21]; exact HT.putN 105 0 hH k_h0 ⟨rfl, t_19, hk_20⟩ o_c_18 oq (Or.inr (Or.inr (Or.inr (Or.inr (Or.inr ⟨by decide, t_19⟩)))))
  have fr_22 : FR [104, 105] [] [] G G_21 := FR.n FR.rf eG_21 (by decide)
  have u_23 : G_21.1 102 = (G.1 102) := by rw [eG_21]; exact (gs_ne (by decide))
  have u_24 : G_21.1 104 = (G.1 104) := by rw [eG_21]; exact (gs_ne (by decide))
  have u_25 : G_21.1 113 = (G.1 113) := by rw [eG_21]; exact (gs_ne (by decide))
  have u_26 : G_21.1 122 = (G.1 122) := by rw [eG_21]; exact (gs_ne (by decide))
  have u_27 : G_21.1 133 = (G.1 133) := by rw [eG_21]; exact (gs_ne (by decide))
  have u_28 : G_21.1 137 = (G.1 137) := by rw [eG_21]; exact (gs_ne (by decide))
  have u_29 : G_21.1 105 = 0 := by rw [eG_21]; exact gs_eq
  have w_30 : G_21.2.1 (g.2.2 100) = (G.2.1 (g.2.2 100)) := by rw [eG_21]; exact rfl
  have w_31 : G_21.2.1 (g.2.2 121) = (G.2.1 (g.2.2 121)) := by rw [eG_21]; exact rfl
  have w_32 : G_21.2.1 (g.2.2 140) = (G.2.1 (g.2.2 140)) := by rw [eG_21]; exact rfl
  have w_33 : G_21.2.1 (g.2.2 141) = (G.2.1 (g.2.2 141)) := by rw [eG_21]; exact rfl
  have w_34 : G_21.2.1 (g.2.2 111) = (G.2.1 (g.2.2 111)) := by rw [eG_21]; exact rfl
  have u_35 : G_21.2.2 111 = some (g.2.2 111) := by rw [eG_21]; exact hI.r111
  have u_36 : G_21.2.2 112 = some (g.2.2 112) := by rw [eG_21]; exact hI.r112
  clear oq hz
  refine lv_aload_n hx hb dX12_path_5 rfl (lv_at hl 0 rfl) ?_
  obtain ⟨_, ⟨rfl, t_38, hk_39⟩, o_c_37⟩ := hH h0 _ k_h0
  refine hg_get hx hb hG igX12 hown hK o_c_37 rfl 0 (by decide) (hG _ mw_1284) rfl dX12_path_6 ?_
  refine lv_iload_n hx hb dX12_path_9 rfl (lv_at hl 1 rfl) ?_
  refine vp_callSi (W.runS (As := [.ref (g.2.2 100), .int a0]) (rest := []) ⟨hx, hb, hml, hown, hts⟩ (c_X12_isThere l g Ty G_21 (g.2.2 100) a0 (hk_39.1)) (cwSx 2 hts hG (gwC mw_1520) mw_88 mw_1518 mw_1519 rfl rfl rfl hd_X12_isThere ⟨Nat.le_of_ble_eq_true rfl, Nat.le_of_ble_eq_true rfl⟩) ⟨PcH_blind, PcH_pre hK hH⟩ rfl rfl hl.1 rfl (lv_room (Nat.le_of_ble_eq_true rfl)) dX12_path_10 ⟨Nat.zero_le _, Nat.zero_le _⟩) (fun x_40 hx_40 => ?_)
  have rx_40 : rgI (0) (1) x_40 := hx_40.1
  try rw [← hx_40.2.2] at hv
  have ex_41 : x_40 = F_X12_isThere (G.2.1 (g.2.2 100)) a0 := by rw [← w_30]; exact hx_40.2.2
  try rw [← ex_41] at hv
  refine lv_if_ne (tgt := 18) hx hb dX12_path_13 (by decide) (fun c_42 => ?_) (fun c_42 => ?_)
  · rw [if_neg c_42] at hv
    have th_43 : thr (G.2.1 (g.2.2 100)) a0 := F_isThere_thr (by rw [← ex_41]; exact c_42)
    have r_44 : rgI (1) (1) x_40 := rg_w (rg_neL rx_40 rl_0 c_42) (by decide) (by decide)
    have r_45 : rgI (0) (23) a0 := rg_w (hx_40.2.1.resolve_left c_42) (by decide) (by decide)
    refine lv_aload_n hx hb dX12_path_18 rfl (lv_at hl 0 rfl) ?_
    refine hg_get hx hb hG igX12 hown hK o_c_37 rfl 0 (by decide) (hG _ mw_1284) rfl dX12_path_19 ?_
    refine lv_iload_n hx hb dX12_path_22 rfl (lv_at hl 1 rfl) ?_
    refine vp_callSi (W.runS (As := [.ref (g.2.2 100), .int a0]) (rest := []) ⟨hx, hb, hml, hown, hts⟩ (c_X12_stepsOf l g Ty G_21 (g.2.2 100) a0 (hk_39.1) ρ (by rw [w_30]; exact hT) (by rw [w_30]; exact th_43)) (cwSx 2 hts hG (gwC mw_1530) mw_88 mw_1528 mw_1529 rfl rfl rfl hd_X12_stepsOf ⟨Nat.le_of_ble_eq_true rfl, Nat.le_of_ble_eq_true rfl⟩) ⟨PcH_blind, PcH_pre hK hH⟩ rfl rfl hl.1 rfl (lv_room (Nat.le_of_ble_eq_true rfl)) dX12_path_23 ⟨Nat.zero_le _, Nat.zero_le _⟩) (fun x_46 hx_46 => ?_)
    have rx_46 : rgI (0) (23) x_46 := hx_46.1
    try rw [← hx_46.2] at hv
    have ex_47 : x_46 = F_X12_stepsOf (G.2.1 (g.2.2 100)) a0 := by rw [← w_30]; exact hx_46.2
    try rw [← ex_47] at hv
    refine lv_istore_n (lv' := [(2, .int x_46), (0, .ref h0), (1, .int a0)]) hx hb dX12_path_26 rfl hl (by decide) rfl (fun ls hl => ?_)
    refine lv_aload_n hx hb dX12_path_27 rfl (lv_at hl 1 rfl) ?_
    refine lv_iload_n hx hb dX12_path_28 rfl (lv_at hl 0 rfl) ?_
    refine hg_put (ty := .int) hx hb hG igX12 tyX12 tyX12_ok nmX12 hown hK hS o_c_37 (AF.of k_h0) rfl 4 (by decide) (hG _ mw_1288) rfl (by decide +kernel) rfl rfl (Nat.le_of_ble_eq_true rfl) dX12_path_29 (fun H locs o_c_37 hz oq hS => ?_)
    obtain ⟨G_48, eG_48⟩ : ∃ z : Gh, z = gset G_21 104 x_46 := ⟨_, rfl⟩
    have hH : HT g Ty G_48 H := by rw [eG_48]; exact HT.putN 104 x_46 hH k_h0 ⟨rfl, t_38, hk_39⟩ o_c_37 oq (Or.inr (Or.inr (Or.inr (Or.inr (Or.inr ⟨by decide, t_38⟩)))))
    have fr_49 : FR [104, 105] [] [] G G_48 := FR.n fr_22 eG_48 (by decide)
    have u_50 : G_48.1 102 = (G.1 102) := by rw [eG_48]; exact (gs_ne (by decide)).trans u_23
    have u_51 : G_48.1 113 = (G.1 113) := by rw [eG_48]; exact (gs_ne (by decide)).trans u_25
    have u_52 : G_48.1 122 = (G.1 122) := by rw [eG_48]; exact (gs_ne (by decide)).trans u_26
    have u_53 : G_48.1 133 = (G.1 133) := by rw [eG_48]; exact (gs_ne (by decide)).trans u_27
    have u_54 : G_48.1 137 = (G.1 137) := by rw [eG_48]; exact (gs_ne (by decide)).trans u_28
    have u_55 : G_48.1 105 = 0 := by rw [eG_48]; exact (gs_ne (by decide)).trans u_29
    have u_56 : G_48.1 104 = x_46 := by rw [eG_48]; exact gs_eq
    have w_57 : G_48.2.1 (g.2.2 100) = (G.2.1 (g.2.2 100)) := by rw [eG_48]; exact w_30
    have w_58 : G_48.2.1 (g.2.2 121) = (G.2.1 (g.2.2 121)) := by rw [eG_48]; exact w_31
    have w_59 : G_48.2.1 (g.2.2 140) = (G.2.1 (g.2.2 140)) := by rw [eG_48]; exact w_32
    have w_60 : G_48.2.1 (g.2.2 141) = (G.2.1 (g.2.2 141)) := by rw [eG_48]; exact w_33
    have w_61 : G_48.2.1 (g.2.2 111) = (G.2.1 (g.2.2 111)) := by rw [eG_48]; exact w_34
    have u_62 : G_48.2.2 111 = some (g.2.2 111) := by rw [eG_48]; exact u_35
    have u_63 : G_48.2.2 112 = some (g.2.2 112) := by rw [eG_48]; exact u_36
    clear oq hz
    refine lv_iload_n hx hb dX12_path_32 rfl (lv_at hl 2 rfl) ?_
    refine lv_istore_n (lv' := [(3, .int a0), (2, .int x_46), (0, .ref h0), (1, .int a0)]) hx hb dX12_path_33 rfl hl (by decide) rfl (fun ls hl => ?_)
    refine lv_iload_n hx hb dX12_path_34 rfl (lv_at hl 1 rfl) ?_
    refine lv_iconst (v := 1) hx hb dX12_path_35 (by decide) ?_
    refine lv_isub hx hb dX12_path_36 ?_
    refine lv_topi (fun x_64 ex_64 => ?_)
    try rw [← ex_64] at hv
    have rx_64 : rgI (-1) (22) x_64 := by rw [ex_64]; exact rg_w (rg_sub rx_46 rl_1 (by decide) (by decide)) (by decide) (by decide)
    refine lv_istore (lv' := [(4, .int x_64), (3, .int a0), (2, .int x_46), (0, .ref h0), (1, .int a0)]) hx hb dX12_path_37 hl (by decide) rfl (fun ls hl => ?_)
    exact L_39 99 H locs G_48 x_46 a0 x_64 ls (by rw [u_56]; exact rg_w rx_46 (by decide) (by decide)) fr_49 rx_46 rx_64 (steps_is hT th_43 ex_47) (pa_0 th_43 rx_46 ex_64) th_43 (pa_1 rx_46 ex_64) (by have q1 := (rx_64).1; have q2 := (rx_64).2; omega) (lv_sub hl [3, 2, 1, 0] rfl) hv hH hS
  · rw [if_pos c_42] at hv
    have r_65 : rgI (0) (0) x_40 := rg_w (rg_eq rl_0 c_42) (by decide) (by decide)
    refine lv_iconst (v := (-1)) hx hb dX12_path_16 (by decide) ?_
    exact W.iret hx hb hr (fun t ht hWm => ⟨⟨(-1), (Ty, G_21), rfl, ⟨rfl, ⟨fr_22, ⟨⟨(by rw [u_23]; exact (rg_w hI.a102 (by decide) (by decide))), (by rw [u_24]; exact (rg_w hI.a104 (by decide) (by decide))), (by rw [u_25]; exact (rg_w hI.a113 (by decide) (by decide))), (by rw [u_26]; exact (rg_w hI.a122 (by decide) (by decide))), (by rw [u_27]; exact (rg_w hI.a133 (by decide) (by decide))), (by rw [u_28]; exact (rg_w hI.a137 (by decide) (by decide))), u_35, u_36, (by rw [w_30]; exact (hI.ti.hi (show Bd ≤ Bd + 1000 by omega))), (hI.un2 (show Bd ≤ Bd + 1000 by omega) w_31 u_26), (hI.ke2 (show Bd ≤ Bd + 1000 by omega) w_32 w_33)⟩, hv.symm⟩⟩⟩, by show HT g Ty G_21 t.heap; rw [ht]; exact hH⟩, hS.F ht⟩) hS.2.2 dX12_path_17

def F_X12_largest_x_11 : Nat → Int32 → Int32 → Int32 → (Nat → Int32) → Int32 × Int32
  | 0, y1, y2, _, _ => (y1, y2)
  | n + 1, y1, y2, y3, yr0 => (if (24 : Int32) ≤ y3 then (y1, y2) else (if (F_X12_isThere yr0 y3) = (0 : Int32) then (F_X12_largest_x_11 n y1 y2 (y3 + (1 : Int32)) yr0) else (if y2 < ((1 : Int32) + (F_J6_bitCount_0f7a4 (F_X12_insideOf_x yr0 y3))) then (F_X12_largest_x_11 n y3 ((1 : Int32) + (F_J6_bitCount_0f7a4 (F_X12_insideOf_x yr0 y3))) (y3 + (1 : Int32)) yr0) else (F_X12_largest_x_11 n y1 y2 (y3 + (1 : Int32)) yr0))))
def F_X12_largest_x (r0 : Nat → Int32) : Int32 := (tu2 (F_X12_largest_x_11 26 (-1 : Int32) (0 : Int32) (1 : Int32) r0) (fun z5 z6 => (if z5 = (-1 : Int32) then (-2 : Int32) else z5)))
set_option maxHeartbeats 4000000 in
set_option maxRecDepth 100000 in
theorem c_X12_largest_x (l : Launch) (g : Gx) (Ty : TyM) (G : Gh) (sz : Nat) (h0 : Nat) (k_h0 : Ty h0 = some (22, 0)) (Bd : Int) (hI : OI g Bd G) (hBd : Bd ≤ 1900000) (hLD : LD g) : Met l yX12_largest (wsG yX12_largest cX12_largest 5 (some .int)) ({ frames := 3, cells := 0, slots := 0, locals := 66 }) (PcT g Ty G sz [.ref h0]) (QwI g Ty sz (fun r u => u.1 = Ty ∧ FR [104, 105] [] [] G u.2 ∧ OI g (Bd + 1000) u.2 ∧ F_X12_largest_x (G.2.1 (g.2.2 100)) = r)) 0 0 (AF Ty sz) := by
  refine Met.ofW (cc := cX12_largest) (maxL := 5) (ret := (some .int)) (by decide) rfl ?_
  intro p e s m args below meth c s₁ B hml hv
  obtain ⟨rfl, hsz, hK, hH⟩ := hv
  subst hsz
  have hx := B.exec
  have hb := B.bytes
  have hr := B.returns
  have hts := atoms_spec (ws := (wsG yX12_largest cX12_largest 5 (some .int))) B.pre
  have hG : ∀ w ∈ GW, w.before ([.ref h0] : List Value).toArray s = true := fun w h => hts w (List.mem_cons_of_mem _ h)
  have hown : s.vm.findClass RX12 = some m.cls := findClass_of_methodNamed B.named
  have hlocks := B.notSynchronized
  have hl := lv_entry [.ref h0] (n := 5) (Nat.le_of_ble_eq_true rfl)
  rw [lg_entry_eq]
  generalize (lg_sl [.ref h0] ++ List.replicate (5 - (lg_sl [.ref h0]).length) Slot.unset).toArray = ls at hl ⊢
  have hl : lv_has ls 5 [(0, .ref h0)] := hl
  have hmk : mdK g Ty := mdk_of hH k_h0
  have hv : (tu2 (F_X12_largest_x_11 26 (-1 : Int32) (0 : Int32) (1 : Int32) (G.2.1 (g.2.2 100))) (fun z3 z4 => (if z3 = (-1 : Int32) then (-2 : Int32) else z3))) = F_X12_largest_x (G.2.1 (g.2.2 100)) := rfl
  have hS : va_S (AF Ty s.heap.size) s.heap s.heap [] := va_S.rf
  obtain ⟨⟨σ0, hTS0⟩, h10, hBB0⟩ := id hI.ti
  obtain ⟨ρ, hT⟩ := hTS0.1
  have L_11 : ∀ (n_11 : Nat) (H : Heap) (locs : List Loc) (G_11 : Gh) (y1_11 : Int32) (y2_11 : Int32) (y3_11 : Int32) (ls : Array Slot), rgI (0) (32) (G_11.1 104) → FR [104, 105] [] [] G G_11 → rgI (-1) (23) y1_11 → rgI (0) (64) y2_11 → rgI (1) (24) y3_11 → (24 - (y3_11).toInt).toNat < n_11 → lv_has ls 5 [(0, .ref h0), (1, .int y1_11), (2, .int y2_11), (3, .int y3_11)] → (tu2 (F_X12_largest_x_11 n_11 y1_11 y2_11 y3_11 (G.2.1 (g.2.2 100))) (fun z1 z2 => (if z1 = (-1 : Int32) then (-2 : Int32) else z1))) = F_X12_largest_x (G.2.1 (g.2.2 100)) → HT g Ty G_11 H → va_S (AF Ty s.heap.size) s.heap H locs → Wm p l e (wsG yX12_largest cX12_largest 5 (some .int)) ({ frames := 3, cells := 0, slots := 0, locals := 66 }) s m [.ref h0] below meth c H locs (0) (0) (QwI g Ty s.heap.size (fun r u => u.1 = Ty ∧ FR [104, 105] [] [] G u.2 ∧ OI g (Bd + 1000) u.2 ∧ F_X12_largest_x (G.2.1 (g.2.2 100)) = r)) 0 0 (AF Ty s.heap.size) (F0 m 11 ls []) := by
    intro n_11
    induction n_11 with
    | zero => intro H locs G_11 y1_11 y2_11 y3_11 ls rg104_11 frL_11 ry1_11 ry2_11 ry3_11 hm; exact absurd hm (Nat.not_lt_zero _)
    | succ n_11 ih_11 =>
      intro H locs G_11 y1_11 y2_11 y3_11 ls rg104_11 frL_11 ry1_11 ry2_11 ry3_11 hm_11 hl hv hH hS
      rw [F_X12_largest_x_11] at hv
      refine lv_iload_n hx hb dX12_largest_11 rfl (lv_at hl 3 rfl) ?_
      refine lv_bipush (v := 24) hx hb dX12_largest_12 (by decide) ?_
      refine lv_icmp_ge (tgt := 66) hx hb dX12_largest_14 (by decide) (fun c_1 => ?_) (fun c_1 => ?_)
      · rw [if_pos c_1] at hv
        have r_2 : rgI (24) (24) y3_11 := rg_w (rg_leR rl_24 ry3_11 c_1) (by decide) (by decide)
        rw [tu2_eq] at hv
        refine lv_iload_n hx hb dX12_largest_66 rfl (lv_at hl 1 rfl) ?_
        refine lv_iconst (v := (-1)) hx hb dX12_largest_67 (by decide) ?_
        refine lv_icmp_ne (tgt := 74) hx hb dX12_largest_68 (by decide) (fun c_3 => ?_) (fun c_3 => ?_)
        · rw [if_neg c_3] at hv
          have r_4 : rgI (0) (23) y1_11 := rg_w (rg_neL ry1_11 rl_m1 c_3) (by decide) (by decide)
          refine lv_aload_n hx hb dX12_largest_74 rfl (lv_at hl 0 rfl) ?_
          refine lv_iconst (v := 0) hx hb dX12_largest_75 (by decide) ?_
          obtain ⟨_, ⟨rfl, t_6, hk_7⟩, o_c_5⟩ := hH h0 _ k_h0
          refine hg_put (ty := .int) hx hb hG igX12 tyX12 tyX12_ok nmX12 hown hK hS o_c_5 (AF.of k_h0) rfl 4 (by decide) (hG _ mw_1288) rfl (by decide +kernel) rfl rfl (Nat.le_of_ble_eq_true rfl) dX12_largest_76 (fun H locs o_c_5 hz oq hS => ?_)
          obtain ⟨G_8, eG_8⟩ : ∃ z : Gh, z = gset G_11 104 0 := ⟨_, rfl⟩
          have hH : HT g Ty G_8 H := by rw [eG_8]; exact HT.putN 104 0 hH k_h0 ⟨rfl, t_6, hk_7⟩ o_c_5 oq (Or.inr (Or.inr (Or.inr (Or.inr (Or.inr ⟨by decide, t_6⟩)))))
          have fr_9 : FR [104, 105] [] [] G G_8 := FR.n frL_11 eG_8 (by decide)
          have u_10 : G_8.1 102 = (G.1 102) := by rw [eG_8]; exact (gs_ne (by decide)).trans (frL_11.1 102 (by decide))
          have u_11 : G_8.1 113 = (G.1 113) := by rw [eG_8]; exact (gs_ne (by decide)).trans (frL_11.1 113 (by decide))
          have u_12 : G_8.1 122 = (G.1 122) := by rw [eG_8]; exact (gs_ne (by decide)).trans (frL_11.1 122 (by decide))
          have u_13 : G_8.1 133 = (G.1 133) := by rw [eG_8]; exact (gs_ne (by decide)).trans (frL_11.1 133 (by decide))
          have u_14 : G_8.1 137 = (G.1 137) := by rw [eG_8]; exact (gs_ne (by decide)).trans (frL_11.1 137 (by decide))
          have u_15 : G_8.1 104 = 0 := by rw [eG_8]; exact gs_eq
          have w_16 : G_8.2.1 (g.2.2 100) = (G.2.1 (g.2.2 100)) := by rw [eG_8]; exact (frL_11.2.1 (g.2.2 100) trivial)
          have w_17 : G_8.2.1 (g.2.2 121) = (G.2.1 (g.2.2 121)) := by rw [eG_8]; exact (frL_11.2.1 (g.2.2 121) trivial)
          have w_18 : G_8.2.1 (g.2.2 140) = (G.2.1 (g.2.2 140)) := by rw [eG_8]; exact (frL_11.2.1 (g.2.2 140) trivial)
          have w_19 : G_8.2.1 (g.2.2 141) = (G.2.1 (g.2.2 141)) := by rw [eG_8]; exact (frL_11.2.1 (g.2.2 141) trivial)
          have w_20 : G_8.2.1 (g.2.2 111) = (G.2.1 (g.2.2 111)) := by rw [eG_8]; exact (frL_11.2.1 (g.2.2 111) trivial)
          have u_21 : G_8.2.2 111 = some (g.2.2 111) := by rw [eG_8]; exact ((frL_11.2.2 111 (by decide)).trans hI.r111)
          have u_22 : G_8.2.2 112 = some (g.2.2 112) := by rw [eG_8]; exact ((frL_11.2.2 112 (by decide)).trans hI.r112)
          clear oq hz
          refine lv_aload_n hx hb dX12_largest_79 rfl (lv_at hl 0 rfl) ?_
          refine lv_iload_n hx hb dX12_largest_80 rfl (lv_at hl 2 rfl) ?_
          refine lv_i2l hx hb dX12_largest_81 rfl ?_
          refine lv_topl (fun u_23 eu_23 => ?_)
          obtain ⟨_, ⟨rfl, t_25, hk_26⟩, o_c_24⟩ := hH h0 _ k_h0
          refine va_callv (va_runV (As := [.long u_23]) (rest := []) ⟨hx, hb, hml, hown, hts⟩ (c_X12_tell l g Ty G_8 H.size h0 u_23 k_h0 (by rw [u_15]; exact rg_w rl_0 (by decide) (by decide))) (cwV 1 hts (gwV mw_1510 mw_1512 mw_48 mw_88 mw_1513) rfl rfl rfl hv_X12_tell ⟨Nat.le_of_ble_eq_true rfl, Nat.le_of_ble_eq_true rfl⟩) ⟨PcT_blind, hg_recv hK o_c_24 rfl, PcT_pre hK hH⟩ rfl rfl hl.1 rfl (lv_room (Nat.le_of_ble_eq_true rfl)) dX12_largest_82 ⟨Nat.zero_le _, Nat.zero_le _⟩) hS (fun q _ h => AF.mono hS.1 h) (fun q h => AF.mono hS.1 h) (fun ux_27 t H locs ht hvm hx_27 hB hz hk hS => ?_)
          obtain ⟨eTx_27, eGx_27⟩ := hx_27
          obtain ⟨G_28, eG_28⟩ : ∃ z, z = ux_27.2 := ⟨_, rfl⟩
          rw [← eG_28] at eGx_27
          obtain ⟨x_29, ex_29⟩ : ∃ z : Int32, z = 0 + 1 := ⟨_, rfl⟩
          have e_30 : G_28 = gset G_8 104 x_29 := by rw [ex_29, ← u_15]; exact eGx_27
          have rx_29 : rgI (1) (1) x_29 := by rw [ex_29]; exact rg_w (rg_add rl_0 rl_1 (by decide) (by decide)) (by decide) (by decide)
          have fr_31 : FR [104, 105] [] [] G G_28 := FR.n fr_9 e_30 (by decide)
          have u_32 : G_28.1 102 = (G.1 102) := by rw [e_30]; exact (gs_ne (by decide)).trans u_10
          have u_33 : G_28.1 113 = (G.1 113) := by rw [e_30]; exact (gs_ne (by decide)).trans u_11
          have u_34 : G_28.1 122 = (G.1 122) := by rw [e_30]; exact (gs_ne (by decide)).trans u_12
          have u_35 : G_28.1 133 = (G.1 133) := by rw [e_30]; exact (gs_ne (by decide)).trans u_13
          have u_36 : G_28.1 137 = (G.1 137) := by rw [e_30]; exact (gs_ne (by decide)).trans u_14
          have u_37 : G_28.1 104 = x_29 := by rw [e_30]; exact gs_eq
          have w_38 : G_28.2.1 (g.2.2 100) = (G.2.1 (g.2.2 100)) := by rw [e_30]; exact w_16
          have w_39 : G_28.2.1 (g.2.2 121) = (G.2.1 (g.2.2 121)) := by rw [e_30]; exact w_17
          have w_40 : G_28.2.1 (g.2.2 140) = (G.2.1 (g.2.2 140)) := by rw [e_30]; exact w_18
          have w_41 : G_28.2.1 (g.2.2 141) = (G.2.1 (g.2.2 141)) := by rw [e_30]; exact w_19
          have w_42 : G_28.2.1 (g.2.2 111) = (G.2.1 (g.2.2 111)) := by rw [e_30]; exact w_20
          have u_43 : G_28.2.2 111 = some (g.2.2 111) := by rw [e_30]; exact u_21
          have u_44 : G_28.2.2 112 = some (g.2.2 112) := by rw [e_30]; exact u_22
          have hH : HT g Ty G_28 H := by rw [← ht, ← eTx_27, eG_28]; exact hB
          refine lv_iload_n hx hb dX12_largest_85 rfl (lv_at hl 1 rfl) ?_
          exact W.iret hx hb hr (fun t ht hWm => ⟨⟨y1_11, (Ty, G_28), rfl, ⟨rfl, ⟨fr_31, ⟨⟨(by rw [u_32]; exact (rg_w hI.a102 (by decide) (by decide))), (by rw [u_37]; exact (rg_w rx_29 (by decide) (by decide))), (by rw [u_33]; exact (rg_w hI.a113 (by decide) (by decide))), (by rw [u_34]; exact (rg_w hI.a122 (by decide) (by decide))), (by rw [u_35]; exact (rg_w hI.a133 (by decide) (by decide))), (by rw [u_36]; exact (rg_w hI.a137 (by decide) (by decide))), u_43, u_44, (by rw [w_38]; exact (hI.ti.hi (show Bd ≤ Bd + 1000 by omega))), (hI.un2 (show Bd ≤ Bd + 1000 by omega) w_39 u_34), (hI.ke2 (show Bd ≤ Bd + 1000 by omega) w_40 w_41)⟩, hv.symm⟩⟩⟩, by show HT g Ty G_28 t.heap; rw [ht]; exact hH⟩, hS.F ht⟩) hS.2.2 dX12_largest_86
        · rw [if_pos c_3] at hv
          have r_45 : rgI (-1) (-1) y1_11 := rg_w (rg_eq rl_m1 c_3) (by decide) (by decide)
          refine lv_bipush (v := (-2)) hx hb dX12_largest_71 (by decide) ?_
          exact W.iret hx hb hr (fun t ht hWm => ⟨⟨(-2), (Ty, G_11), rfl, ⟨rfl, ⟨frL_11, ⟨⟨(by rw [(frL_11.1 102 (by decide))]; exact (rg_w hI.a102 (by decide) (by decide))), (rg_w rg104_11 (by decide) (by decide)), (by rw [(frL_11.1 113 (by decide))]; exact (rg_w hI.a113 (by decide) (by decide))), (by rw [(frL_11.1 122 (by decide))]; exact (rg_w hI.a122 (by decide) (by decide))), (by rw [(frL_11.1 133 (by decide))]; exact (rg_w hI.a133 (by decide) (by decide))), (by rw [(frL_11.1 137 (by decide))]; exact (rg_w hI.a137 (by decide) (by decide))), ((frL_11.2.2 111 (by decide)).trans hI.r111), ((frL_11.2.2 112 (by decide)).trans hI.r112), (by rw [(frL_11.2.1 (g.2.2 100) trivial)]; exact (hI.ti.hi (show Bd ≤ Bd + 1000 by omega))), (hI.un2 (show Bd ≤ Bd + 1000 by omega) (frL_11.2.1 (g.2.2 121) trivial) (frL_11.1 122 (by decide))), (hI.ke2 (show Bd ≤ Bd + 1000 by omega) (frL_11.2.1 (g.2.2 140) trivial) (frL_11.2.1 (g.2.2 141) trivial))⟩, hv.symm⟩⟩⟩, by show HT g Ty G_11 t.heap; rw [ht]; exact hH⟩, hS.F ht⟩) hS.2.2 dX12_largest_73
      · rw [if_neg c_1] at hv
        have r_46 : rgI (1) (23) y3_11 := rg_w (rg_ltL ry3_11 rl_24 (nle_lt c_1)) (by decide) (by decide)
        refine lv_aload_n hx hb dX12_largest_17 rfl (lv_at hl 0 rfl) ?_
        obtain ⟨_, ⟨rfl, t_48, hk_49⟩, o_c_47⟩ := hH h0 _ k_h0
        refine hg_get hx hb hG igX12 hown hK o_c_47 rfl 0 (by decide) (hG _ mw_1284) rfl dX12_largest_18 ?_
        refine lv_iload_n hx hb dX12_largest_21 rfl (lv_at hl 3 rfl) ?_
        refine vp_callSi (W.runS (As := [.ref (g.2.2 100), .int y3_11]) (rest := []) ⟨hx, hb, hml, hown, hts⟩ (c_X12_isThere l g Ty G_11 (g.2.2 100) y3_11 (hk_49.1)) (cwSx 2 hts hG (gwC mw_1520) mw_88 mw_1518 mw_1519 rfl rfl rfl hd_X12_isThere ⟨Nat.le_of_ble_eq_true rfl, Nat.le_of_ble_eq_true rfl⟩) ⟨PcH_blind, PcH_pre hK hH⟩ rfl rfl hl.1 rfl (lv_room (Nat.le_of_ble_eq_true rfl)) dX12_largest_22 ⟨Nat.zero_le _, Nat.zero_le _⟩) (fun x_50 hx_50 => ?_)
        have rx_50 : rgI (0) (1) x_50 := hx_50.1
        try rw [← hx_50.2.2] at hv
        have ex_51 : x_50 = F_X12_isThere (G.2.1 (g.2.2 100)) y3_11 := by rw [← (frL_11.2.1 (g.2.2 100) trivial)]; exact hx_50.2.2
        try rw [← ex_51] at hv
        refine lv_if_ne (tgt := 31) hx hb dX12_largest_25 (by decide) (fun c_52 => ?_) (fun c_52 => ?_)
        · rw [if_neg c_52] at hv
          have th_53 : thr (G.2.1 (g.2.2 100)) y3_11 := F_isThere_thr (by rw [← ex_51]; exact c_52)
          have r_54 : rgI (1) (1) x_50 := rg_w (rg_neL rx_50 rl_0 c_52) (by decide) (by decide)
          refine lv_iconst (v := 1) hx hb dX12_largest_31 (by decide) ?_
          refine lv_aload_n hx hb dX12_largest_32 rfl (lv_at hl 0 rfl) ?_
          refine hg_get hx hb hG igX12 hown hK o_c_47 rfl 0 (by decide) (hG _ mw_1284) rfl dX12_largest_33 ?_
          refine lv_iload_n hx hb dX12_largest_36 rfl (lv_at hl 3 rfl) ?_
          refine vp_callSi (W.runS (As := [.ref (g.2.2 100), .int y3_11]) (rest := [.int 1]) ⟨hx, hb, hml, hown, hts⟩ (c_X12_insideOf_x l g Ty G_11 (g.2.2 100) y3_11 (hk_49.1) ρ (by rw [(frL_11.2.1 (g.2.2 100) trivial)]; exact hT)) (cwSx 2 hts hG (gwC mw_1740) mw_88 mw_1738 mw_1739 rfl rfl rfl hd_X12_insideOf ⟨Nat.le_of_ble_eq_true rfl, Nat.le_of_ble_eq_true rfl⟩) ⟨PcH_blind, PcH_pre hK hH⟩ rfl rfl hl.1 rfl (lv_room (Nat.le_of_ble_eq_true rfl)) dX12_largest_37 ⟨Nat.zero_le _, Nat.zero_le _⟩) (fun x_55 hx_55 => ?_)
          try rw [← hx_55.2] at hv
          have ex_56 : x_55 = F_X12_insideOf_x (G.2.1 (g.2.2 100)) y3_11 := by rw [← (frL_11.2.1 (g.2.2 100) trivial)]; exact hx_55.2
          have tx_57 := hx_55.1
          try rw [(frL_11.2.1 (g.2.2 100) trivial)] at tx_57
          try rw [(frL_11.2.1 (g.2.2 111) trivial)] at tx_57
          try rw [(frL_11.1 113 (by decide))] at tx_57
          have ex_58 : x_55 = F_X12_insideOf_x (G.2.1 (g.2.2 100)) y3_11 := hx_55.2.trans (by rw [(frL_11.2.1 (g.2.2 100) trivial)])
          try rw [← ex_58] at hv
          refine vp_callSi (W.runS (As := [.int x_55]) (rest := [.int 1]) ⟨hx, hb, hml, hown, hts⟩ (c_J6_bitCount_x l g Ty G_11 x_55 ) (cwSx 1 hts hG (gwC mw_620) mw_99 mw_1553 mw_619 rfl rfl rfl hd_J6_bitCount_0f7a4 ⟨Nat.le_of_ble_eq_true rfl, Nat.le_of_ble_eq_true rfl⟩) ⟨PcH_blind, PcH_pre hK hH⟩ rfl rfl hl.1 rfl (lv_room (Nat.le_of_ble_eq_true rfl)) dX12_largest_40 ⟨Nat.zero_le _, Nat.zero_le _⟩) (fun x_59 hx_59 => ?_)
          have rx_59 : rgI (0) (63) x_59 := hx_59.1
          try rw [← hx_59.2] at hv
          try rw [← hx_59.2] at hv
          refine lv_iadd hx hb dX12_largest_43 ?_
          refine lv_topi (fun x_60 ex_60 => ?_)
          try rw [← ex_60] at hv
          have rx_60 : rgI (1) (64) x_60 := by rw [ex_60]; exact rg_w (rg_add rl_1 rx_59 (by decide) (by decide)) (by decide) (by decide)
          refine lv_istore (lv' := [(4, .int x_60), (0, .ref h0), (1, .int y1_11), (2, .int y2_11), (3, .int y3_11)]) hx hb dX12_largest_44 hl (by decide) rfl (fun ls hl => ?_)
          refine lv_iload hx hb dX12_largest_46 (lv_at hl 0 rfl) ?_
          refine lv_iload_n hx hb dX12_largest_48 rfl (lv_at hl 3 rfl) ?_
          refine lv_icmp_gt (tgt := 55) hx hb dX12_largest_49 (by decide) (fun c_61 => ?_) (fun c_61 => ?_)
          · rw [if_pos c_61] at hv
            have r_62 : rgI (0) (63) y2_11 := rg_w (rg_ltL ry2_11 rx_60 c_61) (by decide) (by decide)
            refine lv_iload_n hx hb dX12_largest_55 rfl (lv_at hl 4 rfl) ?_
            refine lv_istore_n (lv' := [(1, .int y3_11), (4, .int x_60), (0, .ref h0), (2, .int y2_11), (3, .int y3_11)]) hx hb dX12_largest_56 rfl hl (by decide) rfl (fun ls hl => ?_)
            refine lv_iload hx hb dX12_largest_57 (lv_at hl 1 rfl) ?_
            refine lv_istore_n (lv' := [(2, .int x_60), (1, .int y3_11), (4, .int x_60), (0, .ref h0), (3, .int y3_11)]) hx hb dX12_largest_59 rfl hl (by decide) rfl (fun ls hl => ?_)
            obtain ⟨x_63, ex_63⟩ : ∃ y : Int32, y = y3_11 + 1 := ⟨_, rfl⟩
            try rw [← ex_63] at hv
            have rx_63 : rgI (2) (24) x_63 := by rw [ex_63]; exact rg_w (rg_add r_46 rl_1 (by decide) (by decide)) (by decide) (by decide)
            have qx_63 : x_63.toInt = (y3_11 : Int32).toInt + 1 := by rw [ex_63]; exact rg_addE r_46 rl_1 (by decide) (by decide)
            refine lv_iinc (v := x_63) (lv' := [(3, .int x_63), (2, .int x_60), (1, .int y3_11), (4, .int x_60), (0, .ref h0)]) hx hb dX12_largest_60 hl (k := 4) rfl (by rw [ex_63]; rfl) (by decide) rfl (fun ls hl => ?_)
            refine lv_goto (tgt := 11) hx hb dX12_largest_63 (by decide) ?_
            exact ih_11 H locs G_11 y3_11 x_60 x_63 ls (rg_w rg104_11 (by decide) (by decide)) frL_11 (rg_w r_46 (by decide) (by decide)) (rg_w rx_60 (by decide) (by decide)) (rg_w rx_63 (by decide) (by decide)) (by have h1 := qx_63; have h2 := r_46.1; have h3 := r_46.2; have h4 := hm_11; omega) (lv_sub hl [4, 2, 1, 0] rfl) hv hH hS
          · rw [if_neg c_61] at hv
            have r_64 : rgI (1) (64) y2_11 := rg_w (rg_leR rx_60 ry2_11 (nlt_le c_61)) (by decide) (by decide)
            refine lv_goto (tgt := 60) hx hb dX12_largest_52 (by decide) ?_
            obtain ⟨x_65, ex_65⟩ : ∃ y : Int32, y = y3_11 + 1 := ⟨_, rfl⟩
            try rw [← ex_65] at hv
            have rx_65 : rgI (2) (24) x_65 := by rw [ex_65]; exact rg_w (rg_add r_46 rl_1 (by decide) (by decide)) (by decide) (by decide)
            have qx_65 : x_65.toInt = (y3_11 : Int32).toInt + 1 := by rw [ex_65]; exact rg_addE r_46 rl_1 (by decide) (by decide)
            refine lv_iinc (v := x_65) (lv' := [(3, .int x_65), (4, .int x_60), (0, .ref h0), (1, .int y1_11), (2, .int y2_11)]) hx hb dX12_largest_60 hl (k := 4) rfl (by rw [ex_65]; rfl) (by decide) rfl (fun ls hl => ?_)
            refine lv_goto (tgt := 11) hx hb dX12_largest_63 (by decide) ?_
            exact ih_11 H locs G_11 y1_11 y2_11 x_65 ls (rg_w rg104_11 (by decide) (by decide)) frL_11 ry1_11 (rg_w r_64 (by decide) (by decide)) (rg_w rx_65 (by decide) (by decide)) (by have h1 := qx_65; have h2 := r_46.1; have h3 := r_46.2; have h4 := hm_11; omega) (lv_sub hl [2, 3, 4, 0] rfl) hv hH hS
        · rw [if_pos c_52] at hv
          have r_66 : rgI (0) (0) x_50 := rg_w (rg_eq rl_0 c_52) (by decide) (by decide)
          refine lv_goto (tgt := 60) hx hb dX12_largest_28 (by decide) ?_
          obtain ⟨x_67, ex_67⟩ : ∃ y : Int32, y = y3_11 + 1 := ⟨_, rfl⟩
          try rw [← ex_67] at hv
          have rx_67 : rgI (2) (24) x_67 := by rw [ex_67]; exact rg_w (rg_add r_46 rl_1 (by decide) (by decide)) (by decide) (by decide)
          have qx_67 : x_67.toInt = (y3_11 : Int32).toInt + 1 := by rw [ex_67]; exact rg_addE r_46 rl_1 (by decide) (by decide)
          refine lv_iinc (v := x_67) (lv' := [(3, .int x_67), (0, .ref h0), (1, .int y1_11), (2, .int y2_11)]) hx hb dX12_largest_60 hl (k := 3) rfl (by rw [ex_67]; rfl) (by decide) rfl (fun ls hl => ?_)
          refine lv_goto (tgt := 11) hx hb dX12_largest_63 (by decide) ?_
          exact ih_11 H locs G_11 y1_11 y2_11 x_67 ls (rg_w rg104_11 (by decide) (by decide)) frL_11 ry1_11 ry2_11 (rg_w rx_67 (by decide) (by decide)) (by have h1 := qx_67; have h2 := r_46.1; have h3 := r_46.2; have h4 := hm_11; omega) (lv_sub hl [1, 2, 3, 0] rfl) hv hH hS
  refine lv_aload_n hx hb dX12_largest_0 rfl (lv_at hl 0 rfl) ?_
  refine lv_iconst (v := 0) hx hb dX12_largest_1 (by decide) ?_
  obtain ⟨_, ⟨rfl, t_69, hk_70⟩, o_c_68⟩ := hH h0 _ k_h0
  refine hg_put (ty := .int) hx hb hG igX12 tyX12 tyX12_ok nmX12 hown hK hS o_c_68 (AF.of k_h0) rfl 5 (by decide) (hG _ mw_1289) rfl (by decide +kernel) rfl rfl (Nat.le_of_ble_eq_true rfl) dX12_largest_2 (fun H locs o_c_68 hz oq hS => ?_)
  obtain ⟨G_71, eG_71⟩ : ∃ z : Gh, z = gset G 105 0 := ⟨_, rfl⟩
  have hH : HT g Ty G_71 H := by rw [eG_71]; exact HT.putN 105 0 hH k_h0 ⟨rfl, t_69, hk_70⟩ o_c_68 oq (Or.inr (Or.inr (Or.inr (Or.inr (Or.inr ⟨by decide, t_69⟩)))))
  have fr_72 : FR [104, 105] [] [] G G_71 := FR.n FR.rf eG_71 (by decide)
  have u_73 : G_71.1 102 = (G.1 102) := by rw [eG_71]; exact (gs_ne (by decide))
  have u_74 : G_71.1 104 = (G.1 104) := by rw [eG_71]; exact (gs_ne (by decide))
  have u_75 : G_71.1 113 = (G.1 113) := by rw [eG_71]; exact (gs_ne (by decide))
  have u_76 : G_71.1 122 = (G.1 122) := by rw [eG_71]; exact (gs_ne (by decide))
  have u_77 : G_71.1 133 = (G.1 133) := by rw [eG_71]; exact (gs_ne (by decide))
  have u_78 : G_71.1 137 = (G.1 137) := by rw [eG_71]; exact (gs_ne (by decide))
  have u_79 : G_71.1 105 = 0 := by rw [eG_71]; exact gs_eq
  have w_80 : G_71.2.1 (g.2.2 100) = (G.2.1 (g.2.2 100)) := by rw [eG_71]; exact rfl
  have w_81 : G_71.2.1 (g.2.2 121) = (G.2.1 (g.2.2 121)) := by rw [eG_71]; exact rfl
  have w_82 : G_71.2.1 (g.2.2 140) = (G.2.1 (g.2.2 140)) := by rw [eG_71]; exact rfl
  have w_83 : G_71.2.1 (g.2.2 141) = (G.2.1 (g.2.2 141)) := by rw [eG_71]; exact rfl
  have w_84 : G_71.2.1 (g.2.2 111) = (G.2.1 (g.2.2 111)) := by rw [eG_71]; exact rfl
  have u_85 : G_71.2.2 111 = some (g.2.2 111) := by rw [eG_71]; exact hI.r111
  have u_86 : G_71.2.2 112 = some (g.2.2 112) := by rw [eG_71]; exact hI.r112
  clear oq hz
  refine lv_iconst (v := (-1)) hx hb dX12_largest_5 (by decide) ?_
  refine lv_istore_n (lv' := [(1, .int (-1)), (0, .ref h0)]) hx hb dX12_largest_6 rfl hl (by decide) rfl (fun ls hl => ?_)
  refine lv_iconst (v := 0) hx hb dX12_largest_7 (by decide) ?_
  refine lv_istore_n (lv' := [(2, .int 0), (1, .int (-1)), (0, .ref h0)]) hx hb dX12_largest_8 rfl hl (by decide) rfl (fun ls hl => ?_)
  refine lv_iconst (v := 1) hx hb dX12_largest_9 (by decide) ?_
  refine lv_istore_n (lv' := [(3, .int 1), (2, .int 0), (1, .int (-1)), (0, .ref h0)]) hx hb dX12_largest_10 rfl hl (by decide) rfl (fun ls hl => ?_)
  exact L_11 26 H locs G_71 (-1) 0 1 ls (by rw [u_74]; exact rg_w hI.a104 (by decide) (by decide)) fr_72 (rg_w rl_m1 (by decide) (by decide)) (rg_w rl_0 (by decide) (by decide)) (rg_w rl_1 (by decide) (by decide)) (by decide) (lv_sub hl [3, 2, 1, 0] rfl) hv hH hS

def F_X12_would_x (r0 : Nat → Int32) (r1 : Nat → Int32) (m113 : Int32) (a0 : Int32) (a1 : Int32) : Int32 := (if (0 : Int32) ≤ (F_X12_refusesComing_x r0 r1 m113 a0 a1) then ((1 : Int32) + (F_J6_bitCount_0f7a4 (F_X12_hitsOf_x r0 r1 m113 a0 a1))) else (F_X12_refusesComing_x r0 r1 m113 a0 a1))
set_option maxHeartbeats 4000000 in
set_option maxRecDepth 100000 in
theorem c_X12_would_x (l : Launch) (g : Gx) (Ty : TyM) (G : Gh) (sz : Nat) (h0 : Nat) (a0 : Int32) (a1 : Int32) (k_h0 : Ty h0 = some (22, 0)) (Bd : Int) (hI : OI g Bd G) (hBd : Bd ≤ 1900000) (hLD : LD g) : Met l yX12_would (wsG yX12_would cX12_would 6 (some .int)) ({ frames := 341, cells := 0, slots := 0, locals := 7993 }) (PcT g Ty G sz [.ref h0, .int a0, .int a1]) (QwI g Ty sz (fun r u => u.1 = Ty ∧ FR [107, 108, 109, 110, 114, 104, 105] [(g.2.2 115)] [106] G u.2 ∧ OI g (Bd + 1000) u.2 ∧ F_X12_would_x (G.2.1 (g.2.2 100)) (G.2.1 (g.2.2 111)) (G.1 113) a0 a1 = r)) 0 0 (AF Ty sz) := by
  refine Met.ofW (cc := cX12_would) (maxL := 6) (ret := (some .int)) (by decide) rfl ?_
  intro p e s m args below meth c s₁ B hml hv
  obtain ⟨rfl, hsz, hK, hH⟩ := hv
  subst hsz
  have hx := B.exec
  have hb := B.bytes
  have hr := B.returns
  have hts := atoms_spec (ws := (wsG yX12_would cX12_would 6 (some .int))) B.pre
  have hG : ∀ w ∈ GW, w.before ([.ref h0, .int a0, .int a1] : List Value).toArray s = true := fun w h => hts w (List.mem_cons_of_mem _ h)
  have hown : s.vm.findClass RX12 = some m.cls := findClass_of_methodNamed B.named
  have hlocks := B.notSynchronized
  have hl := lv_entry [.ref h0, .int a0, .int a1] (n := 6) (Nat.le_of_ble_eq_true rfl)
  rw [lg_entry_eq]
  generalize (lg_sl [.ref h0, .int a0, .int a1] ++ List.replicate (6 - (lg_sl [.ref h0, .int a0, .int a1]).length) Slot.unset).toArray = ls at hl ⊢
  have hl : lv_has ls 6 [(0, .ref h0), (1, .int a0), (2, .int a1)] := hl
  have hmk : mdK g Ty := mdk_of hH k_h0
  have hv : (if (0 : Int32) ≤ (F_X12_refusesComing_x (G.2.1 (g.2.2 100)) (G.2.1 (g.2.2 111)) (G.1 113) a0 a1) then ((1 : Int32) + (F_J6_bitCount_0f7a4 (F_X12_hitsOf_x (G.2.1 (g.2.2 100)) (G.2.1 (g.2.2 111)) (G.1 113) a0 a1))) else (F_X12_refusesComing_x (G.2.1 (g.2.2 100)) (G.2.1 (g.2.2 111)) (G.1 113) a0 a1)) = F_X12_would_x (G.2.1 (g.2.2 100)) (G.2.1 (g.2.2 111)) (G.1 113) a0 a1 := rfl
  have hS : va_S (AF Ty s.heap.size) s.heap s.heap [] := va_S.rf
  obtain ⟨⟨σ0, hTS0⟩, h10, hBB0⟩ := id hI.ti
  obtain ⟨ρ, hT⟩ := hTS0.1
  have L_48 : ∀ (n_48 : Nat) (H : Heap) (locs : List Loc) (G_48 : Gh) (y4_48 : Int32) (y5_48 : Int32) (ls : Array Slot), rgI (1) (32) (G_48.1 104) → FR [107, 108, 109, 110, 114, 104, 105] [(g.2.2 115)] [106] G G_48 → rgI (0) (24) y5_48 → (24 - (y5_48).toInt).toNat < n_48 → lv_has ls 6 [(0, .ref h0), (4, .int y4_48), (5, .int y5_48)] → ((1 : Int32) + (F_J6_bitCount_0f7a4 y4_48)) = F_X12_would_x (G.2.1 (g.2.2 100)) (G.2.1 (g.2.2 111)) (G.1 113) a0 a1 → HT g Ty G_48 H → va_S (AF Ty s.heap.size) s.heap H locs → Wm p l e (wsG yX12_would cX12_would 6 (some .int)) ({ frames := 341, cells := 0, slots := 0, locals := 7993 }) s m [.ref h0, .int a0, .int a1] below meth c H locs (0) (0) (QwI g Ty s.heap.size (fun r u => u.1 = Ty ∧ FR [107, 108, 109, 110, 114, 104, 105] [(g.2.2 115)] [106] G u.2 ∧ OI g (Bd + 1000) u.2 ∧ F_X12_would_x (G.2.1 (g.2.2 100)) (G.2.1 (g.2.2 111)) (G.1 113) a0 a1 = r)) 0 0 (AF Ty s.heap.size) (F0 m 48 ls []) := by
    intro n_48
    induction n_48 with
    | zero => intro H locs G_48 y4_48 y5_48 ls rg104_48 frL_48 ry5_48 hm; exact absurd hm (Nat.not_lt_zero _)
    | succ n_48 ih_48 =>
      intro H locs G_48 y4_48 y5_48 ls rg104_48 frL_48 ry5_48 hm_48 hl hv hH hS
      refine lv_iload hx hb dX12_would_48 (lv_at hl 2 rfl) ?_
      refine lv_bipush (v := 24) hx hb dX12_would_50 (by decide) ?_
      refine lv_icmp_ge (tgt := 87) hx hb dX12_would_52 (by decide) (fun c_1 => ?_) (fun c_1 => ?_)
      · have r_2 : rgI (24) (24) y5_48 := rg_w (rg_leR rl_24 ry5_48 c_1) (by decide) (by decide)
        refine lv_iconst (v := 1) hx hb dX12_would_87 (by decide) ?_
        refine lv_iload hx hb dX12_would_88 (lv_at hl 1 rfl) ?_
        refine vp_callSi (W.runS (As := [.int y4_48]) (rest := [.int 1]) ⟨hx, hb, hml, hown, hts⟩ (c_J6_bitCount_x l g Ty G_48 y4_48 ) (cwSx 1 hts hG (gwC mw_620) mw_99 mw_1553 mw_619 rfl rfl rfl hd_J6_bitCount_0f7a4 ⟨Nat.le_of_ble_eq_true rfl, Nat.le_of_ble_eq_true rfl⟩) ⟨PcH_blind, PcH_pre hK hH⟩ rfl rfl hl.1 rfl (lv_room (Nat.le_of_ble_eq_true rfl)) dX12_would_90 ⟨Nat.zero_le _, Nat.zero_le _⟩) (fun x_3 hx_3 => ?_)
        have rx_3 : rgI (0) (63) x_3 := hx_3.1
        try rw [← hx_3.2] at hv
        try rw [← hx_3.2] at hv
        refine lv_iadd hx hb dX12_would_93 ?_
        refine lv_topi (fun x_4 ex_4 => ?_)
        try rw [← ex_4] at hv
        have rx_4 : rgI (1) (64) x_4 := by rw [ex_4]; exact rg_w (rg_add rl_1 rx_3 (by decide) (by decide)) (by decide) (by decide)
        exact W.iret hx hb hr (fun t ht hWm => ⟨⟨x_4, (Ty, G_48), rfl, ⟨rfl, ⟨frL_48, ⟨⟨(by rw [(frL_48.1 102 (by decide))]; exact (rg_w hI.a102 (by decide) (by decide))), (rg_w rg104_48 (by decide) (by decide)), (by rw [(frL_48.1 113 (by decide))]; exact (rg_w hI.a113 (by decide) (by decide))), (by rw [(frL_48.1 122 (by decide))]; exact (rg_w hI.a122 (by decide) (by decide))), (by rw [(frL_48.1 133 (by decide))]; exact (rg_w hI.a133 (by decide) (by decide))), (by rw [(frL_48.1 137 (by decide))]; exact (rg_w hI.a137 (by decide) (by decide))), ((frL_48.2.2 111 (by decide)).trans hI.r111), ((frL_48.2.2 112 (by decide)).trans hI.r112), (by rw [(frL_48.2.1 (g.2.2 100) ⟨(ne_kd hmk.1 hmk.2.2.2.1 (by decide)), trivial⟩)]; exact (hI.ti.hi (show Bd ≤ Bd + 1000 by omega))), (hI.un2 (show Bd ≤ Bd + 1000 by omega) (frL_48.2.1 (g.2.2 121) ⟨(ne_kd hmk.2.2.2.2.2.1 hmk.2.2.2.1 (by decide)), trivial⟩) (frL_48.1 122 (by decide))), (hI.ke2 (show Bd ≤ Bd + 1000 by omega) (frL_48.2.1 (g.2.2 140) ⟨(ne_kd hmk.2.2.2.2.2.2.2.2.2.2.2.2.2.2.2.2.2.2.1 hmk.2.2.2.1 (by decide)), trivial⟩) (frL_48.2.1 (g.2.2 141) ⟨(ne_kd hmk.2.2.2.2.2.2.2.2.2.2.2.2.2.2.2.2.2.2.2.1 hmk.2.2.2.1 (by decide)), trivial⟩))⟩, hv.symm⟩⟩⟩, by show HT g Ty G_48 t.heap; rw [ht]; exact hH⟩, hS.F ht⟩) hS.2.2 dX12_would_94
      · have r_5 : rgI (0) (23) y5_48 := rg_w (rg_ltL ry5_48 rl_24 (nle_lt c_1)) (by decide) (by decide)
        refine lv_iload hx hb dX12_would_55 (lv_at hl 1 rfl) ?_
        refine lv_iload hx hb dX12_would_57 (lv_at hl 2 rfl) ?_
        refine vp_callSi (W.runS (As := [.int y4_48, .int y5_48]) (rest := []) ⟨hx, hb, hml, hown, hts⟩ (c_X12_has l g Ty G_48 y4_48 y5_48 ) (cwSx 2 hts hG (gwC mw_1563) mw_88 mw_1561 mw_1562 rfl rfl rfl hd_X12_has ⟨Nat.le_of_ble_eq_true rfl, Nat.le_of_ble_eq_true rfl⟩) ⟨PcH_blind, PcH_pre hK hH⟩ rfl rfl hl.1 rfl (lv_room (Nat.le_of_ble_eq_true rfl)) dX12_would_59 ⟨Nat.zero_le _, Nat.zero_le _⟩) (fun x_6 hx_6 => ?_)
        have rx_6 : rgI (0) (1) x_6 := hx_6.1
        try rw [← hx_6.2] at hv
        try rw [← hx_6.2] at hv
        refine lv_if_eq (tgt := 81) hx hb dX12_would_62 (by decide) (fun c_7 => ?_) (fun c_7 => ?_)
        · have r_8 : rgI (0) (0) x_6 := rg_w (rg_eq rl_0 c_7) (by decide) (by decide)
          have hb_9 : bt y4_48 (y5_48 : Int32).toNatClampNeg = false := has_0 (rg_w r_5 (by decide) (by decide)) (by rw [← hx_6.2]; exact c_7)
          obtain ⟨x_10, ex_10⟩ : ∃ y : Int32, y = y5_48 + 1 := ⟨_, rfl⟩
          try rw [← ex_10] at hv
          have rx_10 : rgI (1) (24) x_10 := by rw [ex_10]; exact rg_w (rg_add r_5 rl_1 (by decide) (by decide)) (by decide) (by decide)
          have qx_10 : x_10.toInt = (y5_48 : Int32).toInt + 1 := by rw [ex_10]; exact rg_addE r_5 rl_1 (by decide) (by decide)
          refine lv_iinc (v := x_10) (lv' := [(5, .int x_10), (0, .ref h0), (4, .int y4_48)]) hx hb dX12_would_81 hl (k := 2) rfl (by rw [ex_10]; rfl) (by decide) rfl (fun ls hl => ?_)
          refine lv_goto (tgt := 48) hx hb dX12_would_84 (by decide) ?_
          exact ih_48 H locs G_48 y4_48 x_10 ls (rg_w rg104_48 (by decide) (by decide)) frL_48 (rg_w rx_10 (by decide) (by decide)) (by have h1 := qx_10; have h2 := r_5.1; have h3 := r_5.2; have h4 := hm_48; omega) (lv_sub hl [1, 2, 0] rfl) hv hH hS
        · have r_11 : rgI (1) (1) x_6 := rg_w (rg_neL rx_6 rl_0 c_7) (by decide) (by decide)
          have hb_12 : bt y4_48 (y5_48 : Int32).toNatClampNeg = true := has_1 (rg_w r_5 (by decide) (by decide)) (by rw [← hx_6.2]; exact c_7)
          refine lv_aload_n hx hb dX12_would_65 rfl (lv_at hl 0 rfl) ?_
          obtain ⟨_, ⟨rfl, t_14, hk_15⟩, o_c_13⟩ := hH h0 _ k_h0
          refine hg_get hx hb hG igX12 hown hK o_c_13 rfl 4 (by decide) (hG _ mw_1288) rfl dX12_would_66 ?_
          refine lv_bipush (v := 14) hx hb dX12_would_69 (by decide) ?_
          refine lv_icmp_ge (tgt := 81) hx hb dX12_would_71 (by decide) (fun c_16 => ?_) (fun c_16 => ?_)
          · have r_17 : rgI (14) (32) (G_48.1 104) := rg_w (rg_leR rl_14 rg104_48 c_16) (by decide) (by decide)
            obtain ⟨x_18, ex_18⟩ : ∃ y : Int32, y = y5_48 + 1 := ⟨_, rfl⟩
            try rw [← ex_18] at hv
            have rx_18 : rgI (1) (24) x_18 := by rw [ex_18]; exact rg_w (rg_add r_5 rl_1 (by decide) (by decide)) (by decide) (by decide)
            have qx_18 : x_18.toInt = (y5_48 : Int32).toInt + 1 := by rw [ex_18]; exact rg_addE r_5 rl_1 (by decide) (by decide)
            refine lv_iinc (v := x_18) (lv' := [(5, .int x_18), (0, .ref h0), (4, .int y4_48)]) hx hb dX12_would_81 hl (k := 2) rfl (by rw [ex_18]; rfl) (by decide) rfl (fun ls hl => ?_)
            refine lv_goto (tgt := 48) hx hb dX12_would_84 (by decide) ?_
            exact ih_48 H locs G_48 y4_48 x_18 ls (rg_w r_17 (by decide) (by decide)) frL_48 (rg_w rx_18 (by decide) (by decide)) (by have h1 := qx_18; have h2 := r_5.1; have h3 := r_5.2; have h4 := hm_48; omega) (lv_sub hl [1, 2, 0] rfl) hv hH hS
          · have r_19 : rgI (1) (13) (G_48.1 104) := rg_w (rg_ltL rg104_48 rl_14 (nle_lt c_16)) (by decide) (by decide)
            refine lv_aload_n hx hb dX12_would_74 rfl (lv_at hl 0 rfl) ?_
            refine lv_iload hx hb dX12_would_75 (lv_at hl 2 rfl) ?_
            refine lv_i2l hx hb dX12_would_77 rfl ?_
            refine lv_topl (fun u_20 eu_20 => ?_)
            refine va_callv (va_runV (As := [.long u_20]) (rest := []) ⟨hx, hb, hml, hown, hts⟩ (c_X12_tell l g Ty G_48 H.size h0 u_20 k_h0 (rg_w r_19 (by decide) (by decide))) (cwV 1 hts (gwV mw_1510 mw_1512 mw_48 mw_88 mw_1513) rfl rfl rfl hv_X12_tell ⟨Nat.le_of_ble_eq_true rfl, Nat.le_of_ble_eq_true rfl⟩) ⟨PcT_blind, hg_recv hK o_c_13 rfl, PcT_pre hK hH⟩ rfl rfl hl.1 rfl (lv_room (Nat.le_of_ble_eq_true rfl)) dX12_would_78 ⟨Nat.zero_le _, Nat.zero_le _⟩) hS (fun q _ h => AF.mono hS.1 h) (fun q h => AF.mono hS.1 h) (fun ux_21 t H locs ht hvm hx_21 hB hz hk hS => ?_)
            obtain ⟨eTx_21, eGx_21⟩ := hx_21
            obtain ⟨G_22, eG_22⟩ : ∃ z, z = ux_21.2 := ⟨_, rfl⟩
            rw [← eG_22] at eGx_21
            obtain ⟨x_23, ex_23⟩ : ∃ z : Int32, z = (G_48.1 104) + 1 := ⟨_, rfl⟩
            have e_24 : G_22 = gset G_48 104 x_23 := by rw [ex_23]; exact eGx_21
            have rx_23 : rgI (2) (14) x_23 := by rw [ex_23]; exact rg_w (rg_add r_19 rl_1 (by decide) (by decide)) (by decide) (by decide)
            have fr_25 : FR [107, 108, 109, 110, 114, 104, 105] [(g.2.2 115)] [106] G G_22 := FR.n frL_48 e_24 (by decide)
            have u_26 : G_22.1 102 = (G.1 102) := by rw [e_24]; exact (gs_ne (by decide)).trans (frL_48.1 102 (by decide))
            have u_27 : G_22.1 113 = (G.1 113) := by rw [e_24]; exact (gs_ne (by decide)).trans (frL_48.1 113 (by decide))
            have u_28 : G_22.1 122 = (G.1 122) := by rw [e_24]; exact (gs_ne (by decide)).trans (frL_48.1 122 (by decide))
            have u_29 : G_22.1 133 = (G.1 133) := by rw [e_24]; exact (gs_ne (by decide)).trans (frL_48.1 133 (by decide))
            have u_30 : G_22.1 137 = (G.1 137) := by rw [e_24]; exact (gs_ne (by decide)).trans (frL_48.1 137 (by decide))
            have u_31 : G_22.1 104 = x_23 := by rw [e_24]; exact gs_eq
            have w_32 : G_22.2.1 (g.2.2 100) = (G.2.1 (g.2.2 100)) := by rw [e_24]; exact (frL_48.2.1 (g.2.2 100) ⟨(ne_kd hmk.1 hmk.2.2.2.1 (by decide)), trivial⟩)
            have w_33 : G_22.2.1 (g.2.2 121) = (G.2.1 (g.2.2 121)) := by rw [e_24]; exact (frL_48.2.1 (g.2.2 121) ⟨(ne_kd hmk.2.2.2.2.2.1 hmk.2.2.2.1 (by decide)), trivial⟩)
            have w_34 : G_22.2.1 (g.2.2 140) = (G.2.1 (g.2.2 140)) := by rw [e_24]; exact (frL_48.2.1 (g.2.2 140) ⟨(ne_kd hmk.2.2.2.2.2.2.2.2.2.2.2.2.2.2.2.2.2.2.1 hmk.2.2.2.1 (by decide)), trivial⟩)
            have w_35 : G_22.2.1 (g.2.2 141) = (G.2.1 (g.2.2 141)) := by rw [e_24]; exact (frL_48.2.1 (g.2.2 141) ⟨(ne_kd hmk.2.2.2.2.2.2.2.2.2.2.2.2.2.2.2.2.2.2.2.1 hmk.2.2.2.1 (by decide)), trivial⟩)
            have w_36 : G_22.2.1 (g.2.2 111) = (G.2.1 (g.2.2 111)) := by rw [e_24]; exact (frL_48.2.1 (g.2.2 111) ⟨(ne_kd hmk.2.2.2.2.2.2.2.2.2.2.2.2.2.2.2.2.2.2.2.2.1 hmk.2.2.2.1 (by decide)), trivial⟩)
            have u_37 : G_22.2.2 111 = some (g.2.2 111) := by rw [e_24]; exact ((frL_48.2.2 111 (by decide)).trans hI.r111)
            have u_38 : G_22.2.2 112 = some (g.2.2 112) := by rw [e_24]; exact ((frL_48.2.2 112 (by decide)).trans hI.r112)
            have hH : HT g Ty G_22 H := by rw [← ht, ← eTx_21, eG_22]; exact hB
            obtain ⟨x_39, ex_39⟩ : ∃ y : Int32, y = y5_48 + 1 := ⟨_, rfl⟩
            try rw [← ex_39] at hv
            have rx_39 : rgI (1) (24) x_39 := by rw [ex_39]; exact rg_w (rg_add r_5 rl_1 (by decide) (by decide)) (by decide) (by decide)
            have qx_39 : x_39.toInt = (y5_48 : Int32).toInt + 1 := by rw [ex_39]; exact rg_addE r_5 rl_1 (by decide) (by decide)
            refine lv_iinc (v := x_39) (lv' := [(5, .int x_39), (0, .ref h0), (4, .int y4_48)]) hx hb dX12_would_81 hl (k := 2) rfl (by rw [ex_39]; rfl) (by decide) rfl (fun ls hl => ?_)
            refine lv_goto (tgt := 48) hx hb dX12_would_84 (by decide) ?_
            exact ih_48 H locs G_22 y4_48 x_39 ls (by rw [u_31]; exact rg_w rx_23 (by decide) (by decide)) fr_25 (rg_w rx_39 (by decide) (by decide)) (by have h1 := qx_39; have h2 := r_5.1; have h3 := r_5.2; have h4 := hm_48; omega) (lv_sub hl [1, 2, 0] rfl) hv hH hS
  refine lv_aload_n hx hb dX12_would_0 rfl (lv_at hl 0 rfl) ?_
  refine lv_iconst (v := 0) hx hb dX12_would_1 (by decide) ?_
  obtain ⟨_, ⟨rfl, t_41, hk_42⟩, o_c_40⟩ := hH h0 _ k_h0
  refine hg_put (ty := .int) hx hb hG igX12 tyX12 tyX12_ok nmX12 hown hK hS o_c_40 (AF.of k_h0) rfl 5 (by decide) (hG _ mw_1289) rfl (by decide +kernel) rfl rfl (Nat.le_of_ble_eq_true rfl) dX12_would_2 (fun H locs o_c_40 hz oq hS => ?_)
  obtain ⟨G_43, eG_43⟩ : ∃ z : Gh, z = gset G 105 0 := ⟨_, rfl⟩
  have hH : HT g Ty G_43 H := by rw [eG_43]; exact HT.putN 105 0 hH k_h0 ⟨rfl, t_41, hk_42⟩ o_c_40 oq (Or.inr (Or.inr (Or.inr (Or.inr (Or.inr ⟨by decide, t_41⟩)))))
  have fr_44 : FR [107, 108, 109, 110, 114, 104, 105] [(g.2.2 115)] [106] G G_43 := FR.n FR.rf eG_43 (by decide)
  have u_45 : G_43.1 102 = (G.1 102) := by rw [eG_43]; exact (gs_ne (by decide))
  have u_46 : G_43.1 104 = (G.1 104) := by rw [eG_43]; exact (gs_ne (by decide))
  have u_47 : G_43.1 113 = (G.1 113) := by rw [eG_43]; exact (gs_ne (by decide))
  have u_48 : G_43.1 122 = (G.1 122) := by rw [eG_43]; exact (gs_ne (by decide))
  have u_49 : G_43.1 133 = (G.1 133) := by rw [eG_43]; exact (gs_ne (by decide))
  have u_50 : G_43.1 137 = (G.1 137) := by rw [eG_43]; exact (gs_ne (by decide))
  have u_51 : G_43.1 105 = 0 := by rw [eG_43]; exact gs_eq
  have w_52 : G_43.2.1 (g.2.2 100) = (G.2.1 (g.2.2 100)) := by rw [eG_43]; exact rfl
  have w_53 : G_43.2.1 (g.2.2 121) = (G.2.1 (g.2.2 121)) := by rw [eG_43]; exact rfl
  have w_54 : G_43.2.1 (g.2.2 140) = (G.2.1 (g.2.2 140)) := by rw [eG_43]; exact rfl
  have w_55 : G_43.2.1 (g.2.2 141) = (G.2.1 (g.2.2 141)) := by rw [eG_43]; exact rfl
  have w_56 : G_43.2.1 (g.2.2 111) = (G.2.1 (g.2.2 111)) := by rw [eG_43]; exact rfl
  have u_57 : G_43.2.2 111 = some (g.2.2 111) := by rw [eG_43]; exact hI.r111
  have u_58 : G_43.2.2 112 = some (g.2.2 112) := by rw [eG_43]; exact hI.r112
  clear oq hz
  refine lv_aload_n hx hb dX12_would_5 rfl (lv_at hl 0 rfl) ?_
  refine lv_aload_n hx hb dX12_would_6 rfl (lv_at hl 0 rfl) ?_
  obtain ⟨_, ⟨rfl, t_60, hk_61⟩, o_c_59⟩ := hH h0 _ k_h0
  refine hg_get hx hb hG igX12 hown hK o_c_59 rfl 0 (by decide) (hG _ mw_1284) rfl dX12_would_7 ?_
  refine lv_iload_n hx hb dX12_would_10 rfl (lv_at hl 1 rfl) ?_
  refine lv_iload_n hx hb dX12_would_11 rfl (lv_at hl 2 rfl) ?_
  refine va_calli (va_runV (As := [.ref (g.2.2 100), .int a0, .int a1]) (rest := []) ⟨hx, hb, hml, hown, hts⟩ (c_X12_refusesComing_x l g Ty G_43 H.size h0 (g.2.2 100) a0 a1 k_h0 (hk_61.1) ρ (by rw [w_52]; exact hT) (g.2.2 111) hmk.2.2.2.2.2.2.2.2.2.2.2.2.2.2.2.2.2.2.2.2.1 u_57 (by rw [u_47]; exact hI.a113)) (cwV 3 hts (gwV mw_1546 mw_1548 mw_50 mw_88 mw_1549) rfl rfl rfl hv_X12_refusesComing ⟨Nat.le_of_ble_eq_true rfl, Nat.le_of_ble_eq_true rfl⟩) ⟨PcT_blind, hg_recv hK o_c_59 rfl, PcT_pre hK hH⟩ rfl rfl hl.1 rfl (lv_room (Nat.le_of_ble_eq_true rfl)) dX12_would_12 ⟨Nat.zero_le _, Nat.zero_le _⟩) hS (fun q _ h => AF.mono hS.1 h) (fun q h => AF.mono hS.1 h) (fun x_62 ux_62 t H locs ht hvm hx_62 hB hz hk hS => ?_)
  obtain ⟨hx_62, fx_62⟩ := hx_62
  obtain ⟨eTx_62, eGx_62⟩ := fx_62
  obtain ⟨G_63, eG_63⟩ : ∃ z, z = ux_62.2 := ⟨_, rfl⟩
  rw [← eG_63] at eGx_62
  obtain ⟨hfr_64, hex_65⟩ := eGx_62
  have fr_66 : FR [107, 108, 109, 110, 114, 104, 105] [(g.2.2 115)] [106] G G_63 := FR.tr fr_44 hfr_64 (by decide) (fun b h => ⟨h.1, trivial⟩) (by decide)
  have u_67 : G_63.1 102 = (G.1 102) := (hfr_64.1 102 (by decide)).trans u_45
  have u_68 : G_63.1 104 = (G.1 104) := (hfr_64.1 104 (by decide)).trans u_46
  have u_69 : G_63.1 113 = (G.1 113) := (hfr_64.1 113 (by decide)).trans u_47
  have u_70 : G_63.1 122 = (G.1 122) := (hfr_64.1 122 (by decide)).trans u_48
  have u_71 : G_63.1 133 = (G.1 133) := (hfr_64.1 133 (by decide)).trans u_49
  have u_72 : G_63.1 137 = (G.1 137) := (hfr_64.1 137 (by decide)).trans u_50
  have u_73 : G_63.1 105 = 0 := (hfr_64.1 105 (by decide)).trans u_51
  have w_74 : G_63.2.1 (g.2.2 100) = (G.2.1 (g.2.2 100)) := (hfr_64.2.1 (g.2.2 100) ⟨(ne_kd hmk.1 hmk.2.2.2.1 (by decide)), trivial⟩).trans w_52
  have w_75 : G_63.2.1 (g.2.2 121) = (G.2.1 (g.2.2 121)) := (hfr_64.2.1 (g.2.2 121) ⟨(ne_kd hmk.2.2.2.2.2.1 hmk.2.2.2.1 (by decide)), trivial⟩).trans w_53
  have w_76 : G_63.2.1 (g.2.2 140) = (G.2.1 (g.2.2 140)) := (hfr_64.2.1 (g.2.2 140) ⟨(ne_kd hmk.2.2.2.2.2.2.2.2.2.2.2.2.2.2.2.2.2.2.1 hmk.2.2.2.1 (by decide)), trivial⟩).trans w_54
  have w_77 : G_63.2.1 (g.2.2 141) = (G.2.1 (g.2.2 141)) := (hfr_64.2.1 (g.2.2 141) ⟨(ne_kd hmk.2.2.2.2.2.2.2.2.2.2.2.2.2.2.2.2.2.2.2.1 hmk.2.2.2.1 (by decide)), trivial⟩).trans w_55
  have w_78 : G_63.2.1 (g.2.2 111) = (G.2.1 (g.2.2 111)) := (hfr_64.2.1 (g.2.2 111) ⟨(ne_kd hmk.2.2.2.2.2.2.2.2.2.2.2.2.2.2.2.2.2.2.2.2.1 hmk.2.2.2.1 (by decide)), trivial⟩).trans w_56
  have u_79 : G_63.2.2 111 = some (g.2.2 111) := (hfr_64.2.2 111 (by decide)).trans u_57
  have u_80 : G_63.2.2 112 = some (g.2.2 112) := (hfr_64.2.2 112 (by decide)).trans u_58
  have hq_81 : F_X12_refusesComing_x (G.2.1 (g.2.2 100)) (G.2.1 (g.2.2 111)) (G.1 113) a0 a1 = x_62 := by have q := hex_65; rw [w_52, w_56, u_47] at q; exact q
  try rw [hq_81] at hv
  have hH : HT g Ty G_63 H := by rw [← ht, ← eTx_62, eG_63]; exact hB
  have rx_62 : rgI (-9) (0) x_62 := hx_62.1
  have tx_82 := hx_62.2
  try rw [w_52] at tx_82
  try rw [w_56] at tx_82
  try rw [u_47] at tx_82
  refine lv_istore_n (lv' := [(3, .int x_62), (0, .ref h0), (1, .int a0), (2, .int a1)]) hx hb dX12_would_15 rfl hl (by decide) rfl (fun ls hl => ?_)
  refine lv_iload_n hx hb dX12_would_16 rfl (lv_at hl 0 rfl) ?_
  refine lv_if_ge (tgt := 22) hx hb dX12_would_17 (by decide) (fun c_83 => ?_) (fun c_83 => ?_)
  · rw [if_pos c_83] at hv
    have r_84 : rgI (0) (0) x_62 := rg_w (rg_leR rl_0 rx_62 c_83) (by decide) (by decide)
    have c0_85 := tx_82 (rg_00 r_84 c_83)
    refine lv_aload_n hx hb dX12_would_22 rfl (lv_at hl 1 rfl) ?_
    refine lv_aload_n hx hb dX12_would_23 rfl (lv_at hl 1 rfl) ?_
    obtain ⟨_, ⟨rfl, t_87, hk_88⟩, o_c_86⟩ := hH h0 _ k_h0
    refine hg_get hx hb hG igX12 hown hK o_c_86 rfl 0 (by decide) (hG _ mw_1284) rfl dX12_would_24 ?_
    refine lv_iload_n hx hb dX12_would_27 rfl (lv_at hl 2 rfl) ?_
    refine lv_iload_n hx hb dX12_would_28 rfl (lv_at hl 3 rfl) ?_
    refine va_calli (va_runV (As := [.ref (g.2.2 100), .int a0, .int a1]) (rest := []) ⟨hx, hb, hml, hown, hts⟩ (c_X12_hitsOf_x l g Ty G_63 H.size h0 (g.2.2 100) a0 a1 k_h0 (hk_88.1) ρ (by rw [w_74]; exact hT) (by rw [w_74]; exact c0_85.1) (g.2.2 111) hmk.2.2.2.2.2.2.2.2.2.2.2.2.2.2.2.2.2.2.2.2.1 u_79 (by rw [u_69]; exact hI.a113)) (cwV 3 hts (gwV mw_1554 mw_1556 mw_51 mw_88 mw_1557) rfl rfl rfl hv_X12_hitsOf ⟨Nat.le_of_ble_eq_true rfl, Nat.le_of_ble_eq_true rfl⟩) ⟨PcT_blind, hg_recv hK o_c_86 rfl, PcT_pre hK hH⟩ rfl rfl hl.1 rfl (lv_room (Nat.le_of_ble_eq_true rfl)) dX12_would_29 ⟨Nat.zero_le _, Nat.zero_le _⟩) hS (fun q _ h => AF.mono hS.1 h) (fun q h => AF.mono hS.1 h) (fun x_89 ux_89 t H locs ht hvm hx_89 hB hz hk hS => ?_)
    obtain ⟨hx_89, fx_89⟩ := hx_89
    obtain ⟨eTx_89, eGx_89⟩ := fx_89
    obtain ⟨G_90, eG_90⟩ : ∃ z, z = ux_89.2 := ⟨_, rfl⟩
    rw [← eG_90] at eGx_89
    obtain ⟨hfr_91, hex_92⟩ := eGx_89
    have fr_93 : FR [107, 108, 109, 110, 114, 104, 105] [(g.2.2 115)] [106] G G_90 := FR.tr fr_66 hfr_91 (by decide) (fun b h => ⟨h.1, trivial⟩) (by decide)
    have u_94 : G_90.1 102 = (G.1 102) := (hfr_91.1 102 (by decide)).trans u_67
    have u_95 : G_90.1 104 = (G.1 104) := (hfr_91.1 104 (by decide)).trans u_68
    have u_96 : G_90.1 113 = (G.1 113) := (hfr_91.1 113 (by decide)).trans u_69
    have u_97 : G_90.1 122 = (G.1 122) := (hfr_91.1 122 (by decide)).trans u_70
    have u_98 : G_90.1 133 = (G.1 133) := (hfr_91.1 133 (by decide)).trans u_71
    have u_99 : G_90.1 137 = (G.1 137) := (hfr_91.1 137 (by decide)).trans u_72
    have u_100 : G_90.1 105 = 0 := (hfr_91.1 105 (by decide)).trans u_73
    have w_101 : G_90.2.1 (g.2.2 100) = (G.2.1 (g.2.2 100)) := (hfr_91.2.1 (g.2.2 100) ⟨(ne_kd hmk.1 hmk.2.2.2.1 (by decide)), trivial⟩).trans w_74
    have w_102 : G_90.2.1 (g.2.2 121) = (G.2.1 (g.2.2 121)) := (hfr_91.2.1 (g.2.2 121) ⟨(ne_kd hmk.2.2.2.2.2.1 hmk.2.2.2.1 (by decide)), trivial⟩).trans w_75
    have w_103 : G_90.2.1 (g.2.2 140) = (G.2.1 (g.2.2 140)) := (hfr_91.2.1 (g.2.2 140) ⟨(ne_kd hmk.2.2.2.2.2.2.2.2.2.2.2.2.2.2.2.2.2.2.1 hmk.2.2.2.1 (by decide)), trivial⟩).trans w_76
    have w_104 : G_90.2.1 (g.2.2 141) = (G.2.1 (g.2.2 141)) := (hfr_91.2.1 (g.2.2 141) ⟨(ne_kd hmk.2.2.2.2.2.2.2.2.2.2.2.2.2.2.2.2.2.2.2.1 hmk.2.2.2.1 (by decide)), trivial⟩).trans w_77
    have w_105 : G_90.2.1 (g.2.2 111) = (G.2.1 (g.2.2 111)) := (hfr_91.2.1 (g.2.2 111) ⟨(ne_kd hmk.2.2.2.2.2.2.2.2.2.2.2.2.2.2.2.2.2.2.2.2.1 hmk.2.2.2.1 (by decide)), trivial⟩).trans w_78
    have u_106 : G_90.2.2 111 = some (g.2.2 111) := (hfr_91.2.2 111 (by decide)).trans u_79
    have u_107 : G_90.2.2 112 = some (g.2.2 112) := (hfr_91.2.2 112 (by decide)).trans u_80
    have hq_108 : F_X12_hitsOf_x (G.2.1 (g.2.2 100)) (G.2.1 (g.2.2 111)) (G.1 113) a0 a1 = x_89 := by have q := hex_92; rw [w_74, w_78, u_69] at q; exact q
    try rw [hq_108] at hv
    have hH : HT g Ty G_90 H := by rw [← ht, ← eTx_89, eG_90]; exact hB
    have tx_109 := hx_89.1
    try rw [w_74] at tx_109
    try rw [w_78] at tx_109
    try rw [u_69] at tx_109
    have tx_110 := hx_89.2
    try rw [w_74] at tx_110
    try rw [w_78] at tx_110
    try rw [u_69] at tx_110
    refine lv_istore (lv' := [(4, .int x_89), (3, .int x_62), (0, .ref h0), (1, .int a0), (2, .int a1)]) hx hb dX12_would_32 hl (by decide) rfl (fun ls hl => ?_)
    refine lv_aload_n hx hb dX12_would_34 rfl (lv_at hl 2 rfl) ?_
    refine lv_iconst (v := 0) hx hb dX12_would_35 (by decide) ?_
    obtain ⟨_, ⟨rfl, t_112, hk_113⟩, o_c_111⟩ := hH h0 _ k_h0
    refine hg_put (ty := .int) hx hb hG igX12 tyX12 tyX12_ok nmX12 hown hK hS o_c_111 (AF.of k_h0) rfl 4 (by decide) (hG _ mw_1288) rfl (by decide +kernel) rfl rfl (Nat.le_of_ble_eq_true rfl) dX12_would_36 (fun H locs o_c_111 hz oq hS => ?_)
    obtain ⟨G_114, eG_114⟩ : ∃ z : Gh, z = gset G_90 104 0 := ⟨_, rfl⟩
    have hH : HT g Ty G_114 H := by rw [eG_114]; exact HT.putN 104 0 hH k_h0 ⟨rfl, t_112, hk_113⟩ o_c_111 oq (Or.inr (Or.inr (Or.inr (Or.inr (Or.inr ⟨by decide, t_112⟩)))))
    have fr_115 : FR [107, 108, 109, 110, 114, 104, 105] [(g.2.2 115)] [106] G G_114 := FR.n fr_93 eG_114 (by decide)
    have u_116 : G_114.1 102 = (G.1 102) := by rw [eG_114]; exact (gs_ne (by decide)).trans u_94
    have u_117 : G_114.1 113 = (G.1 113) := by rw [eG_114]; exact (gs_ne (by decide)).trans u_96
    have u_118 : G_114.1 122 = (G.1 122) := by rw [eG_114]; exact (gs_ne (by decide)).trans u_97
    have u_119 : G_114.1 133 = (G.1 133) := by rw [eG_114]; exact (gs_ne (by decide)).trans u_98
    have u_120 : G_114.1 137 = (G.1 137) := by rw [eG_114]; exact (gs_ne (by decide)).trans u_99
    have u_121 : G_114.1 105 = 0 := by rw [eG_114]; exact (gs_ne (by decide)).trans u_100
    have u_122 : G_114.1 104 = 0 := by rw [eG_114]; exact gs_eq
    have w_123 : G_114.2.1 (g.2.2 100) = (G.2.1 (g.2.2 100)) := by rw [eG_114]; exact w_101
    have w_124 : G_114.2.1 (g.2.2 121) = (G.2.1 (g.2.2 121)) := by rw [eG_114]; exact w_102
    have w_125 : G_114.2.1 (g.2.2 140) = (G.2.1 (g.2.2 140)) := by rw [eG_114]; exact w_103
    have w_126 : G_114.2.1 (g.2.2 141) = (G.2.1 (g.2.2 141)) := by rw [eG_114]; exact w_104
    have w_127 : G_114.2.1 (g.2.2 111) = (G.2.1 (g.2.2 111)) := by rw [eG_114]; exact w_105
    have u_128 : G_114.2.2 111 = some (g.2.2 111) := by rw [eG_114]; exact u_106
    have u_129 : G_114.2.2 112 = some (g.2.2 112) := by rw [eG_114]; exact u_107
    clear oq hz
    refine lv_aload_n hx hb dX12_would_39 rfl (lv_at hl 2 rfl) ?_
    refine lv_iload_n hx hb dX12_would_40 rfl (lv_at hl 3 rfl) ?_
    refine lv_i2l hx hb dX12_would_41 rfl ?_
    refine lv_topl (fun u_130 eu_130 => ?_)
    obtain ⟨_, ⟨rfl, t_132, hk_133⟩, o_c_131⟩ := hH h0 _ k_h0
    refine va_callv (va_runV (As := [.long u_130]) (rest := []) ⟨hx, hb, hml, hown, hts⟩ (c_X12_tell l g Ty G_114 H.size h0 u_130 k_h0 (by rw [u_122]; exact rg_w rl_0 (by decide) (by decide))) (cwV 1 hts (gwV mw_1510 mw_1512 mw_48 mw_88 mw_1513) rfl rfl rfl hv_X12_tell ⟨Nat.le_of_ble_eq_true rfl, Nat.le_of_ble_eq_true rfl⟩) ⟨PcT_blind, hg_recv hK o_c_131 rfl, PcT_pre hK hH⟩ rfl rfl hl.1 rfl (lv_room (Nat.le_of_ble_eq_true rfl)) dX12_would_42 ⟨Nat.zero_le _, Nat.zero_le _⟩) hS (fun q _ h => AF.mono hS.1 h) (fun q h => AF.mono hS.1 h) (fun ux_134 t H locs ht hvm hx_134 hB hz hk hS => ?_)
    obtain ⟨eTx_134, eGx_134⟩ := hx_134
    obtain ⟨G_135, eG_135⟩ : ∃ z, z = ux_134.2 := ⟨_, rfl⟩
    rw [← eG_135] at eGx_134
    obtain ⟨x_136, ex_136⟩ : ∃ z : Int32, z = 0 + 1 := ⟨_, rfl⟩
    have e_137 : G_135 = gset G_114 104 x_136 := by rw [ex_136, ← u_122]; exact eGx_134
    have rx_136 : rgI (1) (1) x_136 := by rw [ex_136]; exact rg_w (rg_add rl_0 rl_1 (by decide) (by decide)) (by decide) (by decide)
    have fr_138 : FR [107, 108, 109, 110, 114, 104, 105] [(g.2.2 115)] [106] G G_135 := FR.n fr_115 e_137 (by decide)
    have u_139 : G_135.1 102 = (G.1 102) := by rw [e_137]; exact (gs_ne (by decide)).trans u_116
    have u_140 : G_135.1 113 = (G.1 113) := by rw [e_137]; exact (gs_ne (by decide)).trans u_117
    have u_141 : G_135.1 122 = (G.1 122) := by rw [e_137]; exact (gs_ne (by decide)).trans u_118
    have u_142 : G_135.1 133 = (G.1 133) := by rw [e_137]; exact (gs_ne (by decide)).trans u_119
    have u_143 : G_135.1 137 = (G.1 137) := by rw [e_137]; exact (gs_ne (by decide)).trans u_120
    have u_144 : G_135.1 105 = 0 := by rw [e_137]; exact (gs_ne (by decide)).trans u_121
    have u_145 : G_135.1 104 = x_136 := by rw [e_137]; exact gs_eq
    have w_146 : G_135.2.1 (g.2.2 100) = (G.2.1 (g.2.2 100)) := by rw [e_137]; exact w_123
    have w_147 : G_135.2.1 (g.2.2 121) = (G.2.1 (g.2.2 121)) := by rw [e_137]; exact w_124
    have w_148 : G_135.2.1 (g.2.2 140) = (G.2.1 (g.2.2 140)) := by rw [e_137]; exact w_125
    have w_149 : G_135.2.1 (g.2.2 141) = (G.2.1 (g.2.2 141)) := by rw [e_137]; exact w_126
    have w_150 : G_135.2.1 (g.2.2 111) = (G.2.1 (g.2.2 111)) := by rw [e_137]; exact w_127
    have u_151 : G_135.2.2 111 = some (g.2.2 111) := by rw [e_137]; exact u_128
    have u_152 : G_135.2.2 112 = some (g.2.2 112) := by rw [e_137]; exact u_129
    have hH : HT g Ty G_135 H := by rw [← ht, ← eTx_134, eG_135]; exact hB
    refine lv_iconst (v := 0) hx hb dX12_would_45 (by decide) ?_
    refine lv_istore (lv' := [(5, .int 0), (4, .int x_89), (3, .int x_62), (0, .ref h0), (1, .int a0), (2, .int a1)]) hx hb dX12_would_46 hl (by decide) rfl (fun ls hl => ?_)
    exact L_48 26 H locs G_135 x_89 0 ls (by rw [u_145]; exact rg_w rx_136 (by decide) (by decide)) fr_138 (rg_w rl_0 (by decide) (by decide)) (by decide) (lv_sub hl [3, 1, 0] rfl) hv hH hS
  · rw [if_neg c_83] at hv
    have r_153 : rgI (-9) (-1) x_62 := rg_w (rg_ltL rx_62 rl_0 (nle_lt c_83)) (by decide) (by decide)
    refine lv_iload_n hx hb dX12_would_20 rfl (lv_at hl 0 rfl) ?_
    exact W.iret hx hb hr (fun t ht hWm => ⟨⟨x_62, (Ty, G_63), rfl, ⟨rfl, ⟨fr_66, ⟨⟨(by rw [u_67]; exact (rg_w hI.a102 (by decide) (by decide))), (by rw [u_68]; exact (rg_w hI.a104 (by decide) (by decide))), (by rw [u_69]; exact (rg_w hI.a113 (by decide) (by decide))), (by rw [u_70]; exact (rg_w hI.a122 (by decide) (by decide))), (by rw [u_71]; exact (rg_w hI.a133 (by decide) (by decide))), (by rw [u_72]; exact (rg_w hI.a137 (by decide) (by decide))), u_79, u_80, (by rw [w_74]; exact (hI.ti.hi (show Bd ≤ Bd + 1000 by omega))), (hI.un2 (show Bd ≤ Bd + 1000 by omega) w_75 u_70), (hI.ke2 (show Bd ≤ Bd + 1000 by omega) w_76 w_77)⟩, hv.symm⟩⟩⟩, by show HT g Ty G_63 t.heap; rw [ht]; exact hH⟩, hS.F ht⟩) hS.2.2 dX12_would_21

def F_X12_widest_x_20 : Nat → Int32 → Int32 → Int32 → Int32 → (Nat → Int32) → (Nat → Int32) → Int32 → Int32 × Int32
  | 0, y1, y2, _, _, _, _, _ => (y1, y2)
  | n + 1, y1, y2, y3, y4, yr0, yr1, yn113 => (if (4 : Int32) ≤ y4 then (y1, y2) else (if (0 : Int32) ≤ (F_X12_refusesComing_x yr0 yr1 yn113 y3 y4) then (if y2 < ((1 : Int32) + (F_J6_bitCount_0f7a4 (F_X12_hitsOf_x yr0 yr1 yn113 y3 y4))) then (F_X12_widest_x_20 n (((10 : Int32) * y3) + y4) ((1 : Int32) + (F_J6_bitCount_0f7a4 (F_X12_hitsOf_x yr0 yr1 yn113 y3 y4))) y3 (y4 + (1 : Int32)) yr0 yr1 yn113) else (F_X12_widest_x_20 n y1 y2 y3 (y4 + (1 : Int32)) yr0 yr1 yn113)) else (F_X12_widest_x_20 n y1 y2 y3 (y4 + (1 : Int32)) yr0 yr1 yn113)))
def F_X12_widest_x_11 : Nat → Int32 → Int32 → Int32 → (Nat → Int32) → (Nat → Int32) → Int32 → Int32 × Int32
  | 0, y1, y2, _, _, _, _ => (y1, y2)
  | n + 1, y1, y2, y3, yr0, yr1, yn113 => (if (24 : Int32) ≤ y3 then (y1, y2) else (tu2 (F_X12_widest_x_20 6 y1 y2 y3 (0 : Int32) yr0 yr1 yn113) (fun z9 z10 => (F_X12_widest_x_11 n z9 z10 (y3 + (1 : Int32)) yr0 yr1 yn113))))
def F_X12_widest_x (r0 : Nat → Int32) (r1 : Nat → Int32) (m113 : Int32) : Int32 := (tu2 (F_X12_widest_x_11 26 (-1 : Int32) (0 : Int32) (0 : Int32) r0 r1 m113) (fun z11 z12 => (if z11 = (-1 : Int32) then (-2 : Int32) else z11)))
set_option maxHeartbeats 4000000 in
set_option maxRecDepth 100000 in
theorem c_X12_widest_x (l : Launch) (g : Gx) (Ty : TyM) (G : Gh) (sz : Nat) (h0 : Nat) (k_h0 : Ty h0 = some (22, 0)) (Bd : Int) (hI : OI g Bd G) (hBd : Bd ≤ 1900000) (hLD : LD g) : Met l yX12_widest (wsG yX12_widest cX12_widest 6 (some .int)) ({ frames := 341, cells := 0, slots := 0, locals := 7993 }) (PcT g Ty G sz [.ref h0]) (QwI g Ty sz (fun r u => u.1 = Ty ∧ FR [107, 108, 109, 110, 114, 104, 105] [(g.2.2 115)] [106] G u.2 ∧ OI g (Bd + 1000) u.2 ∧ F_X12_widest_x (G.2.1 (g.2.2 100)) (G.2.1 (g.2.2 111)) (G.1 113) = r)) 0 0 (AF Ty sz) := by
  refine Met.ofW (cc := cX12_widest) (maxL := 6) (ret := (some .int)) (by decide) rfl ?_
  intro p e s m args below meth c s₁ B hml hv
  obtain ⟨rfl, hsz, hK, hH⟩ := hv
  subst hsz
  have hx := B.exec
  have hb := B.bytes
  have hr := B.returns
  have hts := atoms_spec (ws := (wsG yX12_widest cX12_widest 6 (some .int))) B.pre
  have hG : ∀ w ∈ GW, w.before ([.ref h0] : List Value).toArray s = true := fun w h => hts w (List.mem_cons_of_mem _ h)
  have hown : s.vm.findClass RX12 = some m.cls := findClass_of_methodNamed B.named
  have hlocks := B.notSynchronized
  have hl := lv_entry [.ref h0] (n := 6) (Nat.le_of_ble_eq_true rfl)
  rw [lg_entry_eq]
  generalize (lg_sl [.ref h0] ++ List.replicate (6 - (lg_sl [.ref h0]).length) Slot.unset).toArray = ls at hl ⊢
  have hl : lv_has ls 6 [(0, .ref h0)] := hl
  have hmk : mdK g Ty := mdk_of hH k_h0
  have hv : (tu2 (F_X12_widest_x_11 26 (-1 : Int32) (0 : Int32) (0 : Int32) (G.2.1 (g.2.2 100)) (G.2.1 (g.2.2 111)) (G.1 113)) (fun z7 z8 => (if z7 = (-1 : Int32) then (-2 : Int32) else z7))) = F_X12_widest_x (G.2.1 (g.2.2 100)) (G.2.1 (g.2.2 111)) (G.1 113) := rfl
  have hS : va_S (AF Ty s.heap.size) s.heap s.heap [] := va_S.rf
  obtain ⟨⟨σ0, hTS0⟩, h10, hBB0⟩ := id hI.ti
  obtain ⟨ρ, hT⟩ := hTS0.1
  have L_11 : ∀ (n_11 : Nat) (H : Heap) (locs : List Loc) (G_11 : Gh) (y1_11 : Int32) (y2_11 : Int32) (y3_11 : Int32) (ls : Array Slot), rgI (0) (32) (G_11.1 104) → FR [107, 108, 109, 110, 114, 104, 105] [(g.2.2 115)] [106] G G_11 → rgI (-1) (2147483647) y1_11 → rgI (0) (64) y2_11 → rgI (0) (24) y3_11 → (24 - (y3_11).toInt).toNat < n_11 → lv_has ls 6 [(0, .ref h0), (1, .int y1_11), (2, .int y2_11), (3, .int y3_11)] → (tu2 (F_X12_widest_x_11 n_11 y1_11 y2_11 y3_11 (G.2.1 (g.2.2 100)) (G.2.1 (g.2.2 111)) (G.1 113)) (fun z1 z2 => (if z1 = (-1 : Int32) then (-2 : Int32) else z1))) = F_X12_widest_x (G.2.1 (g.2.2 100)) (G.2.1 (g.2.2 111)) (G.1 113) → HT g Ty G_11 H → va_S (AF Ty s.heap.size) s.heap H locs → Wm p l e (wsG yX12_widest cX12_widest 6 (some .int)) ({ frames := 341, cells := 0, slots := 0, locals := 7993 }) s m [.ref h0] below meth c H locs (0) (0) (QwI g Ty s.heap.size (fun r u => u.1 = Ty ∧ FR [107, 108, 109, 110, 114, 104, 105] [(g.2.2 115)] [106] G u.2 ∧ OI g (Bd + 1000) u.2 ∧ F_X12_widest_x (G.2.1 (g.2.2 100)) (G.2.1 (g.2.2 111)) (G.1 113) = r)) 0 0 (AF Ty s.heap.size) (F0 m 11 ls []) := by
    intro n_11
    induction n_11 with
    | zero => intro H locs G_11 y1_11 y2_11 y3_11 ls rg104_11 frL_11 ry1_11 ry2_11 ry3_11 hm; exact absurd hm (Nat.not_lt_zero _)
    | succ n_11 ih_11 =>
      intro H locs G_11 y1_11 y2_11 y3_11 ls rg104_11 frL_11 ry1_11 ry2_11 ry3_11 hm_11 hl hv hH hS
      have L_20 : ∀ (n_20 : Nat) (H : Heap) (locs : List Loc) (G_20 : Gh) (y1_20 : Int32) (y2_20 : Int32) (y4_20 : Int32) (ls : Array Slot), rgI (0) (32) (G_20.1 104) → FR [107, 108, 109, 110, 114, 104, 105] [(g.2.2 115)] [106] G G_20 → rgI (-1) (2147483647) y1_20 → rgI (0) (64) y2_20 → rgI (0) (23) y3_11 → rgI (0) (4) y4_20 → (4 - (y4_20).toInt).toNat < n_20 → lv_has ls 6 [(0, .ref h0), (1, .int y1_20), (2, .int y2_20), (3, .int y3_11), (4, .int y4_20)] → (tu2 (F_X12_widest_x_20 n_20 y1_20 y2_20 y3_11 y4_20 (G.2.1 (g.2.2 100)) (G.2.1 (g.2.2 111)) (G.1 113)) (fun z3 z4 => (tu2 (F_X12_widest_x_11 n_11 z3 z4 (y3_11 + (1 : Int32)) (G.2.1 (g.2.2 100)) (G.2.1 (g.2.2 111)) (G.1 113)) (fun z5 z6 => (if z5 = (-1 : Int32) then (-2 : Int32) else z5))))) = F_X12_widest_x (G.2.1 (g.2.2 100)) (G.2.1 (g.2.2 111)) (G.1 113) → HT g Ty G_20 H → va_S (AF Ty s.heap.size) s.heap H locs → Wm p l e (wsG yX12_widest cX12_widest 6 (some .int)) ({ frames := 341, cells := 0, slots := 0, locals := 7993 }) s m [.ref h0] below meth c H locs (0) (0) (QwI g Ty s.heap.size (fun r u => u.1 = Ty ∧ FR [107, 108, 109, 110, 114, 104, 105] [(g.2.2 115)] [106] G u.2 ∧ OI g (Bd + 1000) u.2 ∧ F_X12_widest_x (G.2.1 (g.2.2 100)) (G.2.1 (g.2.2 111)) (G.1 113) = r)) 0 0 (AF Ty s.heap.size) (F0 m 20 ls []) := by
        intro n_20
        induction n_20 with
        | zero => intro H locs G_20 y1_20 y2_20 y4_20 ls rg104_20 frL_20 ry1_20 ry2_20 ry3_20 ry4_20 hm; exact absurd hm (Nat.not_lt_zero _)
        | succ n_20 ih_20 =>
          intro H locs G_20 y1_20 y2_20 y4_20 ls rg104_20 frL_20 ry1_20 ry2_20 ry3_20 ry4_20 hm_20 hl hv hH hS
          rw [F_X12_widest_x_20] at hv
          refine lv_iload hx hb dX12_widest_20 (lv_at hl 4 rfl) ?_
          refine lv_iconst (v := 4) hx hb dX12_widest_22 (by decide) ?_
          refine lv_icmp_ge (tgt := 87) hx hb dX12_widest_23 (by decide) (fun c_1 => ?_) (fun c_1 => ?_)
          · rw [if_pos c_1] at hv
            have r_2 : rgI (4) (4) y4_20 := rg_w (rg_leR rl_4 ry4_20 c_1) (by decide) (by decide)
            rw [tu2_eq] at hv
            obtain ⟨x_3, ex_3⟩ : ∃ y : Int32, y = y3_11 + 1 := ⟨_, rfl⟩
            try rw [← ex_3] at hv
            have rx_3 : rgI (1) (24) x_3 := by rw [ex_3]; exact rg_w (rg_add ry3_20 rl_1 (by decide) (by decide)) (by decide) (by decide)
            have qx_3 : x_3.toInt = (y3_11 : Int32).toInt + 1 := by rw [ex_3]; exact rg_addE ry3_20 rl_1 (by decide) (by decide)
            refine lv_iinc (v := x_3) (lv' := [(3, .int x_3), (0, .ref h0), (1, .int y1_20), (2, .int y2_20), (4, .int y4_20)]) hx hb dX12_widest_87 hl (k := 3) rfl (by rw [ex_3]; rfl) (by decide) rfl (fun ls hl => ?_)
            refine lv_goto (tgt := 11) hx hb dX12_widest_90 (by decide) ?_
            exact ih_11 H locs G_20 y1_20 y2_20 x_3 ls (rg_w rg104_20 (by decide) (by decide)) frL_20 ry1_20 ry2_20 (rg_w rx_3 (by decide) (by decide)) (by have h1 := qx_3; have h2 := ry3_20.1; have h3 := ry3_20.2; have h4 := hm_11; omega) (lv_sub hl [1, 2, 3, 0] rfl) hv hH hS
          · rw [if_neg c_1] at hv
            have r_4 : rgI (0) (3) y4_20 := rg_w (rg_ltL ry4_20 rl_4 (nle_lt c_1)) (by decide) (by decide)
            refine lv_aload_n hx hb dX12_widest_26 rfl (lv_at hl 0 rfl) ?_
            refine lv_aload_n hx hb dX12_widest_27 rfl (lv_at hl 0 rfl) ?_
            obtain ⟨_, ⟨rfl, t_6, hk_7⟩, o_c_5⟩ := hH h0 _ k_h0
            refine hg_get hx hb hG igX12 hown hK o_c_5 rfl 0 (by decide) (hG _ mw_1284) rfl dX12_widest_28 ?_
            refine lv_iload_n hx hb dX12_widest_31 rfl (lv_at hl 3 rfl) ?_
            refine lv_iload hx hb dX12_widest_32 (lv_at hl 4 rfl) ?_
            refine va_calli (va_runV (As := [.ref (g.2.2 100), .int y3_11, .int y4_20]) (rest := []) ⟨hx, hb, hml, hown, hts⟩ (c_X12_refusesComing_x l g Ty G_20 H.size h0 (g.2.2 100) y3_11 y4_20 k_h0 (hk_7.1) ρ (by rw [(frL_20.2.1 (g.2.2 100) ⟨(ne_kd hmk.1 hmk.2.2.2.1 (by decide)), trivial⟩)]; exact hT) (g.2.2 111) hmk.2.2.2.2.2.2.2.2.2.2.2.2.2.2.2.2.2.2.2.2.1 ((frL_20.2.2 111 (by decide)).trans hI.r111) (by rw [(frL_20.1 113 (by decide))]; exact hI.a113)) (cwV 3 hts (gwV mw_1546 mw_1548 mw_50 mw_88 mw_1549) rfl rfl rfl hv_X12_refusesComing ⟨Nat.le_of_ble_eq_true rfl, Nat.le_of_ble_eq_true rfl⟩) ⟨PcT_blind, hg_recv hK o_c_5 rfl, PcT_pre hK hH⟩ rfl rfl hl.1 rfl (lv_room (Nat.le_of_ble_eq_true rfl)) dX12_widest_34 ⟨Nat.zero_le _, Nat.zero_le _⟩) hS (fun q _ h => AF.mono hS.1 h) (fun q h => AF.mono hS.1 h) (fun x_8 ux_8 t H locs ht hvm hx_8 hB hz hk hS => ?_)
            obtain ⟨hx_8, fx_8⟩ := hx_8
            obtain ⟨eTx_8, eGx_8⟩ := fx_8
            obtain ⟨G_9, eG_9⟩ : ∃ z, z = ux_8.2 := ⟨_, rfl⟩
            rw [← eG_9] at eGx_8
            obtain ⟨hfr_10, hex_11⟩ := eGx_8
            have fr_12 : FR [107, 108, 109, 110, 114, 104, 105] [(g.2.2 115)] [106] G G_9 := FR.tr frL_20 hfr_10 (by decide) (fun b h => ⟨h.1, trivial⟩) (by decide)
            have u_13 : G_9.1 104 = (G_20.1 104) := (hfr_10.1 104 (by decide))
            have u_14 : G_9.1 102 = (G.1 102) := (hfr_10.1 102 (by decide)).trans (frL_20.1 102 (by decide))
            have u_15 : G_9.1 113 = (G.1 113) := (hfr_10.1 113 (by decide)).trans (frL_20.1 113 (by decide))
            have u_16 : G_9.1 122 = (G.1 122) := (hfr_10.1 122 (by decide)).trans (frL_20.1 122 (by decide))
            have u_17 : G_9.1 133 = (G.1 133) := (hfr_10.1 133 (by decide)).trans (frL_20.1 133 (by decide))
            have u_18 : G_9.1 137 = (G.1 137) := (hfr_10.1 137 (by decide)).trans (frL_20.1 137 (by decide))
            have w_19 : G_9.2.1 (g.2.2 100) = (G.2.1 (g.2.2 100)) := (hfr_10.2.1 (g.2.2 100) ⟨(ne_kd hmk.1 hmk.2.2.2.1 (by decide)), trivial⟩).trans (frL_20.2.1 (g.2.2 100) ⟨(ne_kd hmk.1 hmk.2.2.2.1 (by decide)), trivial⟩)
            have w_20 : G_9.2.1 (g.2.2 121) = (G.2.1 (g.2.2 121)) := (hfr_10.2.1 (g.2.2 121) ⟨(ne_kd hmk.2.2.2.2.2.1 hmk.2.2.2.1 (by decide)), trivial⟩).trans (frL_20.2.1 (g.2.2 121) ⟨(ne_kd hmk.2.2.2.2.2.1 hmk.2.2.2.1 (by decide)), trivial⟩)
            have w_21 : G_9.2.1 (g.2.2 140) = (G.2.1 (g.2.2 140)) := (hfr_10.2.1 (g.2.2 140) ⟨(ne_kd hmk.2.2.2.2.2.2.2.2.2.2.2.2.2.2.2.2.2.2.1 hmk.2.2.2.1 (by decide)), trivial⟩).trans (frL_20.2.1 (g.2.2 140) ⟨(ne_kd hmk.2.2.2.2.2.2.2.2.2.2.2.2.2.2.2.2.2.2.1 hmk.2.2.2.1 (by decide)), trivial⟩)
            have w_22 : G_9.2.1 (g.2.2 141) = (G.2.1 (g.2.2 141)) := (hfr_10.2.1 (g.2.2 141) ⟨(ne_kd hmk.2.2.2.2.2.2.2.2.2.2.2.2.2.2.2.2.2.2.2.1 hmk.2.2.2.1 (by decide)), trivial⟩).trans (frL_20.2.1 (g.2.2 141) ⟨(ne_kd hmk.2.2.2.2.2.2.2.2.2.2.2.2.2.2.2.2.2.2.2.1 hmk.2.2.2.1 (by decide)), trivial⟩)
            have w_23 : G_9.2.1 (g.2.2 111) = (G.2.1 (g.2.2 111)) := (hfr_10.2.1 (g.2.2 111) ⟨(ne_kd hmk.2.2.2.2.2.2.2.2.2.2.2.2.2.2.2.2.2.2.2.2.1 hmk.2.2.2.1 (by decide)), trivial⟩).trans (frL_20.2.1 (g.2.2 111) ⟨(ne_kd hmk.2.2.2.2.2.2.2.2.2.2.2.2.2.2.2.2.2.2.2.2.1 hmk.2.2.2.1 (by decide)), trivial⟩)
            have u_24 : G_9.2.2 111 = some (g.2.2 111) := (hfr_10.2.2 111 (by decide)).trans ((frL_20.2.2 111 (by decide)).trans hI.r111)
            have u_25 : G_9.2.2 112 = some (g.2.2 112) := (hfr_10.2.2 112 (by decide)).trans ((frL_20.2.2 112 (by decide)).trans hI.r112)
            have hq_26 : F_X12_refusesComing_x (G.2.1 (g.2.2 100)) (G.2.1 (g.2.2 111)) (G.1 113) y3_11 y4_20 = x_8 := by have q := hex_11; rw [(frL_20.2.1 (g.2.2 100) ⟨(ne_kd hmk.1 hmk.2.2.2.1 (by decide)), trivial⟩), (frL_20.2.1 (g.2.2 111) ⟨(ne_kd hmk.2.2.2.2.2.2.2.2.2.2.2.2.2.2.2.2.2.2.2.2.1 hmk.2.2.2.1 (by decide)), trivial⟩), (frL_20.1 113 (by decide))] at q; exact q
            try rw [hq_26] at hv
            have hH : HT g Ty G_9 H := by rw [← ht, ← eTx_8, eG_9]; exact hB
            have rx_8 : rgI (-9) (0) x_8 := hx_8.1
            have tx_27 := hx_8.2
            try rw [(frL_20.2.1 (g.2.2 100) ⟨(ne_kd hmk.1 hmk.2.2.2.1 (by decide)), trivial⟩)] at tx_27
            try rw [(frL_20.2.1 (g.2.2 111) ⟨(ne_kd hmk.2.2.2.2.2.2.2.2.2.2.2.2.2.2.2.2.2.2.2.2.1 hmk.2.2.2.1 (by decide)), trivial⟩)] at tx_27
            try rw [(frL_20.1 113 (by decide))] at tx_27
            refine lv_if_ge (tgt := 43) hx hb dX12_widest_37 (by decide) (fun c_28 => ?_) (fun c_28 => ?_)
            · rw [if_pos c_28] at hv
              have r_29 : rgI (0) (0) x_8 := rg_w (rg_leR rl_0 rx_8 c_28) (by decide) (by decide)
              have c0_30 := tx_27 (rg_00 rx_8 c_28)
              refine lv_iconst (v := 1) hx hb dX12_widest_43 (by decide) ?_
              refine lv_aload_n hx hb dX12_widest_44 rfl (lv_at hl 0 rfl) ?_
              refine lv_aload_n hx hb dX12_widest_45 rfl (lv_at hl 0 rfl) ?_
              obtain ⟨_, ⟨rfl, t_32, hk_33⟩, o_c_31⟩ := hH h0 _ k_h0
              refine hg_get hx hb hG igX12 hown hK o_c_31 rfl 0 (by decide) (hG _ mw_1284) rfl dX12_widest_46 ?_
              refine lv_iload_n hx hb dX12_widest_49 rfl (lv_at hl 3 rfl) ?_
              refine lv_iload hx hb dX12_widest_50 (lv_at hl 4 rfl) ?_
              refine va_calli (va_runV (As := [.ref (g.2.2 100), .int y3_11, .int y4_20]) (rest := [.int 1]) ⟨hx, hb, hml, hown, hts⟩ (c_X12_hitsOf_x l g Ty G_9 H.size h0 (g.2.2 100) y3_11 y4_20 k_h0 (hk_33.1) ρ (by rw [w_19]; exact hT) (by rw [w_19]; exact c0_30.1) (g.2.2 111) hmk.2.2.2.2.2.2.2.2.2.2.2.2.2.2.2.2.2.2.2.2.1 u_24 (by rw [u_15]; exact hI.a113)) (cwV 3 hts (gwV mw_1554 mw_1556 mw_51 mw_88 mw_1557) rfl rfl rfl hv_X12_hitsOf ⟨Nat.le_of_ble_eq_true rfl, Nat.le_of_ble_eq_true rfl⟩) ⟨PcT_blind, hg_recv hK o_c_31 rfl, PcT_pre hK hH⟩ rfl rfl hl.1 rfl (lv_room (Nat.le_of_ble_eq_true rfl)) dX12_widest_52 ⟨Nat.zero_le _, Nat.zero_le _⟩) hS (fun q _ h => AF.mono hS.1 h) (fun q h => AF.mono hS.1 h) (fun x_34 ux_34 t H locs ht hvm hx_34 hB hz hk hS => ?_)
              obtain ⟨hx_34, fx_34⟩ := hx_34
              obtain ⟨eTx_34, eGx_34⟩ := fx_34
              obtain ⟨G_35, eG_35⟩ : ∃ z, z = ux_34.2 := ⟨_, rfl⟩
              rw [← eG_35] at eGx_34
              obtain ⟨hfr_36, hex_37⟩ := eGx_34
              have fr_38 : FR [107, 108, 109, 110, 114, 104, 105] [(g.2.2 115)] [106] G G_35 := FR.tr fr_12 hfr_36 (by decide) (fun b h => ⟨h.1, trivial⟩) (by decide)
              have u_39 : G_35.1 104 = (G_20.1 104) := (hfr_36.1 104 (by decide)).trans u_13
              have u_40 : G_35.1 102 = (G.1 102) := (hfr_36.1 102 (by decide)).trans u_14
              have u_41 : G_35.1 113 = (G.1 113) := (hfr_36.1 113 (by decide)).trans u_15
              have u_42 : G_35.1 122 = (G.1 122) := (hfr_36.1 122 (by decide)).trans u_16
              have u_43 : G_35.1 133 = (G.1 133) := (hfr_36.1 133 (by decide)).trans u_17
              have u_44 : G_35.1 137 = (G.1 137) := (hfr_36.1 137 (by decide)).trans u_18
              have w_45 : G_35.2.1 (g.2.2 100) = (G.2.1 (g.2.2 100)) := (hfr_36.2.1 (g.2.2 100) ⟨(ne_kd hmk.1 hmk.2.2.2.1 (by decide)), trivial⟩).trans w_19
              have w_46 : G_35.2.1 (g.2.2 121) = (G.2.1 (g.2.2 121)) := (hfr_36.2.1 (g.2.2 121) ⟨(ne_kd hmk.2.2.2.2.2.1 hmk.2.2.2.1 (by decide)), trivial⟩).trans w_20
              have w_47 : G_35.2.1 (g.2.2 140) = (G.2.1 (g.2.2 140)) := (hfr_36.2.1 (g.2.2 140) ⟨(ne_kd hmk.2.2.2.2.2.2.2.2.2.2.2.2.2.2.2.2.2.2.1 hmk.2.2.2.1 (by decide)), trivial⟩).trans w_21
              have w_48 : G_35.2.1 (g.2.2 141) = (G.2.1 (g.2.2 141)) := (hfr_36.2.1 (g.2.2 141) ⟨(ne_kd hmk.2.2.2.2.2.2.2.2.2.2.2.2.2.2.2.2.2.2.2.1 hmk.2.2.2.1 (by decide)), trivial⟩).trans w_22
              have w_49 : G_35.2.1 (g.2.2 111) = (G.2.1 (g.2.2 111)) := (hfr_36.2.1 (g.2.2 111) ⟨(ne_kd hmk.2.2.2.2.2.2.2.2.2.2.2.2.2.2.2.2.2.2.2.2.1 hmk.2.2.2.1 (by decide)), trivial⟩).trans w_23
              have u_50 : G_35.2.2 111 = some (g.2.2 111) := (hfr_36.2.2 111 (by decide)).trans u_24
              have u_51 : G_35.2.2 112 = some (g.2.2 112) := (hfr_36.2.2 112 (by decide)).trans u_25
              have hq_52 : F_X12_hitsOf_x (G.2.1 (g.2.2 100)) (G.2.1 (g.2.2 111)) (G.1 113) y3_11 y4_20 = x_34 := by have q := hex_37; rw [w_19, w_23, u_15] at q; exact q
              try rw [hq_52] at hv
              have hH : HT g Ty G_35 H := by rw [← ht, ← eTx_34, eG_35]; exact hB
              have tx_53 := hx_34.1
              try rw [w_19] at tx_53
              try rw [w_23] at tx_53
              try rw [u_15] at tx_53
              have tx_54 := hx_34.2
              try rw [w_19] at tx_54
              try rw [w_23] at tx_54
              try rw [u_15] at tx_54
              refine vp_callSi (W.runS (As := [.int x_34]) (rest := [.int 1]) ⟨hx, hb, hml, hown, hts⟩ (c_J6_bitCount_x l g Ty G_35 x_34 ) (cwSx 1 hts hG (gwC mw_620) mw_99 mw_1553 mw_619 rfl rfl rfl hd_J6_bitCount_0f7a4 ⟨Nat.le_of_ble_eq_true rfl, Nat.le_of_ble_eq_true rfl⟩) ⟨PcH_blind, PcH_pre hK hH⟩ rfl rfl hl.1 rfl (lv_room (Nat.le_of_ble_eq_true rfl)) dX12_widest_55 ⟨Nat.zero_le _, Nat.zero_le _⟩) (fun x_55 hx_55 => ?_)
              have rx_55 : rgI (0) (63) x_55 := hx_55.1
              try rw [← hx_55.2] at hv
              try rw [← hx_55.2] at hv
              refine lv_iadd hx hb dX12_widest_58 ?_
              refine lv_topi (fun x_56 ex_56 => ?_)
              try rw [← ex_56] at hv
              have rx_56 : rgI (1) (64) x_56 := by rw [ex_56]; exact rg_w (rg_add rl_1 rx_55 (by decide) (by decide)) (by decide) (by decide)
              refine lv_istore (lv' := [(5, .int x_56), (0, .ref h0), (1, .int y1_20), (2, .int y2_20), (3, .int y3_11), (4, .int y4_20)]) hx hb dX12_widest_59 hl (by decide) rfl (fun ls hl => ?_)
              refine lv_iload hx hb dX12_widest_61 (lv_at hl 0 rfl) ?_
              refine lv_iload_n hx hb dX12_widest_63 rfl (lv_at hl 3 rfl) ?_
              refine lv_icmp_gt (tgt := 70) hx hb dX12_widest_64 (by decide) (fun c_57 => ?_) (fun c_57 => ?_)
              · rw [if_pos c_57] at hv
                have r_58 : rgI (0) (63) y2_20 := rg_w (rg_ltL ry2_20 rx_56 c_57) (by decide) (by decide)
                refine lv_bipush (v := 10) hx hb dX12_widest_70 (by decide) ?_
                refine lv_iload_n hx hb dX12_widest_72 rfl (lv_at hl 4 rfl) ?_
                refine lv_imul hx hb dX12_widest_73 ?_
                refine lv_topi (fun x_59 ex_59 => ?_)
                try rw [← ex_59] at hv
                have rx_59 : rgI (0) (230) x_59 := by rw [ex_59]; exact rg_w (rg_mul rl_10 ry3_20 (by decide) (by decide) (by decide)) (by decide) (by decide)
                refine lv_iload hx hb dX12_widest_74 (lv_at hl 5 rfl) ?_
                refine lv_iadd hx hb dX12_widest_76 ?_
                refine lv_topi (fun x_60 ex_60 => ?_)
                try rw [← ex_60] at hv
                have rx_60 : rgI (0) (233) x_60 := by rw [ex_60]; exact rg_w (rg_add rx_59 r_4 (by decide) (by decide)) (by decide) (by decide)
                refine lv_istore_n (lv' := [(1, .int x_60), (5, .int x_56), (0, .ref h0), (2, .int y2_20), (3, .int y3_11), (4, .int y4_20)]) hx hb dX12_widest_77 rfl hl (by decide) rfl (fun ls hl => ?_)
                refine lv_iload hx hb dX12_widest_78 (lv_at hl 1 rfl) ?_
                refine lv_istore_n (lv' := [(2, .int x_56), (1, .int x_60), (5, .int x_56), (0, .ref h0), (3, .int y3_11), (4, .int y4_20)]) hx hb dX12_widest_80 rfl hl (by decide) rfl (fun ls hl => ?_)
                obtain ⟨x_61, ex_61⟩ : ∃ y : Int32, y = y4_20 + 1 := ⟨_, rfl⟩
                try rw [← ex_61] at hv
                have rx_61 : rgI (1) (4) x_61 := by rw [ex_61]; exact rg_w (rg_add r_4 rl_1 (by decide) (by decide)) (by decide) (by decide)
                have qx_61 : x_61.toInt = (y4_20 : Int32).toInt + 1 := by rw [ex_61]; exact rg_addE r_4 rl_1 (by decide) (by decide)
                refine lv_iinc (v := x_61) (lv' := [(4, .int x_61), (2, .int x_56), (1, .int x_60), (5, .int x_56), (0, .ref h0), (3, .int y3_11)]) hx hb dX12_widest_81 hl (k := 5) rfl (by rw [ex_61]; rfl) (by decide) rfl (fun ls hl => ?_)
                refine lv_goto (tgt := 20) hx hb dX12_widest_84 (by decide) ?_
                exact ih_20 H locs G_35 x_60 x_56 x_61 ls (by rw [u_39]; exact rg_w rg104_20 (by decide) (by decide)) fr_38 (rg_w rx_60 (by decide) (by decide)) (rg_w rx_56 (by decide) (by decide)) ry3_20 (rg_w rx_61 (by decide) (by decide)) (by have h1 := qx_61; have h2 := r_4.1; have h3 := r_4.2; have h4 := hm_20; omega) (lv_sub hl [4, 2, 1, 5, 0] rfl) hv hH hS
              · rw [if_neg c_57] at hv
                have r_62 : rgI (1) (64) y2_20 := rg_w (rg_leR rx_56 ry2_20 (nlt_le c_57)) (by decide) (by decide)
                refine lv_goto (tgt := 81) hx hb dX12_widest_67 (by decide) ?_
                obtain ⟨x_63, ex_63⟩ : ∃ y : Int32, y = y4_20 + 1 := ⟨_, rfl⟩
                try rw [← ex_63] at hv
                have rx_63 : rgI (1) (4) x_63 := by rw [ex_63]; exact rg_w (rg_add r_4 rl_1 (by decide) (by decide)) (by decide) (by decide)
                have qx_63 : x_63.toInt = (y4_20 : Int32).toInt + 1 := by rw [ex_63]; exact rg_addE r_4 rl_1 (by decide) (by decide)
                refine lv_iinc (v := x_63) (lv' := [(4, .int x_63), (5, .int x_56), (0, .ref h0), (1, .int y1_20), (2, .int y2_20), (3, .int y3_11)]) hx hb dX12_widest_81 hl (k := 5) rfl (by rw [ex_63]; rfl) (by decide) rfl (fun ls hl => ?_)
                refine lv_goto (tgt := 20) hx hb dX12_widest_84 (by decide) ?_
                exact ih_20 H locs G_35 y1_20 y2_20 x_63 ls (by rw [u_39]; exact rg_w rg104_20 (by decide) (by decide)) fr_38 ry1_20 (rg_w r_62 (by decide) (by decide)) ry3_20 (rg_w rx_63 (by decide) (by decide)) (by have h1 := qx_63; have h2 := r_4.1; have h3 := r_4.2; have h4 := hm_20; omega) (lv_sub hl [2, 3, 4, 5, 0] rfl) hv hH hS
            · rw [if_neg c_28] at hv
              have r_64 : rgI (-9) (-1) x_8 := rg_w (rg_ltL rx_8 rl_0 (nle_lt c_28)) (by decide) (by decide)
              refine lv_goto (tgt := 81) hx hb dX12_widest_40 (by decide) ?_
              obtain ⟨x_65, ex_65⟩ : ∃ y : Int32, y = y4_20 + 1 := ⟨_, rfl⟩
              try rw [← ex_65] at hv
              have rx_65 : rgI (1) (4) x_65 := by rw [ex_65]; exact rg_w (rg_add r_4 rl_1 (by decide) (by decide)) (by decide) (by decide)
              have qx_65 : x_65.toInt = (y4_20 : Int32).toInt + 1 := by rw [ex_65]; exact rg_addE r_4 rl_1 (by decide) (by decide)
              refine lv_iinc (v := x_65) (lv' := [(4, .int x_65), (0, .ref h0), (1, .int y1_20), (2, .int y2_20), (3, .int y3_11)]) hx hb dX12_widest_81 hl (k := 4) rfl (by rw [ex_65]; rfl) (by decide) rfl (fun ls hl => ?_)
              refine lv_goto (tgt := 20) hx hb dX12_widest_84 (by decide) ?_
              exact ih_20 H locs G_9 y1_20 y2_20 x_65 ls (by rw [u_13]; exact rg_w rg104_20 (by decide) (by decide)) fr_12 ry1_20 ry2_20 ry3_20 (rg_w rx_65 (by decide) (by decide)) (by have h1 := qx_65; have h2 := r_4.1; have h3 := r_4.2; have h4 := hm_20; omega) (lv_sub hl [1, 2, 3, 4, 0] rfl) hv hH hS
      rw [F_X12_widest_x_11] at hv
      refine lv_iload_n hx hb dX12_widest_11 rfl (lv_at hl 3 rfl) ?_
      refine lv_bipush (v := 24) hx hb dX12_widest_12 (by decide) ?_
      refine lv_icmp_ge (tgt := 93) hx hb dX12_widest_14 (by decide) (fun c_66 => ?_) (fun c_66 => ?_)
      · rw [if_pos c_66] at hv
        have r_67 : rgI (24) (24) y3_11 := rg_w (rg_leR rl_24 ry3_11 c_66) (by decide) (by decide)
        rw [tu2_eq] at hv
        refine lv_iload_n hx hb dX12_widest_93 rfl (lv_at hl 1 rfl) ?_
        refine lv_iconst (v := (-1)) hx hb dX12_widest_94 (by decide) ?_
        refine lv_icmp_ne (tgt := 101) hx hb dX12_widest_95 (by decide) (fun c_68 => ?_) (fun c_68 => ?_)
        · rw [if_neg c_68] at hv
          have r_69 : rgI (0) (2147483647) y1_11 := rg_w (rg_neL ry1_11 rl_m1 c_68) (by decide) (by decide)
          refine lv_aload_n hx hb dX12_widest_101 rfl (lv_at hl 0 rfl) ?_
          refine lv_iconst (v := 0) hx hb dX12_widest_102 (by decide) ?_
          obtain ⟨_, ⟨rfl, t_71, hk_72⟩, o_c_70⟩ := hH h0 _ k_h0
          refine hg_put (ty := .int) hx hb hG igX12 tyX12 tyX12_ok nmX12 hown hK hS o_c_70 (AF.of k_h0) rfl 4 (by decide) (hG _ mw_1288) rfl (by decide +kernel) rfl rfl (Nat.le_of_ble_eq_true rfl) dX12_widest_103 (fun H locs o_c_70 hz oq hS => ?_)
          obtain ⟨G_73, eG_73⟩ : ∃ z : Gh, z = gset G_11 104 0 := ⟨_, rfl⟩
          have hH : HT g Ty G_73 H := by rw [eG_73]; exact HT.putN 104 0 hH k_h0 ⟨rfl, t_71, hk_72⟩ o_c_70 oq (Or.inr (Or.inr (Or.inr (Or.inr (Or.inr ⟨by decide, t_71⟩)))))
          have fr_74 : FR [107, 108, 109, 110, 114, 104, 105] [(g.2.2 115)] [106] G G_73 := FR.n frL_11 eG_73 (by decide)
          have u_75 : G_73.1 102 = (G.1 102) := by rw [eG_73]; exact (gs_ne (by decide)).trans (frL_11.1 102 (by decide))
          have u_76 : G_73.1 113 = (G.1 113) := by rw [eG_73]; exact (gs_ne (by decide)).trans (frL_11.1 113 (by decide))
          have u_77 : G_73.1 122 = (G.1 122) := by rw [eG_73]; exact (gs_ne (by decide)).trans (frL_11.1 122 (by decide))
          have u_78 : G_73.1 133 = (G.1 133) := by rw [eG_73]; exact (gs_ne (by decide)).trans (frL_11.1 133 (by decide))
          have u_79 : G_73.1 137 = (G.1 137) := by rw [eG_73]; exact (gs_ne (by decide)).trans (frL_11.1 137 (by decide))
          have u_80 : G_73.1 104 = 0 := by rw [eG_73]; exact gs_eq
          have w_81 : G_73.2.1 (g.2.2 100) = (G.2.1 (g.2.2 100)) := by rw [eG_73]; exact (frL_11.2.1 (g.2.2 100) ⟨(ne_kd hmk.1 hmk.2.2.2.1 (by decide)), trivial⟩)
          have w_82 : G_73.2.1 (g.2.2 121) = (G.2.1 (g.2.2 121)) := by rw [eG_73]; exact (frL_11.2.1 (g.2.2 121) ⟨(ne_kd hmk.2.2.2.2.2.1 hmk.2.2.2.1 (by decide)), trivial⟩)
          have w_83 : G_73.2.1 (g.2.2 140) = (G.2.1 (g.2.2 140)) := by rw [eG_73]; exact (frL_11.2.1 (g.2.2 140) ⟨(ne_kd hmk.2.2.2.2.2.2.2.2.2.2.2.2.2.2.2.2.2.2.1 hmk.2.2.2.1 (by decide)), trivial⟩)
          have w_84 : G_73.2.1 (g.2.2 141) = (G.2.1 (g.2.2 141)) := by rw [eG_73]; exact (frL_11.2.1 (g.2.2 141) ⟨(ne_kd hmk.2.2.2.2.2.2.2.2.2.2.2.2.2.2.2.2.2.2.2.1 hmk.2.2.2.1 (by decide)), trivial⟩)
          have w_85 : G_73.2.1 (g.2.2 111) = (G.2.1 (g.2.2 111)) := by rw [eG_73]; exact (frL_11.2.1 (g.2.2 111) ⟨(ne_kd hmk.2.2.2.2.2.2.2.2.2.2.2.2.2.2.2.2.2.2.2.2.1 hmk.2.2.2.1 (by decide)), trivial⟩)
          have u_86 : G_73.2.2 111 = some (g.2.2 111) := by rw [eG_73]; exact ((frL_11.2.2 111 (by decide)).trans hI.r111)
          have u_87 : G_73.2.2 112 = some (g.2.2 112) := by rw [eG_73]; exact ((frL_11.2.2 112 (by decide)).trans hI.r112)
          clear oq hz
          refine lv_aload_n hx hb dX12_widest_106 rfl (lv_at hl 0 rfl) ?_
          refine lv_iload_n hx hb dX12_widest_107 rfl (lv_at hl 2 rfl) ?_
          refine lv_i2l hx hb dX12_widest_108 rfl ?_
          refine lv_topl (fun u_88 eu_88 => ?_)
          obtain ⟨_, ⟨rfl, t_90, hk_91⟩, o_c_89⟩ := hH h0 _ k_h0
          refine va_callv (va_runV (As := [.long u_88]) (rest := []) ⟨hx, hb, hml, hown, hts⟩ (c_X12_tell l g Ty G_73 H.size h0 u_88 k_h0 (by rw [u_80]; exact rg_w rl_0 (by decide) (by decide))) (cwV 1 hts (gwV mw_1510 mw_1512 mw_48 mw_88 mw_1513) rfl rfl rfl hv_X12_tell ⟨Nat.le_of_ble_eq_true rfl, Nat.le_of_ble_eq_true rfl⟩) ⟨PcT_blind, hg_recv hK o_c_89 rfl, PcT_pre hK hH⟩ rfl rfl hl.1 rfl (lv_room (Nat.le_of_ble_eq_true rfl)) dX12_widest_109 ⟨Nat.zero_le _, Nat.zero_le _⟩) hS (fun q _ h => AF.mono hS.1 h) (fun q h => AF.mono hS.1 h) (fun ux_92 t H locs ht hvm hx_92 hB hz hk hS => ?_)
          obtain ⟨eTx_92, eGx_92⟩ := hx_92
          obtain ⟨G_93, eG_93⟩ : ∃ z, z = ux_92.2 := ⟨_, rfl⟩
          rw [← eG_93] at eGx_92
          obtain ⟨x_94, ex_94⟩ : ∃ z : Int32, z = 0 + 1 := ⟨_, rfl⟩
          have e_95 : G_93 = gset G_73 104 x_94 := by rw [ex_94, ← u_80]; exact eGx_92
          have rx_94 : rgI (1) (1) x_94 := by rw [ex_94]; exact rg_w (rg_add rl_0 rl_1 (by decide) (by decide)) (by decide) (by decide)
          have fr_96 : FR [107, 108, 109, 110, 114, 104, 105] [(g.2.2 115)] [106] G G_93 := FR.n fr_74 e_95 (by decide)
          have u_97 : G_93.1 102 = (G.1 102) := by rw [e_95]; exact (gs_ne (by decide)).trans u_75
          have u_98 : G_93.1 113 = (G.1 113) := by rw [e_95]; exact (gs_ne (by decide)).trans u_76
          have u_99 : G_93.1 122 = (G.1 122) := by rw [e_95]; exact (gs_ne (by decide)).trans u_77
          have u_100 : G_93.1 133 = (G.1 133) := by rw [e_95]; exact (gs_ne (by decide)).trans u_78
          have u_101 : G_93.1 137 = (G.1 137) := by rw [e_95]; exact (gs_ne (by decide)).trans u_79
          have u_102 : G_93.1 104 = x_94 := by rw [e_95]; exact gs_eq
          have w_103 : G_93.2.1 (g.2.2 100) = (G.2.1 (g.2.2 100)) := by rw [e_95]; exact w_81
          have w_104 : G_93.2.1 (g.2.2 121) = (G.2.1 (g.2.2 121)) := by rw [e_95]; exact w_82
          have w_105 : G_93.2.1 (g.2.2 140) = (G.2.1 (g.2.2 140)) := by rw [e_95]; exact w_83
          have w_106 : G_93.2.1 (g.2.2 141) = (G.2.1 (g.2.2 141)) := by rw [e_95]; exact w_84
          have w_107 : G_93.2.1 (g.2.2 111) = (G.2.1 (g.2.2 111)) := by rw [e_95]; exact w_85
          have u_108 : G_93.2.2 111 = some (g.2.2 111) := by rw [e_95]; exact u_86
          have u_109 : G_93.2.2 112 = some (g.2.2 112) := by rw [e_95]; exact u_87
          have hH : HT g Ty G_93 H := by rw [← ht, ← eTx_92, eG_93]; exact hB
          refine lv_iload_n hx hb dX12_widest_112 rfl (lv_at hl 1 rfl) ?_
          exact W.iret hx hb hr (fun t ht hWm => ⟨⟨y1_11, (Ty, G_93), rfl, ⟨rfl, ⟨fr_96, ⟨⟨(by rw [u_97]; exact (rg_w hI.a102 (by decide) (by decide))), (by rw [u_102]; exact (rg_w rx_94 (by decide) (by decide))), (by rw [u_98]; exact (rg_w hI.a113 (by decide) (by decide))), (by rw [u_99]; exact (rg_w hI.a122 (by decide) (by decide))), (by rw [u_100]; exact (rg_w hI.a133 (by decide) (by decide))), (by rw [u_101]; exact (rg_w hI.a137 (by decide) (by decide))), u_108, u_109, (by rw [w_103]; exact (hI.ti.hi (show Bd ≤ Bd + 1000 by omega))), (hI.un2 (show Bd ≤ Bd + 1000 by omega) w_104 u_99), (hI.ke2 (show Bd ≤ Bd + 1000 by omega) w_105 w_106)⟩, hv.symm⟩⟩⟩, by show HT g Ty G_93 t.heap; rw [ht]; exact hH⟩, hS.F ht⟩) hS.2.2 dX12_widest_113
        · rw [if_pos c_68] at hv
          have r_110 : rgI (-1) (-1) y1_11 := rg_w (rg_eq rl_m1 c_68) (by decide) (by decide)
          refine lv_bipush (v := (-2)) hx hb dX12_widest_98 (by decide) ?_
          exact W.iret hx hb hr (fun t ht hWm => ⟨⟨(-2), (Ty, G_11), rfl, ⟨rfl, ⟨frL_11, ⟨⟨(by rw [(frL_11.1 102 (by decide))]; exact (rg_w hI.a102 (by decide) (by decide))), (rg_w rg104_11 (by decide) (by decide)), (by rw [(frL_11.1 113 (by decide))]; exact (rg_w hI.a113 (by decide) (by decide))), (by rw [(frL_11.1 122 (by decide))]; exact (rg_w hI.a122 (by decide) (by decide))), (by rw [(frL_11.1 133 (by decide))]; exact (rg_w hI.a133 (by decide) (by decide))), (by rw [(frL_11.1 137 (by decide))]; exact (rg_w hI.a137 (by decide) (by decide))), ((frL_11.2.2 111 (by decide)).trans hI.r111), ((frL_11.2.2 112 (by decide)).trans hI.r112), (by rw [(frL_11.2.1 (g.2.2 100) ⟨(ne_kd hmk.1 hmk.2.2.2.1 (by decide)), trivial⟩)]; exact (hI.ti.hi (show Bd ≤ Bd + 1000 by omega))), (hI.un2 (show Bd ≤ Bd + 1000 by omega) (frL_11.2.1 (g.2.2 121) ⟨(ne_kd hmk.2.2.2.2.2.1 hmk.2.2.2.1 (by decide)), trivial⟩) (frL_11.1 122 (by decide))), (hI.ke2 (show Bd ≤ Bd + 1000 by omega) (frL_11.2.1 (g.2.2 140) ⟨(ne_kd hmk.2.2.2.2.2.2.2.2.2.2.2.2.2.2.2.2.2.2.1 hmk.2.2.2.1 (by decide)), trivial⟩) (frL_11.2.1 (g.2.2 141) ⟨(ne_kd hmk.2.2.2.2.2.2.2.2.2.2.2.2.2.2.2.2.2.2.2.1 hmk.2.2.2.1 (by decide)), trivial⟩))⟩, hv.symm⟩⟩⟩, by show HT g Ty G_11 t.heap; rw [ht]; exact hH⟩, hS.F ht⟩) hS.2.2 dX12_widest_100
      · rw [if_neg c_66] at hv
        have r_111 : rgI (0) (23) y3_11 := rg_w (rg_ltL ry3_11 rl_24 (nle_lt c_66)) (by decide) (by decide)
        refine lv_iconst (v := 0) hx hb dX12_widest_17 (by decide) ?_
        refine lv_istore (lv' := [(4, .int 0), (0, .ref h0), (1, .int y1_11), (2, .int y2_11), (3, .int y3_11)]) hx hb dX12_widest_18 hl (by decide) rfl (fun ls hl => ?_)
        exact L_20 6 H locs G_11 y1_11 y2_11 0 ls (rg_w rg104_11 (by decide) (by decide)) frL_11 ry1_11 ry2_11 r_111 (rg_w rl_0 (by decide) (by decide)) (by decide) (lv_sub hl [1, 2, 3, 4, 0] rfl) hv hH hS
  refine lv_aload_n hx hb dX12_widest_0 rfl (lv_at hl 0 rfl) ?_
  refine lv_iconst (v := 0) hx hb dX12_widest_1 (by decide) ?_
  obtain ⟨_, ⟨rfl, t_113, hk_114⟩, o_c_112⟩ := hH h0 _ k_h0
  refine hg_put (ty := .int) hx hb hG igX12 tyX12 tyX12_ok nmX12 hown hK hS o_c_112 (AF.of k_h0) rfl 5 (by decide) (hG _ mw_1289) rfl (by decide +kernel) rfl rfl (Nat.le_of_ble_eq_true rfl) dX12_widest_2 (fun H locs o_c_112 hz oq hS => ?_)
  obtain ⟨G_115, eG_115⟩ : ∃ z : Gh, z = gset G 105 0 := ⟨_, rfl⟩
  have hH : HT g Ty G_115 H := by rw [eG_115]; exact HT.putN 105 0 hH k_h0 ⟨rfl, t_113, hk_114⟩ o_c_112 oq (Or.inr (Or.inr (Or.inr (Or.inr (Or.inr ⟨by decide, t_113⟩)))))
  have fr_116 : FR [107, 108, 109, 110, 114, 104, 105] [(g.2.2 115)] [106] G G_115 := FR.n FR.rf eG_115 (by decide)
  have u_117 : G_115.1 102 = (G.1 102) := by rw [eG_115]; exact (gs_ne (by decide))
  have u_118 : G_115.1 104 = (G.1 104) := by rw [eG_115]; exact (gs_ne (by decide))
  have u_119 : G_115.1 113 = (G.1 113) := by rw [eG_115]; exact (gs_ne (by decide))
  have u_120 : G_115.1 122 = (G.1 122) := by rw [eG_115]; exact (gs_ne (by decide))
  have u_121 : G_115.1 133 = (G.1 133) := by rw [eG_115]; exact (gs_ne (by decide))
  have u_122 : G_115.1 137 = (G.1 137) := by rw [eG_115]; exact (gs_ne (by decide))
  have u_123 : G_115.1 105 = 0 := by rw [eG_115]; exact gs_eq
  have w_124 : G_115.2.1 (g.2.2 100) = (G.2.1 (g.2.2 100)) := by rw [eG_115]; exact rfl
  have w_125 : G_115.2.1 (g.2.2 121) = (G.2.1 (g.2.2 121)) := by rw [eG_115]; exact rfl
  have w_126 : G_115.2.1 (g.2.2 140) = (G.2.1 (g.2.2 140)) := by rw [eG_115]; exact rfl
  have w_127 : G_115.2.1 (g.2.2 141) = (G.2.1 (g.2.2 141)) := by rw [eG_115]; exact rfl
  have w_128 : G_115.2.1 (g.2.2 111) = (G.2.1 (g.2.2 111)) := by rw [eG_115]; exact rfl
  have u_129 : G_115.2.2 111 = some (g.2.2 111) := by rw [eG_115]; exact hI.r111
  have u_130 : G_115.2.2 112 = some (g.2.2 112) := by rw [eG_115]; exact hI.r112
  clear oq hz
  refine lv_iconst (v := (-1)) hx hb dX12_widest_5 (by decide) ?_
  refine lv_istore_n (lv' := [(1, .int (-1)), (0, .ref h0)]) hx hb dX12_widest_6 rfl hl (by decide) rfl (fun ls hl => ?_)
  refine lv_iconst (v := 0) hx hb dX12_widest_7 (by decide) ?_
  refine lv_istore_n (lv' := [(2, .int 0), (1, .int (-1)), (0, .ref h0)]) hx hb dX12_widest_8 rfl hl (by decide) rfl (fun ls hl => ?_)
  refine lv_iconst (v := 0) hx hb dX12_widest_9 (by decide) ?_
  refine lv_istore_n (lv' := [(3, .int 0), (2, .int 0), (1, .int (-1)), (0, .ref h0)]) hx hb dX12_widest_10 rfl hl (by decide) rfl (fun ls hl => ?_)
  exact L_11 26 H locs G_115 (-1) 0 0 ls (by rw [u_118]; exact rg_w hI.a104 (by decide) (by decide)) fr_116 (rg_w rl_m1 (by decide) (by decide)) (rg_w rl_0 (by decide) (by decide)) (rg_w rl_0 (by decide) (by decide)) (by decide) (lv_sub hl [3, 2, 1, 0] rfl) hv hH hS

def F_X12_mounts_x (r0 : Nat → Int32) (r1 : Nat → Int32) (r2 : Nat → Int32) (r3 : Nat → Int32) (m113 : Int32) (m127 : Int32) (a0 : Int32) (a1 : Int32) : Int32 × (Nat → Int32) × (Nat → Int32) × (Nat → Int32) × Int32 := (if (0 : Int32) ≤ (F_X12_refusesComing_x r0 r1 m113 a0 a1) then (tu5 (F_X12_goClone_x r0 r1 r2 r3 m113 m127 (24 : Int32) a0 a1) (fun z6 z7 z8 z9 z10 => ((F_X12_tellCame_x z6), z7, z8, z9, z10))) else ((F_X12_refusesComing_x r0 r1 m113 a0 a1), r0, r2, r3, m127))
set_option maxHeartbeats 4000000 in
set_option maxRecDepth 100000 in
theorem c_X12_mounts_x (l : Launch) (g : Gx) (Ty : TyM) (G : Gh) (sz : Nat) (h0 : Nat) (a0 : Int32) (a1 : Int32) (k_h0 : Ty h0 = some (22, 0)) (Bd : Int) (hI : OI g Bd G) (hBd : Bd ≤ 1900000) (hLD : LD g) : Met l yX12_mounts (wsG yX12_mounts cX12_mounts 4 (some .int)) ({ frames := 341, cells := 0, slots := 0, locals := 8001 }) (PcT g Ty G sz [.ref h0, .int a0, .int a1]) (QwI g Ty sz (fun r u => u.1 = Ty ∧ FR [107, 108, 109, 110, 114, 127, 128, 104, 105, 122] [(g.2.2 100), (g.2.2 115), (g.2.2 125), (g.2.2 126), (g.2.2 121)] [106] G u.2 ∧ OI g (Bd + 1000) u.2 ∧ F_X12_mounts_x (G.2.1 (g.2.2 100)) (G.2.1 (g.2.2 111)) (G.2.1 (g.2.2 125)) (G.2.1 (g.2.2 126)) (G.1 113) (G.1 127) a0 a1 = (r, (u.2.2.1 (g.2.2 100)), (u.2.2.1 (g.2.2 125)), (u.2.2.1 (g.2.2 126)), (u.2.1 127)))) 0 0 (AF Ty sz) := by
  refine Met.ofW (cc := cX12_mounts) (maxL := 4) (ret := (some .int)) (by decide) rfl ?_
  intro p e s m args below meth c s₁ B hml hv
  obtain ⟨rfl, hsz, hK, hH⟩ := hv
  subst hsz
  have hx := B.exec
  have hb := B.bytes
  have hr := B.returns
  have hts := atoms_spec (ws := (wsG yX12_mounts cX12_mounts 4 (some .int))) B.pre
  have hG : ∀ w ∈ GW, w.before ([.ref h0, .int a0, .int a1] : List Value).toArray s = true := fun w h => hts w (List.mem_cons_of_mem _ h)
  have hown : s.vm.findClass RX12 = some m.cls := findClass_of_methodNamed B.named
  have hlocks := B.notSynchronized
  have hl := lv_entry [.ref h0, .int a0, .int a1] (n := 4) (Nat.le_of_ble_eq_true rfl)
  rw [lg_entry_eq]
  generalize (lg_sl [.ref h0, .int a0, .int a1] ++ List.replicate (4 - (lg_sl [.ref h0, .int a0, .int a1]).length) Slot.unset).toArray = ls at hl ⊢
  have hl : lv_has ls 4 [(0, .ref h0), (1, .int a0), (2, .int a1)] := hl
  have hmk : mdK g Ty := mdk_of hH k_h0
  have hv : (if (0 : Int32) ≤ (F_X12_refusesComing_x (G.2.1 (g.2.2 100)) (G.2.1 (g.2.2 111)) (G.1 113) a0 a1) then (tu5 (F_X12_goClone_x (G.2.1 (g.2.2 100)) (G.2.1 (g.2.2 111)) (G.2.1 (g.2.2 125)) (G.2.1 (g.2.2 126)) (G.1 113) (G.1 127) (24 : Int32) a0 a1) (fun z1 z2 z3 z4 z5 => ((F_X12_tellCame_x z1), z2, z3, z4, z5))) else ((F_X12_refusesComing_x (G.2.1 (g.2.2 100)) (G.2.1 (g.2.2 111)) (G.1 113) a0 a1), (G.2.1 (g.2.2 100)), (G.2.1 (g.2.2 125)), (G.2.1 (g.2.2 126)), (G.1 127))) = F_X12_mounts_x (G.2.1 (g.2.2 100)) (G.2.1 (g.2.2 111)) (G.2.1 (g.2.2 125)) (G.2.1 (g.2.2 126)) (G.1 113) (G.1 127) a0 a1 := rfl
  have hS : va_S (AF Ty s.heap.size) s.heap s.heap [] := va_S.rf
  obtain ⟨⟨σ0, hTS0⟩, h10, hBB0⟩ := id hI.ti
  obtain ⟨ρ, hT⟩ := hTS0.1
  refine lv_aload_n hx hb dX12_mounts_0 rfl (lv_at hl 0 rfl) ?_
  refine lv_iconst (v := 0) hx hb dX12_mounts_1 (by decide) ?_
  obtain ⟨_, ⟨rfl, t_2, hk_3⟩, o_c_1⟩ := hH h0 _ k_h0
  refine hg_put (ty := .int) hx hb hG igX12 tyX12 tyX12_ok nmX12 hown hK hS o_c_1 (AF.of k_h0) rfl 5 (by decide) (hG _ mw_1289) rfl (by decide +kernel) rfl rfl (Nat.le_of_ble_eq_true rfl) dX12_mounts_2 (fun H locs o_c_1 hz oq hS => ?_)
  obtain ⟨G_4, eG_4⟩ : ∃ z : Gh, z = gset G 105 0 := ⟨_, rfl⟩
  have hH : HT g Ty G_4 H := by rw [eG_4]; exact HT.putN 105 0 hH k_h0 ⟨rfl, t_2, hk_3⟩ o_c_1 oq (Or.inr (Or.inr (Or.inr (Or.inr (Or.inr ⟨by decide, t_2⟩)))))
  have fr_5 : FR [107, 108, 109, 110, 114, 127, 128, 104, 105, 122] [(g.2.2 100), (g.2.2 115), (g.2.2 125), (g.2.2 126), (g.2.2 121)] [106] G G_4 := FR.n FR.rf eG_4 (by decide)
  have u_6 : G_4.1 102 = (G.1 102) := by rw [eG_4]; exact (gs_ne (by decide))
  have u_7 : G_4.1 104 = (G.1 104) := by rw [eG_4]; exact (gs_ne (by decide))
  have u_8 : G_4.1 113 = (G.1 113) := by rw [eG_4]; exact (gs_ne (by decide))
  have u_9 : G_4.1 122 = (G.1 122) := by rw [eG_4]; exact (gs_ne (by decide))
  have u_10 : G_4.1 133 = (G.1 133) := by rw [eG_4]; exact (gs_ne (by decide))
  have u_11 : G_4.1 137 = (G.1 137) := by rw [eG_4]; exact (gs_ne (by decide))
  have u_12 : G_4.1 127 = (G.1 127) := by rw [eG_4]; exact (gs_ne (by decide))
  have u_13 : G_4.1 105 = 0 := by rw [eG_4]; exact gs_eq
  have w_14 : G_4.2.1 (g.2.2 100) = (G.2.1 (g.2.2 100)) := by rw [eG_4]; exact rfl
  have w_15 : G_4.2.1 (g.2.2 121) = (G.2.1 (g.2.2 121)) := by rw [eG_4]; exact rfl
  have w_16 : G_4.2.1 (g.2.2 140) = (G.2.1 (g.2.2 140)) := by rw [eG_4]; exact rfl
  have w_17 : G_4.2.1 (g.2.2 141) = (G.2.1 (g.2.2 141)) := by rw [eG_4]; exact rfl
  have w_18 : G_4.2.1 (g.2.2 111) = (G.2.1 (g.2.2 111)) := by rw [eG_4]; exact rfl
  have w_19 : G_4.2.1 (g.2.2 125) = (G.2.1 (g.2.2 125)) := by rw [eG_4]; exact rfl
  have w_20 : G_4.2.1 (g.2.2 126) = (G.2.1 (g.2.2 126)) := by rw [eG_4]; exact rfl
  have u_21 : G_4.2.2 111 = some (g.2.2 111) := by rw [eG_4]; exact hI.r111
  have u_22 : G_4.2.2 112 = some (g.2.2 112) := by rw [eG_4]; exact hI.r112
  clear oq hz
  refine lv_aload_n hx hb dX12_mounts_5 rfl (lv_at hl 0 rfl) ?_
  refine lv_aload_n hx hb dX12_mounts_6 rfl (lv_at hl 0 rfl) ?_
  obtain ⟨_, ⟨rfl, t_24, hk_25⟩, o_c_23⟩ := hH h0 _ k_h0
  refine hg_get hx hb hG igX12 hown hK o_c_23 rfl 0 (by decide) (hG _ mw_1284) rfl dX12_mounts_7 ?_
  refine lv_iload_n hx hb dX12_mounts_10 rfl (lv_at hl 1 rfl) ?_
  refine lv_iload_n hx hb dX12_mounts_11 rfl (lv_at hl 2 rfl) ?_
  refine va_calli (va_runV (As := [.ref (g.2.2 100), .int a0, .int a1]) (rest := []) ⟨hx, hb, hml, hown, hts⟩ (c_X12_refusesComing_x l g Ty G_4 H.size h0 (g.2.2 100) a0 a1 k_h0 (hk_25.1) ρ (by rw [w_14]; exact hT) (g.2.2 111) hmk.2.2.2.2.2.2.2.2.2.2.2.2.2.2.2.2.2.2.2.2.1 u_21 (by rw [u_8]; exact hI.a113)) (cwV 3 hts (gwV mw_1546 mw_1548 mw_50 mw_88 mw_1549) rfl rfl rfl hv_X12_refusesComing ⟨Nat.le_of_ble_eq_true rfl, Nat.le_of_ble_eq_true rfl⟩) ⟨PcT_blind, hg_recv hK o_c_23 rfl, PcT_pre hK hH⟩ rfl rfl hl.1 rfl (lv_room (Nat.le_of_ble_eq_true rfl)) dX12_mounts_12 ⟨Nat.zero_le _, Nat.zero_le _⟩) hS (fun q _ h => AF.mono hS.1 h) (fun q h => AF.mono hS.1 h) (fun x_26 ux_26 t H locs ht hvm hx_26 hB hz hk hS => ?_)
  obtain ⟨hx_26, fx_26⟩ := hx_26
  obtain ⟨eTx_26, eGx_26⟩ := fx_26
  obtain ⟨G_27, eG_27⟩ : ∃ z, z = ux_26.2 := ⟨_, rfl⟩
  rw [← eG_27] at eGx_26
  obtain ⟨hfr_28, hex_29⟩ := eGx_26
  have fr_30 : FR [107, 108, 109, 110, 114, 127, 128, 104, 105, 122] [(g.2.2 100), (g.2.2 115), (g.2.2 125), (g.2.2 126), (g.2.2 121)] [106] G G_27 := FR.tr fr_5 hfr_28 (by decide) (fun b h => ⟨h.2.1, trivial⟩) (by decide)
  have u_31 : G_27.1 102 = (G.1 102) := (hfr_28.1 102 (by decide)).trans u_6
  have u_32 : G_27.1 104 = (G.1 104) := (hfr_28.1 104 (by decide)).trans u_7
  have u_33 : G_27.1 113 = (G.1 113) := (hfr_28.1 113 (by decide)).trans u_8
  have u_34 : G_27.1 122 = (G.1 122) := (hfr_28.1 122 (by decide)).trans u_9
  have u_35 : G_27.1 133 = (G.1 133) := (hfr_28.1 133 (by decide)).trans u_10
  have u_36 : G_27.1 137 = (G.1 137) := (hfr_28.1 137 (by decide)).trans u_11
  have u_37 : G_27.1 127 = (G.1 127) := (hfr_28.1 127 (by decide)).trans u_12
  have u_38 : G_27.1 105 = 0 := (hfr_28.1 105 (by decide)).trans u_13
  have w_39 : G_27.2.1 (g.2.2 100) = (G.2.1 (g.2.2 100)) := (hfr_28.2.1 (g.2.2 100) ⟨(ne_kd hmk.1 hmk.2.2.2.1 (by decide)), trivial⟩).trans w_14
  have w_40 : G_27.2.1 (g.2.2 121) = (G.2.1 (g.2.2 121)) := (hfr_28.2.1 (g.2.2 121) ⟨(ne_kd hmk.2.2.2.2.2.1 hmk.2.2.2.1 (by decide)), trivial⟩).trans w_15
  have w_41 : G_27.2.1 (g.2.2 140) = (G.2.1 (g.2.2 140)) := (hfr_28.2.1 (g.2.2 140) ⟨(ne_kd hmk.2.2.2.2.2.2.2.2.2.2.2.2.2.2.2.2.2.2.1 hmk.2.2.2.1 (by decide)), trivial⟩).trans w_16
  have w_42 : G_27.2.1 (g.2.2 141) = (G.2.1 (g.2.2 141)) := (hfr_28.2.1 (g.2.2 141) ⟨(ne_kd hmk.2.2.2.2.2.2.2.2.2.2.2.2.2.2.2.2.2.2.2.1 hmk.2.2.2.1 (by decide)), trivial⟩).trans w_17
  have w_43 : G_27.2.1 (g.2.2 111) = (G.2.1 (g.2.2 111)) := (hfr_28.2.1 (g.2.2 111) ⟨(ne_kd hmk.2.2.2.2.2.2.2.2.2.2.2.2.2.2.2.2.2.2.2.2.1 hmk.2.2.2.1 (by decide)), trivial⟩).trans w_18
  have w_44 : G_27.2.1 (g.2.2 125) = (G.2.1 (g.2.2 125)) := (hfr_28.2.1 (g.2.2 125) ⟨(ne_kd hmk.2.2.2.2.2.2.2.2.1 hmk.2.2.2.1 (by decide)), trivial⟩).trans w_19
  have w_45 : G_27.2.1 (g.2.2 126) = (G.2.1 (g.2.2 126)) := (hfr_28.2.1 (g.2.2 126) ⟨(ne_kd hmk.2.2.2.2.2.2.2.2.2.1 hmk.2.2.2.1 (by decide)), trivial⟩).trans w_20
  have u_46 : G_27.2.2 111 = some (g.2.2 111) := (hfr_28.2.2 111 (by decide)).trans u_21
  have u_47 : G_27.2.2 112 = some (g.2.2 112) := (hfr_28.2.2 112 (by decide)).trans u_22
  have hq_48 : F_X12_refusesComing_x (G.2.1 (g.2.2 100)) (G.2.1 (g.2.2 111)) (G.1 113) a0 a1 = x_26 := by have q := hex_29; rw [w_14, w_18, u_8] at q; exact q
  try rw [hq_48] at hv
  have hH : HT g Ty G_27 H := by rw [← ht, ← eTx_26, eG_27]; exact hB
  have rx_26 : rgI (-9) (0) x_26 := hx_26.1
  have tx_49 := hx_26.2
  try rw [w_14] at tx_49
  try rw [w_18] at tx_49
  try rw [u_8] at tx_49
  refine lv_istore_n (lv' := [(3, .int x_26), (0, .ref h0), (1, .int a0), (2, .int a1)]) hx hb dX12_mounts_15 rfl hl (by decide) rfl (fun ls hl => ?_)
  refine lv_iload_n hx hb dX12_mounts_16 rfl (lv_at hl 0 rfl) ?_
  refine lv_if_ge (tgt := 22) hx hb dX12_mounts_17 (by decide) (fun c_50 => ?_) (fun c_50 => ?_)
  · rw [if_pos c_50] at hv
    have r_51 : rgI (0) (0) x_26 := rg_w (rg_leR rl_0 rx_26 c_50) (by decide) (by decide)
    have c0_52 := tx_49 (rg_00 r_51 c_50)
    have r_53 : rgI (0) (23) a0 := rg_w (c0_52.1.1) (by decide) (by decide)
    have r_54 : rgI (0) (3) a1 := rg_w (c0_52.2.1) (by decide) (by decide)
    obtain ⟨⟨σ_55, hts_56⟩, h1_57, hb_58⟩ := id hI.ti
    refine lv_aload_n hx hb dX12_mounts_22 rfl (lv_at hl 1 rfl) ?_
    refine lv_aload_n hx hb dX12_mounts_23 rfl (lv_at hl 1 rfl) ?_
    obtain ⟨_, ⟨rfl, t_60, hk_61⟩, o_c_59⟩ := hH h0 _ k_h0
    refine hg_get hx hb hG igX12 hown hK o_c_59 rfl 0 (by decide) (hG _ mw_1284) rfl dX12_mounts_24 ?_
    refine va_callv (va_runV (As := [.ref (g.2.2 100)]) (rest := []) ⟨hx, hb, hml, hown, hts⟩ (c_X12_remember l g Ty G_27 H.size h0 (g.2.2 100) k_h0 (hk_61.1) Bd (by rw [w_39]; exact hI.ti) (by rw [u_34]; exact (rg_w hI.a122 (by decide) (by decide))) (by rw [u_34, w_40]; exact hI.un)) (cwV 1 hts (gwV mw_1577 mw_1579 mw_53 mw_88 mw_1580) rfl rfl rfl hv_X12_remember ⟨Nat.le_of_ble_eq_true rfl, Nat.le_of_ble_eq_true rfl⟩) ⟨PcT_blind, hg_recv hK o_c_59 rfl, PcT_pre hK hH⟩ rfl rfl hl.1 rfl (lv_room (Nat.le_of_ble_eq_true rfl)) dX12_mounts_27 ⟨Nat.zero_le _, Nat.zero_le _⟩) hS (fun q _ h => AF.mono hS.1 h) (fun q h => AF.mono hS.1 h) (fun ux_62 t H locs ht hvm hx_62 hB hz hk hS => ?_)
    obtain ⟨eTx_62, eGx_62⟩ := hx_62
    obtain ⟨G_63, eG_63⟩ : ∃ z, z = ux_62.2 := ⟨_, rfl⟩
    rw [← eG_63] at eGx_62
    obtain ⟨hfr_64, hex_65⟩ := eGx_62
    have fr_66 : FR [107, 108, 109, 110, 114, 127, 128, 104, 105, 122] [(g.2.2 100), (g.2.2 115), (g.2.2 125), (g.2.2 126), (g.2.2 121)] [106] G G_63 := FR.tr fr_30 hfr_64 (by decide) (fun b h => ⟨h.2.2.2.2.1, trivial⟩) (by decide)
    have u_67 : G_63.1 102 = (G.1 102) := (hfr_64.1 102 (by decide)).trans u_31
    have u_68 : G_63.1 104 = (G.1 104) := (hfr_64.1 104 (by decide)).trans u_32
    have u_69 : G_63.1 113 = (G.1 113) := (hfr_64.1 113 (by decide)).trans u_33
    have u_70 : G_63.1 133 = (G.1 133) := (hfr_64.1 133 (by decide)).trans u_35
    have u_71 : G_63.1 137 = (G.1 137) := (hfr_64.1 137 (by decide)).trans u_36
    have u_72 : G_63.1 127 = (G.1 127) := (hfr_64.1 127 (by decide)).trans u_37
    have u_73 : G_63.1 105 = 0 := (hfr_64.1 105 (by decide)).trans u_38
    have w_74 : G_63.2.1 (g.2.2 100) = (G.2.1 (g.2.2 100)) := (hfr_64.2.1 (g.2.2 100) ⟨(ne_kd hmk.1 hmk.2.2.2.2.2.1 (by decide)), trivial⟩).trans w_39
    have w_75 : G_63.2.1 (g.2.2 140) = (G.2.1 (g.2.2 140)) := (hfr_64.2.1 (g.2.2 140) ⟨(ne_kd hmk.2.2.2.2.2.2.2.2.2.2.2.2.2.2.2.2.2.2.1 hmk.2.2.2.2.2.1 (by decide)), trivial⟩).trans w_41
    have w_76 : G_63.2.1 (g.2.2 141) = (G.2.1 (g.2.2 141)) := (hfr_64.2.1 (g.2.2 141) ⟨(ne_kd hmk.2.2.2.2.2.2.2.2.2.2.2.2.2.2.2.2.2.2.2.1 hmk.2.2.2.2.2.1 (by decide)), trivial⟩).trans w_42
    have w_77 : G_63.2.1 (g.2.2 111) = (G.2.1 (g.2.2 111)) := (hfr_64.2.1 (g.2.2 111) ⟨(ne_kd hmk.2.2.2.2.2.2.2.2.2.2.2.2.2.2.2.2.2.2.2.2.1 hmk.2.2.2.2.2.1 (by decide)), trivial⟩).trans w_43
    have w_78 : G_63.2.1 (g.2.2 125) = (G.2.1 (g.2.2 125)) := (hfr_64.2.1 (g.2.2 125) ⟨(ne_kd hmk.2.2.2.2.2.2.2.2.1 hmk.2.2.2.2.2.1 (by decide)), trivial⟩).trans w_44
    have w_79 : G_63.2.1 (g.2.2 126) = (G.2.1 (g.2.2 126)) := (hfr_64.2.1 (g.2.2 126) ⟨(ne_kd hmk.2.2.2.2.2.2.2.2.2.1 hmk.2.2.2.2.2.1 (by decide)), trivial⟩).trans w_45
    have u_80 : G_63.2.2 111 = some (g.2.2 111) := (hfr_64.2.2 111 (by decide)).trans u_46
    have u_81 : G_63.2.2 112 = some (g.2.2 112) := (hfr_64.2.2 112 (by decide)).trans u_47
    obtain ⟨f_82, ef_82⟩ : ∃ z : Nat → Int32, G_63.2.1 (g.2.2 121) = z := ⟨_, rfl⟩
    obtain ⟨n_83, en_83⟩ : ∃ z : Int32, G_63.1 122 = z := ⟨_, rfl⟩
    have rm_84 := hex_65
    rw [ef_82, en_83] at rm_84
    have hH : HT g Ty G_63 H := by rw [← ht, ← eTx_62, eG_63]; exact hB
    refine lv_aload_n hx hb dX12_mounts_30 rfl (lv_at hl 1 rfl) ?_
    refine lv_aload_n hx hb dX12_mounts_31 rfl (lv_at hl 1 rfl) ?_
    refine lv_aload_n hx hb dX12_mounts_32 rfl (lv_at hl 1 rfl) ?_
    obtain ⟨_, ⟨rfl, t_86, hk_87⟩, o_c_85⟩ := hH h0 _ k_h0
    refine hg_get hx hb hG igX12 hown hK o_c_85 rfl 0 (by decide) (hG _ mw_1284) rfl dX12_mounts_33 ?_
    refine lv_bipush (v := 24) hx hb dX12_mounts_36 (by decide) ?_
    refine lv_iload_n hx hb dX12_mounts_38 rfl (lv_at hl 2 rfl) ?_
    refine lv_iload_n hx hb dX12_mounts_39 rfl (lv_at hl 3 rfl) ?_
    refine va_calli (va_runV (As := [.ref (g.2.2 100), .int 24, .int a0, .int a1]) (rest := [.ref h0]) ⟨hx, hb, hml, hown, hts⟩ (c_X12_goClone_x l g Ty G_63 H.size h0 (g.2.2 100) 24 a0 a1 k_h0 (hk_87.1) (rg_w rl_24 (by decide) (by decide)) (rg_w r_53 (by decide) (by decide)) (rg_w r_54 (by decide) (by decide)) (g.2.2 111) hmk.2.2.2.2.2.2.2.2.2.2.2.2.2.2.2.2.2.2.2.2.1 u_80 (by rw [u_69]; exact hI.a113) hLD σ_55 (by rw [w_74]; exact hts_56) (by rw [w_74]; exact h1_57) Bd (by rw [w_74]; exact hb_58) (by rw [w_74]; exact (Int.le_trans hb_58 (Int.le_trans hBd (by decide)))) (Or.inl rfl) (by rw [w_74, w_77, u_69]; exact c0_52)) (cwV 4 hts (gwV mw_1584 mw_1586 mw_54 mw_88 mw_1587) rfl rfl rfl hv_X12_goClone ⟨Nat.le_of_ble_eq_true rfl, Nat.le_of_ble_eq_true rfl⟩) ⟨PcT_blind, hg_recv hK o_c_85 rfl, PcT_pre hK hH⟩ rfl rfl hl.1 rfl (lv_room (Nat.le_of_ble_eq_true rfl)) dX12_mounts_40 ⟨Nat.zero_le _, Nat.zero_le _⟩) hS (fun q _ h => AF.mono hS.1 h) (fun q h => AF.mono hS.1 h) (fun x_88 ux_88 t H locs ht hvm hx_88 hB hz hk hS => ?_)
    obtain ⟨eTx_88, eGx_88⟩ := hx_88
    obtain ⟨G_89, eG_89⟩ : ∃ z, z = ux_88.2 := ⟨_, rfl⟩
    rw [← eG_89] at eGx_88
    obtain ⟨hfr_90, hex_91⟩ := eGx_88
    have fr_92 : FR [107, 108, 109, 110, 114, 127, 128, 104, 105, 122] [(g.2.2 100), (g.2.2 115), (g.2.2 125), (g.2.2 126), (g.2.2 121)] [106] G G_89 := FR.tr fr_66 hfr_90 (by decide) (fun b h => ⟨h.1, h.2.1, h.2.2.1, h.2.2.2.1, trivial⟩) (by decide)
    have u_93 : G_89.1 102 = (G.1 102) := (hfr_90.1 102 (by decide)).trans u_67
    have u_94 : G_89.1 104 = (G.1 104) := (hfr_90.1 104 (by decide)).trans u_68
    have u_95 : G_89.1 113 = (G.1 113) := (hfr_90.1 113 (by decide)).trans u_69
    have u_96 : G_89.1 133 = (G.1 133) := (hfr_90.1 133 (by decide)).trans u_70
    have u_97 : G_89.1 137 = (G.1 137) := (hfr_90.1 137 (by decide)).trans u_71
    have u_98 : G_89.1 105 = 0 := (hfr_90.1 105 (by decide)).trans u_73
    have u_99 : G_89.1 122 = n_83 := (hfr_90.1 122 (by decide)).trans en_83
    have w_100 : G_89.2.1 (g.2.2 140) = (G.2.1 (g.2.2 140)) := (hfr_90.2.1 (g.2.2 140) ⟨(ne_kd hmk.2.2.2.2.2.2.2.2.2.2.2.2.2.2.2.2.2.2.1 hmk.1 (by decide)), (ne_kd hmk.2.2.2.2.2.2.2.2.2.2.2.2.2.2.2.2.2.2.1 hmk.2.2.2.1 (by decide)), (ne_kd hmk.2.2.2.2.2.2.2.2.2.2.2.2.2.2.2.2.2.2.1 hmk.2.2.2.2.2.2.2.2.1 (by decide)), (ne_kd hmk.2.2.2.2.2.2.2.2.2.2.2.2.2.2.2.2.2.2.1 hmk.2.2.2.2.2.2.2.2.2.1 (by decide)), trivial⟩).trans w_75
    have w_101 : G_89.2.1 (g.2.2 141) = (G.2.1 (g.2.2 141)) := (hfr_90.2.1 (g.2.2 141) ⟨(ne_kd hmk.2.2.2.2.2.2.2.2.2.2.2.2.2.2.2.2.2.2.2.1 hmk.1 (by decide)), (ne_kd hmk.2.2.2.2.2.2.2.2.2.2.2.2.2.2.2.2.2.2.2.1 hmk.2.2.2.1 (by decide)), (ne_kd hmk.2.2.2.2.2.2.2.2.2.2.2.2.2.2.2.2.2.2.2.1 hmk.2.2.2.2.2.2.2.2.1 (by decide)), (ne_kd hmk.2.2.2.2.2.2.2.2.2.2.2.2.2.2.2.2.2.2.2.1 hmk.2.2.2.2.2.2.2.2.2.1 (by decide)), trivial⟩).trans w_76
    have w_102 : G_89.2.1 (g.2.2 111) = (G.2.1 (g.2.2 111)) := (hfr_90.2.1 (g.2.2 111) ⟨(ne_kd hmk.2.2.2.2.2.2.2.2.2.2.2.2.2.2.2.2.2.2.2.2.1 hmk.1 (by decide)), (ne_kd hmk.2.2.2.2.2.2.2.2.2.2.2.2.2.2.2.2.2.2.2.2.1 hmk.2.2.2.1 (by decide)), (ne_kd hmk.2.2.2.2.2.2.2.2.2.2.2.2.2.2.2.2.2.2.2.2.1 hmk.2.2.2.2.2.2.2.2.1 (by decide)), (ne_kd hmk.2.2.2.2.2.2.2.2.2.2.2.2.2.2.2.2.2.2.2.2.1 hmk.2.2.2.2.2.2.2.2.2.1 (by decide)), trivial⟩).trans w_77
    have w_103 : G_89.2.1 (g.2.2 121) = f_82 := (hfr_90.2.1 (g.2.2 121) ⟨(ne_kd hmk.2.2.2.2.2.1 hmk.1 (by decide)), (ne_kd hmk.2.2.2.2.2.1 hmk.2.2.2.1 (by decide)), (ne_kd hmk.2.2.2.2.2.1 hmk.2.2.2.2.2.2.2.2.1 (by decide)), (ne_kd hmk.2.2.2.2.2.1 hmk.2.2.2.2.2.2.2.2.2.1 (by decide)), trivial⟩).trans ef_82
    have u_104 : G_89.2.2 111 = some (g.2.2 111) := (hfr_90.2.2 111 (by decide)).trans u_80
    have u_105 : G_89.2.2 112 = some (g.2.2 112) := (hfr_90.2.2 112 (by decide)).trans u_81
    obtain ⟨xa_106, xb_107⟩ := hex_91
    obtain ⟨f_108, ef_108⟩ : ∃ z : Nat → Int32, G_89.2.1 (g.2.2 100) = z := ⟨_, rfl⟩
    obtain ⟨f_109, ef_109⟩ : ∃ z : Nat → Int32, G_89.2.1 (g.2.2 125) = z := ⟨_, rfl⟩
    obtain ⟨f_110, ef_110⟩ : ∃ z : Nat → Int32, G_89.2.1 (g.2.2 126) = z := ⟨_, rfl⟩
    obtain ⟨n_111, en_111⟩ : ∃ z : Int32, G_89.1 127 = z := ⟨_, rfl⟩
    have hq_112 : F_X12_goClone_x (G.2.1 (g.2.2 100)) (G.2.1 (g.2.2 111)) (G.2.1 (g.2.2 125)) (G.2.1 (g.2.2 126)) (G.1 113) (G.1 127) 24 a0 a1 = (x_88, f_108, f_109, f_110, n_111) := by have q := xb_107; rw [w_74, w_77, w_78, w_79, u_69, u_72, ef_108, ef_109, ef_110, en_111] at q; exact q
    rw [hq_112, tu5_eq] at hv
    obtain ⟨f_113, ef_113⟩ : ∃ z : Nat → Int32, G_89.2.1 (g.2.2 100) = z := ⟨_, rfl⟩
    have gc_114 := xa_106
    rw [ef_113, w_74, w_77, u_69] at gc_114
    try rw [(ef_108).symm.trans (ef_113)] at hv
    have hH : HT g Ty G_89 H := by rw [← ht, ← eTx_88, eG_89]; exact hB
    obtain ⟨_, ⟨rfl, t_116, hk_117⟩, o_c_115⟩ := hH h0 _ k_h0
    refine va_calli (va_runV (As := [.int x_88]) (rest := []) ⟨hx, hb, hml, hown, hts⟩ (c_X12_tellCame_x l g Ty G_89 H.size h0 x_88 k_h0) (cwV 1 hts (gwV mw_1605 mw_1607 mw_57 mw_88 mw_1608) rfl rfl rfl hv_X12_tellCame ⟨Nat.le_of_ble_eq_true rfl, Nat.le_of_ble_eq_true rfl⟩) ⟨PcT_blind, hg_recv hK o_c_115 rfl, PcT_pre hK hH⟩ rfl rfl hl.1 rfl (lv_room (Nat.le_of_ble_eq_true rfl)) dX12_mounts_43 ⟨Nat.zero_le _, Nat.zero_le _⟩) hS (fun q _ h => AF.mono hS.1 h) (fun q h => AF.mono hS.1 h) (fun x_118 ux_118 t H locs ht hvm hx_118 hB hz hk hS => ?_)
    obtain ⟨eTx_118, eGx_118⟩ := hx_118
    obtain ⟨G_119, eG_119⟩ : ∃ z, z = ux_118.2 := ⟨_, rfl⟩
    rw [← eG_119] at eGx_118
    obtain ⟨hfr_120, hex_121⟩ := eGx_118
    have fr_122 : FR [107, 108, 109, 110, 114, 127, 128, 104, 105, 122] [(g.2.2 100), (g.2.2 115), (g.2.2 125), (g.2.2 126), (g.2.2 121)] [106] G G_119 := FR.tr fr_92 hfr_120 (by decide) (fun _ _ => trivial) (by decide)
    have u_123 : G_119.1 102 = (G.1 102) := (hfr_120.1 102 (by decide)).trans u_93
    have u_124 : G_119.1 113 = (G.1 113) := (hfr_120.1 113 (by decide)).trans u_95
    have u_125 : G_119.1 133 = (G.1 133) := (hfr_120.1 133 (by decide)).trans u_96
    have u_126 : G_119.1 137 = (G.1 137) := (hfr_120.1 137 (by decide)).trans u_97
    have u_127 : G_119.1 105 = 0 := (hfr_120.1 105 (by decide)).trans u_98
    have u_128 : G_119.1 122 = n_83 := (hfr_120.1 122 (by decide)).trans u_99
    have u_129 : G_119.1 127 = n_111 := (hfr_120.1 127 (by decide)).trans en_111
    have w_130 : G_119.2.1 (g.2.2 140) = (G.2.1 (g.2.2 140)) := (hfr_120.2.1 (g.2.2 140) trivial).trans w_100
    have w_131 : G_119.2.1 (g.2.2 141) = (G.2.1 (g.2.2 141)) := (hfr_120.2.1 (g.2.2 141) trivial).trans w_101
    have w_132 : G_119.2.1 (g.2.2 111) = (G.2.1 (g.2.2 111)) := (hfr_120.2.1 (g.2.2 111) trivial).trans w_102
    have w_133 : G_119.2.1 (g.2.2 121) = f_82 := (hfr_120.2.1 (g.2.2 121) trivial).trans w_103
    have w_134 : G_119.2.1 (g.2.2 100) = f_113 := (hfr_120.2.1 (g.2.2 100) trivial).trans ef_113
    have w_135 : G_119.2.1 (g.2.2 125) = f_109 := (hfr_120.2.1 (g.2.2 125) trivial).trans ef_109
    have w_136 : G_119.2.1 (g.2.2 126) = f_110 := (hfr_120.2.1 (g.2.2 126) trivial).trans ef_110
    have u_137 : G_119.2.2 111 = some (g.2.2 111) := (hfr_120.2.2 111 (by decide)).trans u_104
    have u_138 : G_119.2.2 112 = some (g.2.2 112) := (hfr_120.2.2 112 (by decide)).trans u_105
    obtain ⟨xa_139, xb_140⟩ := hex_121
    have hq_141 : F_X12_tellCame_x x_88 = x_118 := by have q := xb_140; exact q
    try rw [hq_141] at hv
    have t4_142 : rgI (2) (2) (G_119.1 104) := xa_139
    have hH : HT g Ty G_119 H := by rw [← ht, ← eTx_118, eG_119]; exact hB
    exact W.iret hx hb hr (fun t ht hWm => ⟨⟨x_118, (Ty, G_119), rfl, ⟨rfl, ⟨fr_122, ⟨⟨(by rw [u_123]; exact (rg_w hI.a102 (by decide) (by decide))), (rg_w t4_142 (by decide) (by decide)), (by rw [u_124]; exact (rg_w hI.a113 (by decide) (by decide))), (by rw [u_128]; exact (rg_w rm_84.1 (by decide) (by decide))), (by rw [u_125]; exact (rg_w hI.a133 (by decide) (by decide))), (by rw [u_126]; exact (rg_w hI.a137 (by decide) (by decide))), u_137, u_138, (by rw [w_134]; exact (TI.hi gc_114.1 (by omega))), (by rw [w_133, u_128]; exact fun i hi => TI.hi (rm_84.2 i hi) (by omega)), (hI.ke2 (show Bd ≤ Bd + 1000 by omega) w_130 w_131)⟩, hv.symm.trans (by rw [w_134, w_135, w_136, u_129])⟩⟩⟩, by show HT g Ty G_119 t.heap; rw [ht]; exact hH⟩, hS.F ht⟩) hS.2.2 dX12_mounts_46
  · rw [if_neg c_50] at hv
    have r_143 : rgI (-9) (-1) x_26 := rg_w (rg_ltL rx_26 rl_0 (nle_lt c_50)) (by decide) (by decide)
    refine lv_iload_n hx hb dX12_mounts_20 rfl (lv_at hl 0 rfl) ?_
    exact W.iret hx hb hr (fun t ht hWm => ⟨⟨x_26, (Ty, G_27), rfl, ⟨rfl, ⟨fr_30, ⟨⟨(by rw [u_31]; exact (rg_w hI.a102 (by decide) (by decide))), (by rw [u_32]; exact (rg_w hI.a104 (by decide) (by decide))), (by rw [u_33]; exact (rg_w hI.a113 (by decide) (by decide))), (by rw [u_34]; exact (rg_w hI.a122 (by decide) (by decide))), (by rw [u_35]; exact (rg_w hI.a133 (by decide) (by decide))), (by rw [u_36]; exact (rg_w hI.a137 (by decide) (by decide))), u_46, u_47, (by rw [w_39]; exact (hI.ti.hi (show Bd ≤ Bd + 1000 by omega))), (hI.un2 (show Bd ≤ Bd + 1000 by omega) w_40 u_34), (hI.ke2 (show Bd ≤ Bd + 1000 by omega) w_41 w_42)⟩, hv.symm.trans (by rw [w_39, w_44, w_45, u_37])⟩⟩⟩, by show HT g Ty G_27 t.heap; rw [ht]; exact hH⟩, hS.F ht⟩) hS.2.2 dX12_mounts_21

def F_X12_binds_x (r0 : Nat → Int32) (r1 : Nat → Int32) (r2 : Nat → Int32) (r3 : Nat → Int32) (m113 : Int32) (m127 : Int32) (a0 : Int32) (a1 : Int32) (a2 : Int32) : Int32 × (Nat → Int32) × (Nat → Int32) × (Nat → Int32) × Int32 := (if (0 : Int32) ≤ (F_X12_refusesBind_x r0 r1 m113 a0 a1 a2) then (tu5 (F_X12_goClone_x r0 r1 r2 r3 m113 m127 a0 a1 a2) (fun z6 z7 z8 z9 z10 => ((F_X12_tellCame_x z6), z7, z8, z9, z10))) else ((F_X12_refusesBind_x r0 r1 m113 a0 a1 a2), r0, r2, r3, m127))
set_option maxHeartbeats 4000000 in
set_option maxRecDepth 100000 in
theorem c_X12_binds_x (l : Launch) (g : Gx) (Ty : TyM) (G : Gh) (sz : Nat) (h0 : Nat) (a0 : Int32) (a1 : Int32) (a2 : Int32) (k_h0 : Ty h0 = some (22, 0)) (Bd : Int) (hI : OI g Bd G) (hBd : Bd ≤ 1900000) (hLD : LD g) : Met l yX12_binds (wsG yX12_binds cX12_binds 5 (some .int)) ({ frames := 342, cells := 0, slots := 0, locals := 8018 }) (PcT g Ty G sz [.ref h0, .int a0, .int a1, .int a2]) (QwI g Ty sz (fun r u => u.1 = Ty ∧ FR [107, 108, 109, 110, 114, 127, 128, 104, 105, 122] [(g.2.2 100), (g.2.2 115), (g.2.2 125), (g.2.2 126), (g.2.2 121)] [106] G u.2 ∧ OI g (Bd + 1000) u.2 ∧ F_X12_binds_x (G.2.1 (g.2.2 100)) (G.2.1 (g.2.2 111)) (G.2.1 (g.2.2 125)) (G.2.1 (g.2.2 126)) (G.1 113) (G.1 127) a0 a1 a2 = (r, (u.2.2.1 (g.2.2 100)), (u.2.2.1 (g.2.2 125)), (u.2.2.1 (g.2.2 126)), (u.2.1 127)))) 0 0 (AF Ty sz) := by
  refine Met.ofW (cc := cX12_binds) (maxL := 5) (ret := (some .int)) (by decide) rfl ?_
  intro p e s m args below meth c s₁ B hml hv
  obtain ⟨rfl, hsz, hK, hH⟩ := hv
  subst hsz
  have hx := B.exec
  have hb := B.bytes
  have hr := B.returns
  have hts := atoms_spec (ws := (wsG yX12_binds cX12_binds 5 (some .int))) B.pre
  have hG : ∀ w ∈ GW, w.before ([.ref h0, .int a0, .int a1, .int a2] : List Value).toArray s = true := fun w h => hts w (List.mem_cons_of_mem _ h)
  have hown : s.vm.findClass RX12 = some m.cls := findClass_of_methodNamed B.named
  have hlocks := B.notSynchronized
  have hl := lv_entry [.ref h0, .int a0, .int a1, .int a2] (n := 5) (Nat.le_of_ble_eq_true rfl)
  rw [lg_entry_eq]
  generalize (lg_sl [.ref h0, .int a0, .int a1, .int a2] ++ List.replicate (5 - (lg_sl [.ref h0, .int a0, .int a1, .int a2]).length) Slot.unset).toArray = ls at hl ⊢
  have hl : lv_has ls 5 [(0, .ref h0), (1, .int a0), (2, .int a1), (3, .int a2)] := hl
  have hmk : mdK g Ty := mdk_of hH k_h0
  have hv : (if (0 : Int32) ≤ (F_X12_refusesBind_x (G.2.1 (g.2.2 100)) (G.2.1 (g.2.2 111)) (G.1 113) a0 a1 a2) then (tu5 (F_X12_goClone_x (G.2.1 (g.2.2 100)) (G.2.1 (g.2.2 111)) (G.2.1 (g.2.2 125)) (G.2.1 (g.2.2 126)) (G.1 113) (G.1 127) a0 a1 a2) (fun z1 z2 z3 z4 z5 => ((F_X12_tellCame_x z1), z2, z3, z4, z5))) else ((F_X12_refusesBind_x (G.2.1 (g.2.2 100)) (G.2.1 (g.2.2 111)) (G.1 113) a0 a1 a2), (G.2.1 (g.2.2 100)), (G.2.1 (g.2.2 125)), (G.2.1 (g.2.2 126)), (G.1 127))) = F_X12_binds_x (G.2.1 (g.2.2 100)) (G.2.1 (g.2.2 111)) (G.2.1 (g.2.2 125)) (G.2.1 (g.2.2 126)) (G.1 113) (G.1 127) a0 a1 a2 := rfl
  have hS : va_S (AF Ty s.heap.size) s.heap s.heap [] := va_S.rf
  obtain ⟨⟨σ0, hTS0⟩, h10, hBB0⟩ := id hI.ti
  obtain ⟨ρ, hT⟩ := hTS0.1
  refine lv_aload_n hx hb dX12_binds_0 rfl (lv_at hl 0 rfl) ?_
  refine lv_iconst (v := 0) hx hb dX12_binds_1 (by decide) ?_
  obtain ⟨_, ⟨rfl, t_2, hk_3⟩, o_c_1⟩ := hH h0 _ k_h0
  refine hg_put (ty := .int) hx hb hG igX12 tyX12 tyX12_ok nmX12 hown hK hS o_c_1 (AF.of k_h0) rfl 5 (by decide) (hG _ mw_1289) rfl (by decide +kernel) rfl rfl (Nat.le_of_ble_eq_true rfl) dX12_binds_2 (fun H locs o_c_1 hz oq hS => ?_)
  obtain ⟨G_4, eG_4⟩ : ∃ z : Gh, z = gset G 105 0 := ⟨_, rfl⟩
  have hH : HT g Ty G_4 H := by rw [eG_4]; exact HT.putN 105 0 hH k_h0 ⟨rfl, t_2, hk_3⟩ o_c_1 oq (Or.inr (Or.inr (Or.inr (Or.inr (Or.inr ⟨by decide, t_2⟩)))))
  have fr_5 : FR [107, 108, 109, 110, 114, 127, 128, 104, 105, 122] [(g.2.2 100), (g.2.2 115), (g.2.2 125), (g.2.2 126), (g.2.2 121)] [106] G G_4 := FR.n FR.rf eG_4 (by decide)
  have u_6 : G_4.1 102 = (G.1 102) := by rw [eG_4]; exact (gs_ne (by decide))
  have u_7 : G_4.1 104 = (G.1 104) := by rw [eG_4]; exact (gs_ne (by decide))
  have u_8 : G_4.1 113 = (G.1 113) := by rw [eG_4]; exact (gs_ne (by decide))
  have u_9 : G_4.1 122 = (G.1 122) := by rw [eG_4]; exact (gs_ne (by decide))
  have u_10 : G_4.1 133 = (G.1 133) := by rw [eG_4]; exact (gs_ne (by decide))
  have u_11 : G_4.1 137 = (G.1 137) := by rw [eG_4]; exact (gs_ne (by decide))
  have u_12 : G_4.1 127 = (G.1 127) := by rw [eG_4]; exact (gs_ne (by decide))
  have u_13 : G_4.1 105 = 0 := by rw [eG_4]; exact gs_eq
  have w_14 : G_4.2.1 (g.2.2 100) = (G.2.1 (g.2.2 100)) := by rw [eG_4]; exact rfl
  have w_15 : G_4.2.1 (g.2.2 121) = (G.2.1 (g.2.2 121)) := by rw [eG_4]; exact rfl
  have w_16 : G_4.2.1 (g.2.2 140) = (G.2.1 (g.2.2 140)) := by rw [eG_4]; exact rfl
  have w_17 : G_4.2.1 (g.2.2 141) = (G.2.1 (g.2.2 141)) := by rw [eG_4]; exact rfl
  have w_18 : G_4.2.1 (g.2.2 111) = (G.2.1 (g.2.2 111)) := by rw [eG_4]; exact rfl
  have w_19 : G_4.2.1 (g.2.2 125) = (G.2.1 (g.2.2 125)) := by rw [eG_4]; exact rfl
  have w_20 : G_4.2.1 (g.2.2 126) = (G.2.1 (g.2.2 126)) := by rw [eG_4]; exact rfl
  have u_21 : G_4.2.2 111 = some (g.2.2 111) := by rw [eG_4]; exact hI.r111
  have u_22 : G_4.2.2 112 = some (g.2.2 112) := by rw [eG_4]; exact hI.r112
  clear oq hz
  refine lv_aload_n hx hb dX12_binds_5 rfl (lv_at hl 0 rfl) ?_
  refine lv_aload_n hx hb dX12_binds_6 rfl (lv_at hl 0 rfl) ?_
  obtain ⟨_, ⟨rfl, t_24, hk_25⟩, o_c_23⟩ := hH h0 _ k_h0
  refine hg_get hx hb hG igX12 hown hK o_c_23 rfl 0 (by decide) (hG _ mw_1284) rfl dX12_binds_7 ?_
  refine lv_iload_n hx hb dX12_binds_10 rfl (lv_at hl 1 rfl) ?_
  refine lv_iload_n hx hb dX12_binds_11 rfl (lv_at hl 2 rfl) ?_
  refine lv_iload_n hx hb dX12_binds_12 rfl (lv_at hl 3 rfl) ?_
  refine va_calli (va_runV (As := [.ref (g.2.2 100), .int a0, .int a1, .int a2]) (rest := []) ⟨hx, hb, hml, hown, hts⟩ (c_X12_refusesBind_x l g Ty G_4 H.size h0 (g.2.2 100) a0 a1 a2 k_h0 (hk_25.1) ρ (by rw [w_14]; exact hT) (g.2.2 111) hmk.2.2.2.2.2.2.2.2.2.2.2.2.2.2.2.2.2.2.2.2.1 u_21 (by rw [u_8]; exact hI.a113)) (cwV 4 hts (gwV mw_1613 mw_1615 mw_58 mw_88 mw_1616) rfl rfl rfl hv_X12_refusesBind ⟨Nat.le_of_ble_eq_true rfl, Nat.le_of_ble_eq_true rfl⟩) ⟨PcT_blind, hg_recv hK o_c_23 rfl, PcT_pre hK hH⟩ rfl rfl hl.1 rfl (lv_room (Nat.le_of_ble_eq_true rfl)) dX12_binds_13 ⟨Nat.zero_le _, Nat.zero_le _⟩) hS (fun q _ h => AF.mono hS.1 h) (fun q h => AF.mono hS.1 h) (fun x_26 ux_26 t H locs ht hvm hx_26 hB hz hk hS => ?_)
  obtain ⟨hx_26, fx_26⟩ := hx_26
  obtain ⟨eTx_26, eGx_26⟩ := fx_26
  obtain ⟨G_27, eG_27⟩ : ∃ z, z = ux_26.2 := ⟨_, rfl⟩
  rw [← eG_27] at eGx_26
  obtain ⟨hfr_28, hex_29⟩ := eGx_26
  have fr_30 : FR [107, 108, 109, 110, 114, 127, 128, 104, 105, 122] [(g.2.2 100), (g.2.2 115), (g.2.2 125), (g.2.2 126), (g.2.2 121)] [106] G G_27 := FR.tr fr_5 hfr_28 (by decide) (fun b h => ⟨h.2.1, trivial⟩) (by decide)
  have u_31 : G_27.1 102 = (G.1 102) := (hfr_28.1 102 (by decide)).trans u_6
  have u_32 : G_27.1 104 = (G.1 104) := (hfr_28.1 104 (by decide)).trans u_7
  have u_33 : G_27.1 113 = (G.1 113) := (hfr_28.1 113 (by decide)).trans u_8
  have u_34 : G_27.1 122 = (G.1 122) := (hfr_28.1 122 (by decide)).trans u_9
  have u_35 : G_27.1 133 = (G.1 133) := (hfr_28.1 133 (by decide)).trans u_10
  have u_36 : G_27.1 137 = (G.1 137) := (hfr_28.1 137 (by decide)).trans u_11
  have u_37 : G_27.1 127 = (G.1 127) := (hfr_28.1 127 (by decide)).trans u_12
  have u_38 : G_27.1 105 = 0 := (hfr_28.1 105 (by decide)).trans u_13
  have w_39 : G_27.2.1 (g.2.2 100) = (G.2.1 (g.2.2 100)) := (hfr_28.2.1 (g.2.2 100) ⟨(ne_kd hmk.1 hmk.2.2.2.1 (by decide)), trivial⟩).trans w_14
  have w_40 : G_27.2.1 (g.2.2 121) = (G.2.1 (g.2.2 121)) := (hfr_28.2.1 (g.2.2 121) ⟨(ne_kd hmk.2.2.2.2.2.1 hmk.2.2.2.1 (by decide)), trivial⟩).trans w_15
  have w_41 : G_27.2.1 (g.2.2 140) = (G.2.1 (g.2.2 140)) := (hfr_28.2.1 (g.2.2 140) ⟨(ne_kd hmk.2.2.2.2.2.2.2.2.2.2.2.2.2.2.2.2.2.2.1 hmk.2.2.2.1 (by decide)), trivial⟩).trans w_16
  have w_42 : G_27.2.1 (g.2.2 141) = (G.2.1 (g.2.2 141)) := (hfr_28.2.1 (g.2.2 141) ⟨(ne_kd hmk.2.2.2.2.2.2.2.2.2.2.2.2.2.2.2.2.2.2.2.1 hmk.2.2.2.1 (by decide)), trivial⟩).trans w_17
  have w_43 : G_27.2.1 (g.2.2 111) = (G.2.1 (g.2.2 111)) := (hfr_28.2.1 (g.2.2 111) ⟨(ne_kd hmk.2.2.2.2.2.2.2.2.2.2.2.2.2.2.2.2.2.2.2.2.1 hmk.2.2.2.1 (by decide)), trivial⟩).trans w_18
  have w_44 : G_27.2.1 (g.2.2 125) = (G.2.1 (g.2.2 125)) := (hfr_28.2.1 (g.2.2 125) ⟨(ne_kd hmk.2.2.2.2.2.2.2.2.1 hmk.2.2.2.1 (by decide)), trivial⟩).trans w_19
  have w_45 : G_27.2.1 (g.2.2 126) = (G.2.1 (g.2.2 126)) := (hfr_28.2.1 (g.2.2 126) ⟨(ne_kd hmk.2.2.2.2.2.2.2.2.2.1 hmk.2.2.2.1 (by decide)), trivial⟩).trans w_20
  have u_46 : G_27.2.2 111 = some (g.2.2 111) := (hfr_28.2.2 111 (by decide)).trans u_21
  have u_47 : G_27.2.2 112 = some (g.2.2 112) := (hfr_28.2.2 112 (by decide)).trans u_22
  have hq_48 : F_X12_refusesBind_x (G.2.1 (g.2.2 100)) (G.2.1 (g.2.2 111)) (G.1 113) a0 a1 a2 = x_26 := by have q := hex_29; rw [w_14, w_18, u_8] at q; exact q
  try rw [hq_48] at hv
  have hH : HT g Ty G_27 H := by rw [← ht, ← eTx_26, eG_27]; exact hB
  have rx_26 : rgI (-9) (0) x_26 := hx_26.1
  have tx_49 := hx_26.2
  try rw [w_14] at tx_49
  try rw [w_18] at tx_49
  try rw [u_8] at tx_49
  refine lv_istore (lv' := [(4, .int x_26), (0, .ref h0), (1, .int a0), (2, .int a1), (3, .int a2)]) hx hb dX12_binds_16 hl (by decide) rfl (fun ls hl => ?_)
  refine lv_iload hx hb dX12_binds_18 (lv_at hl 0 rfl) ?_
  refine lv_if_ge (tgt := 26) hx hb dX12_binds_20 (by decide) (fun c_50 => ?_) (fun c_50 => ?_)
  · rw [if_pos c_50] at hv
    have r_51 : rgI (0) (0) x_26 := rg_w (rg_leR rl_0 rx_26 c_50) (by decide) (by decide)
    refine lv_aload_n hx hb dX12_binds_26 rfl (lv_at hl 1 rfl) ?_
    have c0_52 := tx_49 (rg_00 r_51 c_50)
    have r_53 : rgI (0) (23) a0 := rg_w (c0_52.1.1) (by decide) (by decide)
    have r_54 : rgI (0) (23) a1 := rg_w (c0_52.2.1.1) (by decide) (by decide)
    have r_55 : rgI (0) (3) a2 := rg_w (c0_52.2.2.1) (by decide) (by decide)
    obtain ⟨⟨σ_56, hts_57⟩, h1_58, hb_59⟩ := id hI.ti
    refine lv_aload_n hx hb dX12_binds_27 rfl (lv_at hl 1 rfl) ?_
    obtain ⟨_, ⟨rfl, t_61, hk_62⟩, o_c_60⟩ := hH h0 _ k_h0
    refine hg_get hx hb hG igX12 hown hK o_c_60 rfl 0 (by decide) (hG _ mw_1284) rfl dX12_binds_28 ?_
    refine va_callv (va_runV (As := [.ref (g.2.2 100)]) (rest := []) ⟨hx, hb, hml, hown, hts⟩ (c_X12_remember l g Ty G_27 H.size h0 (g.2.2 100) k_h0 (hk_62.1) Bd (by rw [w_39]; exact hI.ti) (by rw [u_34]; exact (rg_w hI.a122 (by decide) (by decide))) (by rw [u_34, w_40]; exact hI.un)) (cwV 1 hts (gwV mw_1577 mw_1579 mw_53 mw_88 mw_1580) rfl rfl rfl hv_X12_remember ⟨Nat.le_of_ble_eq_true rfl, Nat.le_of_ble_eq_true rfl⟩) ⟨PcT_blind, hg_recv hK o_c_60 rfl, PcT_pre hK hH⟩ rfl rfl hl.1 rfl (lv_room (Nat.le_of_ble_eq_true rfl)) dX12_binds_31 ⟨Nat.zero_le _, Nat.zero_le _⟩) hS (fun q _ h => AF.mono hS.1 h) (fun q h => AF.mono hS.1 h) (fun ux_63 t H locs ht hvm hx_63 hB hz hk hS => ?_)
    obtain ⟨eTx_63, eGx_63⟩ := hx_63
    obtain ⟨G_64, eG_64⟩ : ∃ z, z = ux_63.2 := ⟨_, rfl⟩
    rw [← eG_64] at eGx_63
    obtain ⟨hfr_65, hex_66⟩ := eGx_63
    have fr_67 : FR [107, 108, 109, 110, 114, 127, 128, 104, 105, 122] [(g.2.2 100), (g.2.2 115), (g.2.2 125), (g.2.2 126), (g.2.2 121)] [106] G G_64 := FR.tr fr_30 hfr_65 (by decide) (fun b h => ⟨h.2.2.2.2.1, trivial⟩) (by decide)
    have u_68 : G_64.1 102 = (G.1 102) := (hfr_65.1 102 (by decide)).trans u_31
    have u_69 : G_64.1 104 = (G.1 104) := (hfr_65.1 104 (by decide)).trans u_32
    have u_70 : G_64.1 113 = (G.1 113) := (hfr_65.1 113 (by decide)).trans u_33
    have u_71 : G_64.1 133 = (G.1 133) := (hfr_65.1 133 (by decide)).trans u_35
    have u_72 : G_64.1 137 = (G.1 137) := (hfr_65.1 137 (by decide)).trans u_36
    have u_73 : G_64.1 127 = (G.1 127) := (hfr_65.1 127 (by decide)).trans u_37
    have u_74 : G_64.1 105 = 0 := (hfr_65.1 105 (by decide)).trans u_38
    have w_75 : G_64.2.1 (g.2.2 100) = (G.2.1 (g.2.2 100)) := (hfr_65.2.1 (g.2.2 100) ⟨(ne_kd hmk.1 hmk.2.2.2.2.2.1 (by decide)), trivial⟩).trans w_39
    have w_76 : G_64.2.1 (g.2.2 140) = (G.2.1 (g.2.2 140)) := (hfr_65.2.1 (g.2.2 140) ⟨(ne_kd hmk.2.2.2.2.2.2.2.2.2.2.2.2.2.2.2.2.2.2.1 hmk.2.2.2.2.2.1 (by decide)), trivial⟩).trans w_41
    have w_77 : G_64.2.1 (g.2.2 141) = (G.2.1 (g.2.2 141)) := (hfr_65.2.1 (g.2.2 141) ⟨(ne_kd hmk.2.2.2.2.2.2.2.2.2.2.2.2.2.2.2.2.2.2.2.1 hmk.2.2.2.2.2.1 (by decide)), trivial⟩).trans w_42
    have w_78 : G_64.2.1 (g.2.2 111) = (G.2.1 (g.2.2 111)) := (hfr_65.2.1 (g.2.2 111) ⟨(ne_kd hmk.2.2.2.2.2.2.2.2.2.2.2.2.2.2.2.2.2.2.2.2.1 hmk.2.2.2.2.2.1 (by decide)), trivial⟩).trans w_43
    have w_79 : G_64.2.1 (g.2.2 125) = (G.2.1 (g.2.2 125)) := (hfr_65.2.1 (g.2.2 125) ⟨(ne_kd hmk.2.2.2.2.2.2.2.2.1 hmk.2.2.2.2.2.1 (by decide)), trivial⟩).trans w_44
    have w_80 : G_64.2.1 (g.2.2 126) = (G.2.1 (g.2.2 126)) := (hfr_65.2.1 (g.2.2 126) ⟨(ne_kd hmk.2.2.2.2.2.2.2.2.2.1 hmk.2.2.2.2.2.1 (by decide)), trivial⟩).trans w_45
    have u_81 : G_64.2.2 111 = some (g.2.2 111) := (hfr_65.2.2 111 (by decide)).trans u_46
    have u_82 : G_64.2.2 112 = some (g.2.2 112) := (hfr_65.2.2 112 (by decide)).trans u_47
    obtain ⟨f_83, ef_83⟩ : ∃ z : Nat → Int32, G_64.2.1 (g.2.2 121) = z := ⟨_, rfl⟩
    obtain ⟨n_84, en_84⟩ : ∃ z : Int32, G_64.1 122 = z := ⟨_, rfl⟩
    have rm_85 := hex_66
    rw [ef_83, en_84] at rm_85
    have hH : HT g Ty G_64 H := by rw [← ht, ← eTx_63, eG_64]; exact hB
    refine lv_aload_n hx hb dX12_binds_34 rfl (lv_at hl 1 rfl) ?_
    refine lv_aload_n hx hb dX12_binds_35 rfl (lv_at hl 1 rfl) ?_
    refine lv_aload_n hx hb dX12_binds_36 rfl (lv_at hl 1 rfl) ?_
    obtain ⟨_, ⟨rfl, t_87, hk_88⟩, o_c_86⟩ := hH h0 _ k_h0
    refine hg_get hx hb hG igX12 hown hK o_c_86 rfl 0 (by decide) (hG _ mw_1284) rfl dX12_binds_37 ?_
    refine lv_iload_n hx hb dX12_binds_40 rfl (lv_at hl 2 rfl) ?_
    refine lv_iload_n hx hb dX12_binds_41 rfl (lv_at hl 3 rfl) ?_
    refine lv_iload_n hx hb dX12_binds_42 rfl (lv_at hl 4 rfl) ?_
    refine va_calli (va_runV (As := [.ref (g.2.2 100), .int a0, .int a1, .int a2]) (rest := [.ref h0]) ⟨hx, hb, hml, hown, hts⟩ (c_X12_goClone_x l g Ty G_64 H.size h0 (g.2.2 100) a0 a1 a2 k_h0 (hk_88.1) (rg_w r_53 (by decide) (by decide)) (rg_w r_54 (by decide) (by decide)) (rg_w r_55 (by decide) (by decide)) (g.2.2 111) hmk.2.2.2.2.2.2.2.2.2.2.2.2.2.2.2.2.2.2.2.2.1 u_81 (by rw [u_70]; exact hI.a113) hLD σ_56 (by rw [w_75]; exact hts_57) (by rw [w_75]; exact h1_58) Bd (by rw [w_75]; exact hb_59) (by rw [w_75]; exact (Int.le_trans hb_59 (Int.le_trans hBd (by decide)))) (by rw [w_75]; exact (Or.inr c0_52.1)) (by rw [w_75, w_78, u_70]; exact c0_52.2)) (cwV 4 hts (gwV mw_1584 mw_1586 mw_54 mw_88 mw_1587) rfl rfl rfl hv_X12_goClone ⟨Nat.le_of_ble_eq_true rfl, Nat.le_of_ble_eq_true rfl⟩) ⟨PcT_blind, hg_recv hK o_c_86 rfl, PcT_pre hK hH⟩ rfl rfl hl.1 rfl (lv_room (Nat.le_of_ble_eq_true rfl)) dX12_binds_43 ⟨Nat.zero_le _, Nat.zero_le _⟩) hS (fun q _ h => AF.mono hS.1 h) (fun q h => AF.mono hS.1 h) (fun x_89 ux_89 t H locs ht hvm hx_89 hB hz hk hS => ?_)
    obtain ⟨eTx_89, eGx_89⟩ := hx_89
    obtain ⟨G_90, eG_90⟩ : ∃ z, z = ux_89.2 := ⟨_, rfl⟩
    rw [← eG_90] at eGx_89
    obtain ⟨hfr_91, hex_92⟩ := eGx_89
    have fr_93 : FR [107, 108, 109, 110, 114, 127, 128, 104, 105, 122] [(g.2.2 100), (g.2.2 115), (g.2.2 125), (g.2.2 126), (g.2.2 121)] [106] G G_90 := FR.tr fr_67 hfr_91 (by decide) (fun b h => ⟨h.1, h.2.1, h.2.2.1, h.2.2.2.1, trivial⟩) (by decide)
    have u_94 : G_90.1 102 = (G.1 102) := (hfr_91.1 102 (by decide)).trans u_68
    have u_95 : G_90.1 104 = (G.1 104) := (hfr_91.1 104 (by decide)).trans u_69
    have u_96 : G_90.1 113 = (G.1 113) := (hfr_91.1 113 (by decide)).trans u_70
    have u_97 : G_90.1 133 = (G.1 133) := (hfr_91.1 133 (by decide)).trans u_71
    have u_98 : G_90.1 137 = (G.1 137) := (hfr_91.1 137 (by decide)).trans u_72
    have u_99 : G_90.1 105 = 0 := (hfr_91.1 105 (by decide)).trans u_74
    have u_100 : G_90.1 122 = n_84 := (hfr_91.1 122 (by decide)).trans en_84
    have w_101 : G_90.2.1 (g.2.2 140) = (G.2.1 (g.2.2 140)) := (hfr_91.2.1 (g.2.2 140) ⟨(ne_kd hmk.2.2.2.2.2.2.2.2.2.2.2.2.2.2.2.2.2.2.1 hmk.1 (by decide)), (ne_kd hmk.2.2.2.2.2.2.2.2.2.2.2.2.2.2.2.2.2.2.1 hmk.2.2.2.1 (by decide)), (ne_kd hmk.2.2.2.2.2.2.2.2.2.2.2.2.2.2.2.2.2.2.1 hmk.2.2.2.2.2.2.2.2.1 (by decide)), (ne_kd hmk.2.2.2.2.2.2.2.2.2.2.2.2.2.2.2.2.2.2.1 hmk.2.2.2.2.2.2.2.2.2.1 (by decide)), trivial⟩).trans w_76
    have w_102 : G_90.2.1 (g.2.2 141) = (G.2.1 (g.2.2 141)) := (hfr_91.2.1 (g.2.2 141) ⟨(ne_kd hmk.2.2.2.2.2.2.2.2.2.2.2.2.2.2.2.2.2.2.2.1 hmk.1 (by decide)), (ne_kd hmk.2.2.2.2.2.2.2.2.2.2.2.2.2.2.2.2.2.2.2.1 hmk.2.2.2.1 (by decide)), (ne_kd hmk.2.2.2.2.2.2.2.2.2.2.2.2.2.2.2.2.2.2.2.1 hmk.2.2.2.2.2.2.2.2.1 (by decide)), (ne_kd hmk.2.2.2.2.2.2.2.2.2.2.2.2.2.2.2.2.2.2.2.1 hmk.2.2.2.2.2.2.2.2.2.1 (by decide)), trivial⟩).trans w_77
    have w_103 : G_90.2.1 (g.2.2 111) = (G.2.1 (g.2.2 111)) := (hfr_91.2.1 (g.2.2 111) ⟨(ne_kd hmk.2.2.2.2.2.2.2.2.2.2.2.2.2.2.2.2.2.2.2.2.1 hmk.1 (by decide)), (ne_kd hmk.2.2.2.2.2.2.2.2.2.2.2.2.2.2.2.2.2.2.2.2.1 hmk.2.2.2.1 (by decide)), (ne_kd hmk.2.2.2.2.2.2.2.2.2.2.2.2.2.2.2.2.2.2.2.2.1 hmk.2.2.2.2.2.2.2.2.1 (by decide)), (ne_kd hmk.2.2.2.2.2.2.2.2.2.2.2.2.2.2.2.2.2.2.2.2.1 hmk.2.2.2.2.2.2.2.2.2.1 (by decide)), trivial⟩).trans w_78
    have w_104 : G_90.2.1 (g.2.2 121) = f_83 := (hfr_91.2.1 (g.2.2 121) ⟨(ne_kd hmk.2.2.2.2.2.1 hmk.1 (by decide)), (ne_kd hmk.2.2.2.2.2.1 hmk.2.2.2.1 (by decide)), (ne_kd hmk.2.2.2.2.2.1 hmk.2.2.2.2.2.2.2.2.1 (by decide)), (ne_kd hmk.2.2.2.2.2.1 hmk.2.2.2.2.2.2.2.2.2.1 (by decide)), trivial⟩).trans ef_83
    have u_105 : G_90.2.2 111 = some (g.2.2 111) := (hfr_91.2.2 111 (by decide)).trans u_81
    have u_106 : G_90.2.2 112 = some (g.2.2 112) := (hfr_91.2.2 112 (by decide)).trans u_82
    obtain ⟨xa_107, xb_108⟩ := hex_92
    obtain ⟨f_109, ef_109⟩ : ∃ z : Nat → Int32, G_90.2.1 (g.2.2 100) = z := ⟨_, rfl⟩
    obtain ⟨f_110, ef_110⟩ : ∃ z : Nat → Int32, G_90.2.1 (g.2.2 125) = z := ⟨_, rfl⟩
    obtain ⟨f_111, ef_111⟩ : ∃ z : Nat → Int32, G_90.2.1 (g.2.2 126) = z := ⟨_, rfl⟩
    obtain ⟨n_112, en_112⟩ : ∃ z : Int32, G_90.1 127 = z := ⟨_, rfl⟩
    have hq_113 : F_X12_goClone_x (G.2.1 (g.2.2 100)) (G.2.1 (g.2.2 111)) (G.2.1 (g.2.2 125)) (G.2.1 (g.2.2 126)) (G.1 113) (G.1 127) a0 a1 a2 = (x_89, f_109, f_110, f_111, n_112) := by have q := xb_108; rw [w_75, w_78, w_79, w_80, u_70, u_73, ef_109, ef_110, ef_111, en_112] at q; exact q
    rw [hq_113, tu5_eq] at hv
    obtain ⟨f_114, ef_114⟩ : ∃ z : Nat → Int32, G_90.2.1 (g.2.2 100) = z := ⟨_, rfl⟩
    have gc_115 := xa_107
    rw [ef_114, w_75, w_78, u_70] at gc_115
    try rw [(ef_109).symm.trans (ef_114)] at hv
    have hH : HT g Ty G_90 H := by rw [← ht, ← eTx_89, eG_90]; exact hB
    obtain ⟨_, ⟨rfl, t_117, hk_118⟩, o_c_116⟩ := hH h0 _ k_h0
    refine va_calli (va_runV (As := [.int x_89]) (rest := []) ⟨hx, hb, hml, hown, hts⟩ (c_X12_tellCame_x l g Ty G_90 H.size h0 x_89 k_h0) (cwV 1 hts (gwV mw_1605 mw_1607 mw_57 mw_88 mw_1608) rfl rfl rfl hv_X12_tellCame ⟨Nat.le_of_ble_eq_true rfl, Nat.le_of_ble_eq_true rfl⟩) ⟨PcT_blind, hg_recv hK o_c_116 rfl, PcT_pre hK hH⟩ rfl rfl hl.1 rfl (lv_room (Nat.le_of_ble_eq_true rfl)) dX12_binds_46 ⟨Nat.zero_le _, Nat.zero_le _⟩) hS (fun q _ h => AF.mono hS.1 h) (fun q h => AF.mono hS.1 h) (fun x_119 ux_119 t H locs ht hvm hx_119 hB hz hk hS => ?_)
    obtain ⟨eTx_119, eGx_119⟩ := hx_119
    obtain ⟨G_120, eG_120⟩ : ∃ z, z = ux_119.2 := ⟨_, rfl⟩
    rw [← eG_120] at eGx_119
    obtain ⟨hfr_121, hex_122⟩ := eGx_119
    have fr_123 : FR [107, 108, 109, 110, 114, 127, 128, 104, 105, 122] [(g.2.2 100), (g.2.2 115), (g.2.2 125), (g.2.2 126), (g.2.2 121)] [106] G G_120 := FR.tr fr_93 hfr_121 (by decide) (fun _ _ => trivial) (by decide)
    have u_124 : G_120.1 102 = (G.1 102) := (hfr_121.1 102 (by decide)).trans u_94
    have u_125 : G_120.1 113 = (G.1 113) := (hfr_121.1 113 (by decide)).trans u_96
    have u_126 : G_120.1 133 = (G.1 133) := (hfr_121.1 133 (by decide)).trans u_97
    have u_127 : G_120.1 137 = (G.1 137) := (hfr_121.1 137 (by decide)).trans u_98
    have u_128 : G_120.1 105 = 0 := (hfr_121.1 105 (by decide)).trans u_99
    have u_129 : G_120.1 122 = n_84 := (hfr_121.1 122 (by decide)).trans u_100
    have u_130 : G_120.1 127 = n_112 := (hfr_121.1 127 (by decide)).trans en_112
    have w_131 : G_120.2.1 (g.2.2 140) = (G.2.1 (g.2.2 140)) := (hfr_121.2.1 (g.2.2 140) trivial).trans w_101
    have w_132 : G_120.2.1 (g.2.2 141) = (G.2.1 (g.2.2 141)) := (hfr_121.2.1 (g.2.2 141) trivial).trans w_102
    have w_133 : G_120.2.1 (g.2.2 111) = (G.2.1 (g.2.2 111)) := (hfr_121.2.1 (g.2.2 111) trivial).trans w_103
    have w_134 : G_120.2.1 (g.2.2 121) = f_83 := (hfr_121.2.1 (g.2.2 121) trivial).trans w_104
    have w_135 : G_120.2.1 (g.2.2 100) = f_114 := (hfr_121.2.1 (g.2.2 100) trivial).trans ef_114
    have w_136 : G_120.2.1 (g.2.2 125) = f_110 := (hfr_121.2.1 (g.2.2 125) trivial).trans ef_110
    have w_137 : G_120.2.1 (g.2.2 126) = f_111 := (hfr_121.2.1 (g.2.2 126) trivial).trans ef_111
    have u_138 : G_120.2.2 111 = some (g.2.2 111) := (hfr_121.2.2 111 (by decide)).trans u_105
    have u_139 : G_120.2.2 112 = some (g.2.2 112) := (hfr_121.2.2 112 (by decide)).trans u_106
    obtain ⟨xa_140, xb_141⟩ := hex_122
    have hq_142 : F_X12_tellCame_x x_89 = x_119 := by have q := xb_141; exact q
    try rw [hq_142] at hv
    have t4_143 : rgI (2) (2) (G_120.1 104) := xa_140
    have hH : HT g Ty G_120 H := by rw [← ht, ← eTx_119, eG_120]; exact hB
    exact W.iret hx hb hr (fun t ht hWm => ⟨⟨x_119, (Ty, G_120), rfl, ⟨rfl, ⟨fr_123, ⟨⟨(by rw [u_124]; exact (rg_w hI.a102 (by decide) (by decide))), (rg_w t4_143 (by decide) (by decide)), (by rw [u_125]; exact (rg_w hI.a113 (by decide) (by decide))), (by rw [u_129]; exact (rg_w rm_85.1 (by decide) (by decide))), (by rw [u_126]; exact (rg_w hI.a133 (by decide) (by decide))), (by rw [u_127]; exact (rg_w hI.a137 (by decide) (by decide))), u_138, u_139, (by rw [w_135]; exact (TI.hi gc_115.1 (by omega))), (by rw [w_134, u_129]; exact fun i hi => TI.hi (rm_85.2 i hi) (by omega)), (hI.ke2 (show Bd ≤ Bd + 1000 by omega) w_131 w_132)⟩, hv.symm.trans (by rw [w_135, w_136, w_137, u_130])⟩⟩⟩, by show HT g Ty G_120 t.heap; rw [ht]; exact hH⟩, hS.F ht⟩) hS.2.2 dX12_binds_49
  · rw [if_neg c_50] at hv
    have r_144 : rgI (-9) (-1) x_26 := rg_w (rg_ltL rx_26 rl_0 (nle_lt c_50)) (by decide) (by decide)
    refine lv_iload hx hb dX12_binds_23 (lv_at hl 0 rfl) ?_
    exact W.iret hx hb hr (fun t ht hWm => ⟨⟨x_26, (Ty, G_27), rfl, ⟨rfl, ⟨fr_30, ⟨⟨(by rw [u_31]; exact (rg_w hI.a102 (by decide) (by decide))), (by rw [u_32]; exact (rg_w hI.a104 (by decide) (by decide))), (by rw [u_33]; exact (rg_w hI.a113 (by decide) (by decide))), (by rw [u_34]; exact (rg_w hI.a122 (by decide) (by decide))), (by rw [u_35]; exact (rg_w hI.a133 (by decide) (by decide))), (by rw [u_36]; exact (rg_w hI.a137 (by decide) (by decide))), u_46, u_47, (by rw [w_39]; exact (hI.ti.hi (show Bd ≤ Bd + 1000 by omega))), (hI.un2 (show Bd ≤ Bd + 1000 by omega) w_40 u_34), (hI.ke2 (show Bd ≤ Bd + 1000 by omega) w_41 w_42)⟩, hv.symm.trans (by rw [w_39, w_44, w_45, u_37])⟩⟩⟩, by show HT g Ty G_27 t.heap; rw [ht]; exact hH⟩, hS.F ht⟩) hS.2.2 dX12_binds_25

def F_X12_makes_x (r0 : Nat → Int32) (a0 : Int32) (a1 : Int32) : Int32 × (Nat → Int32) := (if (0 : Int32) ≤ (F_X12_refusesMaking r0 a0 a1) then (tu1 (F_X12_goMake r0 a0 a1) (fun z2 => ((((10 : Int32) * (F_X12_kindOf r0 a0)) + (F_X12_kindOf z2 a0)), z2))) else ((F_X12_refusesMaking r0 a0 a1), r0))
set_option maxHeartbeats 4000000 in
set_option maxRecDepth 100000 in
theorem c_X12_makes_x (l : Launch) (g : Gx) (Ty : TyM) (G : Gh) (sz : Nat) (h0 : Nat) (a0 : Int32) (a1 : Int32) (k_h0 : Ty h0 = some (22, 0)) (Bd : Int) (hI : OI g Bd G) (hBd : Bd ≤ 1900000) (hLD : LD g) : Met l yX12_makes (wsG yX12_makes cX12_makes 5 (some .int)) ({ frames := 5, cells := 0, slots := 0, locals := 111 }) (PcT g Ty G sz [.ref h0, .int a0, .int a1]) (QwI g Ty sz (fun r u => u.1 = Ty ∧ FR [104, 105, 122] [(g.2.2 100), (g.2.2 121)] [] G u.2 ∧ OI g (Bd + 1000) u.2 ∧ F_X12_makes_x (G.2.1 (g.2.2 100)) a0 a1 = (r, (u.2.2.1 (g.2.2 100))))) 0 0 (AF Ty sz) := by
  refine Met.ofW (cc := cX12_makes) (maxL := 5) (ret := (some .int)) (by decide) rfl ?_
  intro p e s m args below meth c s₁ B hml hv
  obtain ⟨rfl, hsz, hK, hH⟩ := hv
  subst hsz
  have hx := B.exec
  have hb := B.bytes
  have hr := B.returns
  have hts := atoms_spec (ws := (wsG yX12_makes cX12_makes 5 (some .int))) B.pre
  have hG : ∀ w ∈ GW, w.before ([.ref h0, .int a0, .int a1] : List Value).toArray s = true := fun w h => hts w (List.mem_cons_of_mem _ h)
  have hown : s.vm.findClass RX12 = some m.cls := findClass_of_methodNamed B.named
  have hlocks := B.notSynchronized
  have hl := lv_entry [.ref h0, .int a0, .int a1] (n := 5) (Nat.le_of_ble_eq_true rfl)
  rw [lg_entry_eq]
  generalize (lg_sl [.ref h0, .int a0, .int a1] ++ List.replicate (5 - (lg_sl [.ref h0, .int a0, .int a1]).length) Slot.unset).toArray = ls at hl ⊢
  have hl : lv_has ls 5 [(0, .ref h0), (1, .int a0), (2, .int a1)] := hl
  have hmk : mdK g Ty := mdk_of hH k_h0
  have hv : (if (0 : Int32) ≤ (F_X12_refusesMaking (G.2.1 (g.2.2 100)) a0 a1) then (tu1 (F_X12_goMake (G.2.1 (g.2.2 100)) a0 a1) (fun z1 => ((((10 : Int32) * (F_X12_kindOf (G.2.1 (g.2.2 100)) a0)) + (F_X12_kindOf z1 a0)), z1))) else ((F_X12_refusesMaking (G.2.1 (g.2.2 100)) a0 a1), (G.2.1 (g.2.2 100)))) = F_X12_makes_x (G.2.1 (g.2.2 100)) a0 a1 := rfl
  have hS : va_S (AF Ty s.heap.size) s.heap s.heap [] := va_S.rf
  obtain ⟨⟨σ0, hTS0⟩, h10, hBB0⟩ := id hI.ti
  obtain ⟨ρ, hT⟩ := hTS0.1
  refine lv_aload_n hx hb dX12_makes_0 rfl (lv_at hl 0 rfl) ?_
  refine lv_iconst (v := 0) hx hb dX12_makes_1 (by decide) ?_
  obtain ⟨_, ⟨rfl, t_2, hk_3⟩, o_c_1⟩ := hH h0 _ k_h0
  refine hg_put (ty := .int) hx hb hG igX12 tyX12 tyX12_ok nmX12 hown hK hS o_c_1 (AF.of k_h0) rfl 5 (by decide) (hG _ mw_1289) rfl (by decide +kernel) rfl rfl (Nat.le_of_ble_eq_true rfl) dX12_makes_2 (fun H locs o_c_1 hz oq hS => ?_)
  obtain ⟨G_4, eG_4⟩ : ∃ z : Gh, z = gset G 105 0 := ⟨_, rfl⟩
  have hH : HT g Ty G_4 H := by rw [eG_4]; exact HT.putN 105 0 hH k_h0 ⟨rfl, t_2, hk_3⟩ o_c_1 oq (Or.inr (Or.inr (Or.inr (Or.inr (Or.inr ⟨by decide, t_2⟩)))))
  have fr_5 : FR [104, 105, 122] [(g.2.2 100), (g.2.2 121)] [] G G_4 := FR.n FR.rf eG_4 (by decide)
  have u_6 : G_4.1 102 = (G.1 102) := by rw [eG_4]; exact (gs_ne (by decide))
  have u_7 : G_4.1 104 = (G.1 104) := by rw [eG_4]; exact (gs_ne (by decide))
  have u_8 : G_4.1 113 = (G.1 113) := by rw [eG_4]; exact (gs_ne (by decide))
  have u_9 : G_4.1 122 = (G.1 122) := by rw [eG_4]; exact (gs_ne (by decide))
  have u_10 : G_4.1 133 = (G.1 133) := by rw [eG_4]; exact (gs_ne (by decide))
  have u_11 : G_4.1 137 = (G.1 137) := by rw [eG_4]; exact (gs_ne (by decide))
  have u_12 : G_4.1 105 = 0 := by rw [eG_4]; exact gs_eq
  have w_13 : G_4.2.1 (g.2.2 100) = (G.2.1 (g.2.2 100)) := by rw [eG_4]; exact rfl
  have w_14 : G_4.2.1 (g.2.2 121) = (G.2.1 (g.2.2 121)) := by rw [eG_4]; exact rfl
  have w_15 : G_4.2.1 (g.2.2 140) = (G.2.1 (g.2.2 140)) := by rw [eG_4]; exact rfl
  have w_16 : G_4.2.1 (g.2.2 141) = (G.2.1 (g.2.2 141)) := by rw [eG_4]; exact rfl
  have w_17 : G_4.2.1 (g.2.2 111) = (G.2.1 (g.2.2 111)) := by rw [eG_4]; exact rfl
  have u_18 : G_4.2.2 111 = some (g.2.2 111) := by rw [eG_4]; exact hI.r111
  have u_19 : G_4.2.2 112 = some (g.2.2 112) := by rw [eG_4]; exact hI.r112
  clear oq hz
  refine lv_aload_n hx hb dX12_makes_5 rfl (lv_at hl 0 rfl) ?_
  obtain ⟨_, ⟨rfl, t_21, hk_22⟩, o_c_20⟩ := hH h0 _ k_h0
  refine hg_get hx hb hG igX12 hown hK o_c_20 rfl 0 (by decide) (hG _ mw_1284) rfl dX12_makes_6 ?_
  refine lv_iload_n hx hb dX12_makes_9 rfl (lv_at hl 1 rfl) ?_
  refine lv_iload_n hx hb dX12_makes_10 rfl (lv_at hl 2 rfl) ?_
  refine vp_callSi (W.runS (As := [.ref (g.2.2 100), .int a0, .int a1]) (rest := []) ⟨hx, hb, hml, hown, hts⟩ (c_X12_refusesMaking l g Ty G_4 (g.2.2 100) a0 a1 (hk_22.1)) (cwSx 3 hts hG (gwC mw_1642) mw_88 mw_1640 mw_1641 rfl rfl rfl hd_X12_refusesMaking ⟨Nat.le_of_ble_eq_true rfl, Nat.le_of_ble_eq_true rfl⟩) ⟨PcH_blind, PcH_pre hK hH⟩ rfl rfl hl.1 rfl (lv_room (Nat.le_of_ble_eq_true rfl)) dX12_makes_11 ⟨Nat.zero_le _, Nat.zero_le _⟩) (fun x_23 hx_23 => ?_)
  have rx_23 : rgI (-2) (0) x_23 := hx_23.1
  try rw [← hx_23.2] at hv
  have ex_24 : x_23 = F_X12_refusesMaking (G.2.1 (g.2.2 100)) a0 a1 := by rw [← w_13]; exact hx_23.2
  try rw [← ex_24] at hv
  refine lv_istore_n (lv' := [(3, .int x_23), (0, .ref h0), (1, .int a0), (2, .int a1)]) hx hb dX12_makes_14 rfl hl (by decide) rfl (fun ls hl => ?_)
  refine lv_iload_n hx hb dX12_makes_15 rfl (lv_at hl 0 rfl) ?_
  refine lv_if_ge (tgt := 21) hx hb dX12_makes_16 (by decide) (fun c_25 => ?_) (fun c_25 => ?_)
  · rw [if_pos c_25] at hv
    have r_26 : rgI (0) (0) x_23 := rg_w (rg_leR rl_0 rx_23 c_25) (by decide) (by decide)
    have th_27 : thr (G.2.1 (g.2.2 100)) a0 := rk_0 ex_24 r_26 c_25
    have r_28 : rgI (0) (23) a0 := rg_w (th_27.1) (by decide) (by decide)
    refine lv_aload_n hx hb dX12_makes_21 rfl (lv_at hl 1 rfl) ?_
    refine lv_aload_n hx hb dX12_makes_22 rfl (lv_at hl 1 rfl) ?_
    refine hg_get hx hb hG igX12 hown hK o_c_20 rfl 0 (by decide) (hG _ mw_1284) rfl dX12_makes_23 ?_
    refine va_callv (va_runV (As := [.ref (g.2.2 100)]) (rest := []) ⟨hx, hb, hml, hown, hts⟩ (c_X12_remember l g Ty G_4 H.size h0 (g.2.2 100) k_h0 (hk_22.1) Bd (by rw [w_13]; exact hI.ti) (by rw [u_9]; exact (rg_w hI.a122 (by decide) (by decide))) (by rw [u_9, w_14]; exact hI.un)) (cwV 1 hts (gwV mw_1577 mw_1579 mw_53 mw_88 mw_1580) rfl rfl rfl hv_X12_remember ⟨Nat.le_of_ble_eq_true rfl, Nat.le_of_ble_eq_true rfl⟩) ⟨PcT_blind, hg_recv hK o_c_20 rfl, PcT_pre hK hH⟩ rfl rfl hl.1 rfl (lv_room (Nat.le_of_ble_eq_true rfl)) dX12_makes_26 ⟨Nat.zero_le _, Nat.zero_le _⟩) hS (fun q _ h => AF.mono hS.1 h) (fun q h => AF.mono hS.1 h) (fun ux_29 t H locs ht hvm hx_29 hB hz hk hS => ?_)
    obtain ⟨eTx_29, eGx_29⟩ := hx_29
    obtain ⟨G_30, eG_30⟩ : ∃ z, z = ux_29.2 := ⟨_, rfl⟩
    rw [← eG_30] at eGx_29
    obtain ⟨hfr_31, hex_32⟩ := eGx_29
    have fr_33 : FR [104, 105, 122] [(g.2.2 100), (g.2.2 121)] [] G G_30 := FR.tr fr_5 hfr_31 (by decide) (fun b h => ⟨h.2.1, trivial⟩) (by decide)
    have u_34 : G_30.1 102 = (G.1 102) := (hfr_31.1 102 (by decide)).trans u_6
    have u_35 : G_30.1 104 = (G.1 104) := (hfr_31.1 104 (by decide)).trans u_7
    have u_36 : G_30.1 113 = (G.1 113) := (hfr_31.1 113 (by decide)).trans u_8
    have u_37 : G_30.1 133 = (G.1 133) := (hfr_31.1 133 (by decide)).trans u_10
    have u_38 : G_30.1 137 = (G.1 137) := (hfr_31.1 137 (by decide)).trans u_11
    have u_39 : G_30.1 105 = 0 := (hfr_31.1 105 (by decide)).trans u_12
    have w_40 : G_30.2.1 (g.2.2 100) = (G.2.1 (g.2.2 100)) := (hfr_31.2.1 (g.2.2 100) ⟨(ne_kd hmk.1 hmk.2.2.2.2.2.1 (by decide)), trivial⟩).trans w_13
    have w_41 : G_30.2.1 (g.2.2 140) = (G.2.1 (g.2.2 140)) := (hfr_31.2.1 (g.2.2 140) ⟨(ne_kd hmk.2.2.2.2.2.2.2.2.2.2.2.2.2.2.2.2.2.2.1 hmk.2.2.2.2.2.1 (by decide)), trivial⟩).trans w_15
    have w_42 : G_30.2.1 (g.2.2 141) = (G.2.1 (g.2.2 141)) := (hfr_31.2.1 (g.2.2 141) ⟨(ne_kd hmk.2.2.2.2.2.2.2.2.2.2.2.2.2.2.2.2.2.2.2.1 hmk.2.2.2.2.2.1 (by decide)), trivial⟩).trans w_16
    have w_43 : G_30.2.1 (g.2.2 111) = (G.2.1 (g.2.2 111)) := (hfr_31.2.1 (g.2.2 111) ⟨(ne_kd hmk.2.2.2.2.2.2.2.2.2.2.2.2.2.2.2.2.2.2.2.2.1 hmk.2.2.2.2.2.1 (by decide)), trivial⟩).trans w_17
    have u_44 : G_30.2.2 111 = some (g.2.2 111) := (hfr_31.2.2 111 (by decide)).trans u_18
    have u_45 : G_30.2.2 112 = some (g.2.2 112) := (hfr_31.2.2 112 (by decide)).trans u_19
    obtain ⟨f_46, ef_46⟩ : ∃ z : Nat → Int32, G_30.2.1 (g.2.2 121) = z := ⟨_, rfl⟩
    obtain ⟨n_47, en_47⟩ : ∃ z : Int32, G_30.1 122 = z := ⟨_, rfl⟩
    have rm_48 := hex_32
    rw [ef_46, en_47] at rm_48
    have hH : HT g Ty G_30 H := by rw [← ht, ← eTx_29, eG_30]; exact hB
    refine lv_aload_n hx hb dX12_makes_29 rfl (lv_at hl 1 rfl) ?_
    obtain ⟨_, ⟨rfl, t_50, hk_51⟩, o_c_49⟩ := hH h0 _ k_h0
    refine hg_get hx hb hG igX12 hown hK o_c_49 rfl 0 (by decide) (hG _ mw_1284) rfl dX12_makes_30 ?_
    refine lv_iload_n hx hb dX12_makes_33 rfl (lv_at hl 2 rfl) ?_
    refine vp_callSi (W.runS (As := [.ref (g.2.2 100), .int a0]) (rest := []) ⟨hx, hb, hml, hown, hts⟩ (c_X12_kindOf l g Ty G_30 (g.2.2 100) a0 (hk_51.1) (rg_w r_28 (by decide) (by decide))) (cwSx 2 hts hG (gwC mw_1527) mw_88 mw_1525 mw_1526 rfl rfl rfl hd_X12_kindOf ⟨Nat.le_of_ble_eq_true rfl, Nat.le_of_ble_eq_true rfl⟩) ⟨PcH_blind, PcH_pre hK hH⟩ rfl rfl hl.1 rfl (lv_room (Nat.le_of_ble_eq_true rfl)) dX12_makes_34 ⟨Nat.zero_le _, Nat.zero_le _⟩) (fun x_52 hx_52 => ?_)
    try rw [← hx_52] at hv
    have ex_53 : x_52 = F_X12_kindOf (G.2.1 (g.2.2 100)) a0 := by rw [← w_40]; exact hx_52
    try rw [← ex_53] at hv
    refine lv_istore (lv' := [(4, .int x_52), (3, .int x_23), (0, .ref h0), (1, .int a0), (2, .int a1)]) hx hb dX12_makes_37 hl (by decide) rfl (fun ls hl => ?_)
    refine lv_aload_n hx hb dX12_makes_39 rfl (lv_at hl 2 rfl) ?_
    refine hg_get hx hb hG igX12 hown hK o_c_49 rfl 0 (by decide) (hG _ mw_1284) rfl dX12_makes_40 ?_
    refine lv_iload_n hx hb dX12_makes_43 rfl (lv_at hl 3 rfl) ?_
    refine lv_iload_n hx hb dX12_makes_44 rfl (lv_at hl 4 rfl) ?_
    refine va_callv (va_runS (As := [.ref (g.2.2 100), .int a0, .int a1]) (rest := []) ⟨hx, hb, hml, hown, hts⟩ (c_X12_goMake l g Ty G_30 H.size (g.2.2 100) a0 a1 (hk_51.1) (rg_w r_28 (by decide) (by decide))) (cwSx 3 hts hG (gwC mw_1645) mw_88 mw_1643 mw_1644 rfl rfl rfl hd_X12_goMake ⟨Nat.le_of_ble_eq_true rfl, Nat.le_of_ble_eq_true rfl⟩) ⟨PcT_blind, PcT_pre hK hH⟩ rfl rfl hl.1 rfl (lv_room (Nat.le_of_ble_eq_true rfl)) dX12_makes_45 ⟨Nat.zero_le _, Nat.zero_le _⟩) hS (fun q _ h => AF.mono hS.1 h) (fun q h => AF.mono hS.1 h) (fun ux_54 t H locs ht hvm hx_54 hB hz hk hS => ?_)
    obtain ⟨eTx_54, eGx_54⟩ := hx_54
    obtain ⟨G_55, eG_55⟩ : ∃ z, z = ux_54.2 := ⟨_, rfl⟩
    rw [← eG_55] at eGx_54
    have hg_57 := eGx_54
    rw [w_40] at hg_57
    obtain ⟨f_56, ef_56⟩ : ∃ z : Nat → Int32, z = F_X12_goMake (G.2.1 (g.2.2 100)) a0 a1 := ⟨_, rfl⟩
    rw [← ef_56] at hg_57
    have fr_58 : FR [104, 105, 122] [(g.2.2 100), (g.2.2 121)] [] G G_55 := FR.a fr_33 hg_57 (fun b h => h.1)
    have u_59 : G_55.1 102 = (G.1 102) := by rw [hg_57]; exact u_34
    have u_60 : G_55.1 104 = (G.1 104) := by rw [hg_57]; exact u_35
    have u_61 : G_55.1 113 = (G.1 113) := by rw [hg_57]; exact u_36
    have u_62 : G_55.1 133 = (G.1 133) := by rw [hg_57]; exact u_37
    have u_63 : G_55.1 137 = (G.1 137) := by rw [hg_57]; exact u_38
    have u_64 : G_55.1 105 = 0 := by rw [hg_57]; exact u_39
    have u_65 : G_55.1 122 = n_47 := by rw [hg_57]; exact en_47
    have w_66 : G_55.2.1 (g.2.2 100) = f_56 := by rw [hg_57]; exact aset_eq
    have w_67 : G_55.2.1 (g.2.2 140) = (G.2.1 (g.2.2 140)) := by rw [hg_57]; exact (aset_ne (ne_kd hmk.2.2.2.2.2.2.2.2.2.2.2.2.2.2.2.2.2.2.1 hmk.1 (by decide))).trans w_41
    have w_68 : G_55.2.1 (g.2.2 141) = (G.2.1 (g.2.2 141)) := by rw [hg_57]; exact (aset_ne (ne_kd hmk.2.2.2.2.2.2.2.2.2.2.2.2.2.2.2.2.2.2.2.1 hmk.1 (by decide))).trans w_42
    have w_69 : G_55.2.1 (g.2.2 111) = (G.2.1 (g.2.2 111)) := by rw [hg_57]; exact (aset_ne (ne_kd hmk.2.2.2.2.2.2.2.2.2.2.2.2.2.2.2.2.2.2.2.2.1 hmk.1 (by decide))).trans w_43
    have w_70 : G_55.2.1 (g.2.2 121) = f_46 := by rw [hg_57]; exact (aset_ne (ne_kd hmk.2.2.2.2.2.1 hmk.1 (by decide))).trans ef_46
    have u_71 : G_55.2.2 111 = some (g.2.2 111) := by rw [hg_57]; exact u_44
    have u_72 : G_55.2.2 112 = some (g.2.2 112) := by rw [hg_57]; exact u_45
    rw [← ef_56, tu1_eq] at hv
    have hH : HT g Ty G_55 H := by rw [← ht, ← eTx_54, eG_55]; exact hB
    have tm_73 : TI (Bd + 25) f_56 := by rw [ef_56]; exact (TI_make hI.ti (Int.le_trans hBd (by decide)) th_27).1
    refine lv_bipush (v := 10) hx hb dX12_makes_48 (by decide) ?_
    refine lv_iload hx hb dX12_makes_50 (lv_at hl 0 rfl) ?_
    refine lv_imul hx hb dX12_makes_52 ?_
    refine lv_topi (fun x_74 ex_74 => ?_)
    try rw [← ex_74] at hv
    refine lv_aload_n hx hb dX12_makes_53 rfl (lv_at hl 2 rfl) ?_
    obtain ⟨_, ⟨rfl, t_76, hk_77⟩, o_c_75⟩ := hH h0 _ k_h0
    refine hg_get hx hb hG igX12 hown hK o_c_75 rfl 0 (by decide) (hG _ mw_1284) rfl dX12_makes_54 ?_
    refine lv_iload_n hx hb dX12_makes_57 rfl (lv_at hl 3 rfl) ?_
    refine vp_callSi (W.runS (As := [.ref (g.2.2 100), .int a0]) (rest := [.int x_74]) ⟨hx, hb, hml, hown, hts⟩ (c_X12_kindOf l g Ty G_55 (g.2.2 100) a0 (hk_77.1) (rg_w r_28 (by decide) (by decide))) (cwSx 2 hts hG (gwC mw_1527) mw_88 mw_1525 mw_1526 rfl rfl rfl hd_X12_kindOf ⟨Nat.le_of_ble_eq_true rfl, Nat.le_of_ble_eq_true rfl⟩) ⟨PcH_blind, PcH_pre hK hH⟩ rfl rfl hl.1 rfl (lv_room (Nat.le_of_ble_eq_true rfl)) dX12_makes_58 ⟨Nat.zero_le _, Nat.zero_le _⟩) (fun x_78 hx_78 => ?_)
    try rw [← hx_78] at hv
    have ex_79 : x_78 = F_X12_kindOf f_56 a0 := by rw [← w_66]; exact hx_78
    try rw [← ex_79] at hv
    refine lv_iadd hx hb dX12_makes_61 ?_
    refine lv_topi (fun x_80 ex_80 => ?_)
    try rw [← ex_80] at hv
    exact W.iret hx hb hr (fun t ht hWm => ⟨⟨x_80, (Ty, G_55), rfl, ⟨rfl, ⟨fr_58, ⟨⟨(by rw [u_59]; exact (rg_w hI.a102 (by decide) (by decide))), (by rw [u_60]; exact (rg_w hI.a104 (by decide) (by decide))), (by rw [u_61]; exact (rg_w hI.a113 (by decide) (by decide))), (by rw [u_65]; exact (rg_w rm_48.1 (by decide) (by decide))), (by rw [u_62]; exact (rg_w hI.a133 (by decide) (by decide))), (by rw [u_63]; exact (rg_w hI.a137 (by decide) (by decide))), u_71, u_72, (by rw [w_66]; exact (TI.hi tm_73 (by omega))), (by rw [w_70, u_65]; exact fun i hi => TI.hi (rm_48.2 i hi) (by omega)), (hI.ke2 (show Bd ≤ Bd + 1000 by omega) w_67 w_68)⟩, hv.symm.trans (by rw [w_66])⟩⟩⟩, by show HT g Ty G_55 t.heap; rw [ht]; exact hH⟩, hS.F ht⟩) hS.2.2 dX12_makes_62
  · rw [if_neg c_25] at hv
    have r_81 : rgI (-2) (-1) x_23 := rg_w (rg_ltL rx_23 rl_0 (nle_lt c_25)) (by decide) (by decide)
    refine lv_iload_n hx hb dX12_makes_19 rfl (lv_at hl 0 rfl) ?_
    exact W.iret hx hb hr (fun t ht hWm => ⟨⟨x_23, (Ty, G_4), rfl, ⟨rfl, ⟨fr_5, ⟨⟨(by rw [u_6]; exact (rg_w hI.a102 (by decide) (by decide))), (by rw [u_7]; exact (rg_w hI.a104 (by decide) (by decide))), (by rw [u_8]; exact (rg_w hI.a113 (by decide) (by decide))), (by rw [u_9]; exact (rg_w hI.a122 (by decide) (by decide))), (by rw [u_10]; exact (rg_w hI.a133 (by decide) (by decide))), (by rw [u_11]; exact (rg_w hI.a137 (by decide) (by decide))), u_18, u_19, (by rw [w_13]; exact (hI.ti.hi (show Bd ≤ Bd + 1000 by omega))), (hI.un2 (show Bd ≤ Bd + 1000 by omega) w_14 u_9), (hI.ke2 (show Bd ≤ Bd + 1000 by omega) w_15 w_16)⟩, hv.symm.trans (by rw [w_13])⟩⟩⟩, by show HT g Ty G_4 t.heap; rw [ht]; exact hH⟩, hS.F ht⟩) hS.2.2 dX12_makes_20

def F_X12_unmounts_x (r0 : Nat → Int32) (r1 : Nat → Int32) (m113 : Int32) (a0 : Int32) (a1 : Int32) : Int32 × (Nat → Int32) := (if (0 : Int32) ≤ (F_X12_refusesUnmount r0 a0 a1) then (tu2 (F_X12_goUnmount_x r0 r1 m113 a0 a1) (fun z3 z4 => ((F_J6_bitCount_0f7a4 z3), z4))) else ((F_X12_refusesUnmount r0 a0 a1), r0))
set_option maxHeartbeats 4000000 in
set_option maxRecDepth 100000 in
theorem c_X12_unmounts_x (l : Launch) (g : Gx) (Ty : TyM) (G : Gh) (sz : Nat) (h0 : Nat) (a0 : Int32) (a1 : Int32) (k_h0 : Ty h0 = some (22, 0)) (Bd : Int) (hI : OI g Bd G) (hBd : Bd ≤ 1900000) (hLD : LD g) : Met l yX12_unmounts (wsG yX12_unmounts cX12_unmounts 5 (some .int)) ({ frames := 341, cells := 0, slots := 0, locals := 7997 }) (PcT g Ty G sz [.ref h0, .int a0, .int a1]) (QwI g Ty sz (fun r u => u.1 = Ty ∧ FR [107, 108, 109, 110, 114, 104, 105, 122] [(g.2.2 100), (g.2.2 115), (g.2.2 121)] [106] G u.2 ∧ OI g (Bd + 1000) u.2 ∧ F_X12_unmounts_x (G.2.1 (g.2.2 100)) (G.2.1 (g.2.2 111)) (G.1 113) a0 a1 = (r, (u.2.2.1 (g.2.2 100))))) 0 0 (AF Ty sz) := by
  refine Met.ofW (cc := cX12_unmounts) (maxL := 5) (ret := (some .int)) (by decide) rfl ?_
  intro p e s m args below meth c s₁ B hml hv
  obtain ⟨rfl, hsz, hK, hH⟩ := hv
  subst hsz
  have hx := B.exec
  have hb := B.bytes
  have hr := B.returns
  have hts := atoms_spec (ws := (wsG yX12_unmounts cX12_unmounts 5 (some .int))) B.pre
  have hG : ∀ w ∈ GW, w.before ([.ref h0, .int a0, .int a1] : List Value).toArray s = true := fun w h => hts w (List.mem_cons_of_mem _ h)
  have hown : s.vm.findClass RX12 = some m.cls := findClass_of_methodNamed B.named
  have hlocks := B.notSynchronized
  have hl := lv_entry [.ref h0, .int a0, .int a1] (n := 5) (Nat.le_of_ble_eq_true rfl)
  rw [lg_entry_eq]
  generalize (lg_sl [.ref h0, .int a0, .int a1] ++ List.replicate (5 - (lg_sl [.ref h0, .int a0, .int a1]).length) Slot.unset).toArray = ls at hl ⊢
  have hl : lv_has ls 5 [(0, .ref h0), (1, .int a0), (2, .int a1)] := hl
  have hmk : mdK g Ty := mdk_of hH k_h0
  have hv : (if (0 : Int32) ≤ (F_X12_refusesUnmount (G.2.1 (g.2.2 100)) a0 a1) then (tu2 (F_X12_goUnmount_x (G.2.1 (g.2.2 100)) (G.2.1 (g.2.2 111)) (G.1 113) a0 a1) (fun z1 z2 => ((F_J6_bitCount_0f7a4 z1), z2))) else ((F_X12_refusesUnmount (G.2.1 (g.2.2 100)) a0 a1), (G.2.1 (g.2.2 100)))) = F_X12_unmounts_x (G.2.1 (g.2.2 100)) (G.2.1 (g.2.2 111)) (G.1 113) a0 a1 := rfl
  have hS : va_S (AF Ty s.heap.size) s.heap s.heap [] := va_S.rf
  obtain ⟨⟨σ0, hTS0⟩, h10, hBB0⟩ := id hI.ti
  obtain ⟨ρ, hT⟩ := hTS0.1
  refine lv_aload_n hx hb dX12_unmounts_0 rfl (lv_at hl 0 rfl) ?_
  refine lv_iconst (v := 0) hx hb dX12_unmounts_1 (by decide) ?_
  obtain ⟨_, ⟨rfl, t_2, hk_3⟩, o_c_1⟩ := hH h0 _ k_h0
  refine hg_put (ty := .int) hx hb hG igX12 tyX12 tyX12_ok nmX12 hown hK hS o_c_1 (AF.of k_h0) rfl 5 (by decide) (hG _ mw_1289) rfl (by decide +kernel) rfl rfl (Nat.le_of_ble_eq_true rfl) dX12_unmounts_2 (fun H locs o_c_1 hz oq hS => ?_)
  obtain ⟨G_4, eG_4⟩ : ∃ z : Gh, z = gset G 105 0 := ⟨_, rfl⟩
  have hH : HT g Ty G_4 H := by rw [eG_4]; exact HT.putN 105 0 hH k_h0 ⟨rfl, t_2, hk_3⟩ o_c_1 oq (Or.inr (Or.inr (Or.inr (Or.inr (Or.inr ⟨by decide, t_2⟩)))))
  have fr_5 : FR [107, 108, 109, 110, 114, 104, 105, 122] [(g.2.2 100), (g.2.2 115), (g.2.2 121)] [106] G G_4 := FR.n FR.rf eG_4 (by decide)
  have u_6 : G_4.1 102 = (G.1 102) := by rw [eG_4]; exact (gs_ne (by decide))
  have u_7 : G_4.1 104 = (G.1 104) := by rw [eG_4]; exact (gs_ne (by decide))
  have u_8 : G_4.1 113 = (G.1 113) := by rw [eG_4]; exact (gs_ne (by decide))
  have u_9 : G_4.1 122 = (G.1 122) := by rw [eG_4]; exact (gs_ne (by decide))
  have u_10 : G_4.1 133 = (G.1 133) := by rw [eG_4]; exact (gs_ne (by decide))
  have u_11 : G_4.1 137 = (G.1 137) := by rw [eG_4]; exact (gs_ne (by decide))
  have u_12 : G_4.1 105 = 0 := by rw [eG_4]; exact gs_eq
  have w_13 : G_4.2.1 (g.2.2 100) = (G.2.1 (g.2.2 100)) := by rw [eG_4]; exact rfl
  have w_14 : G_4.2.1 (g.2.2 121) = (G.2.1 (g.2.2 121)) := by rw [eG_4]; exact rfl
  have w_15 : G_4.2.1 (g.2.2 140) = (G.2.1 (g.2.2 140)) := by rw [eG_4]; exact rfl
  have w_16 : G_4.2.1 (g.2.2 141) = (G.2.1 (g.2.2 141)) := by rw [eG_4]; exact rfl
  have w_17 : G_4.2.1 (g.2.2 111) = (G.2.1 (g.2.2 111)) := by rw [eG_4]; exact rfl
  have u_18 : G_4.2.2 111 = some (g.2.2 111) := by rw [eG_4]; exact hI.r111
  have u_19 : G_4.2.2 112 = some (g.2.2 112) := by rw [eG_4]; exact hI.r112
  clear oq hz
  refine lv_aload_n hx hb dX12_unmounts_5 rfl (lv_at hl 0 rfl) ?_
  obtain ⟨_, ⟨rfl, t_21, hk_22⟩, o_c_20⟩ := hH h0 _ k_h0
  refine hg_get hx hb hG igX12 hown hK o_c_20 rfl 0 (by decide) (hG _ mw_1284) rfl dX12_unmounts_6 ?_
  refine lv_iload_n hx hb dX12_unmounts_9 rfl (lv_at hl 1 rfl) ?_
  refine lv_iload_n hx hb dX12_unmounts_10 rfl (lv_at hl 2 rfl) ?_
  refine vp_callSi (W.runS (As := [.ref (g.2.2 100), .int a0, .int a1]) (rest := []) ⟨hx, hb, hml, hown, hts⟩ (c_X12_refusesUnmount l g Ty G_4 (g.2.2 100) a0 a1 (hk_22.1)) (cwSx 3 hts hG (gwC mw_1655) mw_88 mw_1653 mw_1654 rfl rfl rfl hd_X12_refusesUnmount ⟨Nat.le_of_ble_eq_true rfl, Nat.le_of_ble_eq_true rfl⟩) ⟨PcH_blind, PcH_pre hK hH⟩ rfl rfl hl.1 rfl (lv_room (Nat.le_of_ble_eq_true rfl)) dX12_unmounts_11 ⟨Nat.zero_le _, Nat.zero_le _⟩) (fun x_23 hx_23 => ?_)
  have rx_23 : rgI (-3) (0) x_23 := hx_23.1
  try rw [← hx_23.2] at hv
  have ex_24 : x_23 = F_X12_refusesUnmount (G.2.1 (g.2.2 100)) a0 a1 := by rw [← w_13]; exact hx_23.2
  try rw [← ex_24] at hv
  refine lv_istore_n (lv' := [(3, .int x_23), (0, .ref h0), (1, .int a0), (2, .int a1)]) hx hb dX12_unmounts_14 rfl hl (by decide) rfl (fun ls hl => ?_)
  refine lv_iload_n hx hb dX12_unmounts_15 rfl (lv_at hl 0 rfl) ?_
  refine lv_if_ge (tgt := 21) hx hb dX12_unmounts_16 (by decide) (fun c_25 => ?_) (fun c_25 => ?_)
  · rw [if_pos c_25] at hv
    have r_26 : rgI (0) (0) x_23 := rg_w (rg_leR rl_0 rx_23 c_25) (by decide) (by decide)
    have th_27 : thr (G.2.1 (g.2.2 100)) a0 := ru_0 ex_24 r_26 c_25
    have r_28 : rgI (0) (23) a0 := rg_w (th_27.1) (by decide) (by decide)
    refine lv_aload_n hx hb dX12_unmounts_21 rfl (lv_at hl 1 rfl) ?_
    refine lv_aload_n hx hb dX12_unmounts_22 rfl (lv_at hl 1 rfl) ?_
    refine hg_get hx hb hG igX12 hown hK o_c_20 rfl 0 (by decide) (hG _ mw_1284) rfl dX12_unmounts_23 ?_
    refine va_callv (va_runV (As := [.ref (g.2.2 100)]) (rest := []) ⟨hx, hb, hml, hown, hts⟩ (c_X12_remember l g Ty G_4 H.size h0 (g.2.2 100) k_h0 (hk_22.1) Bd (by rw [w_13]; exact hI.ti) (by rw [u_9]; exact (rg_w hI.a122 (by decide) (by decide))) (by rw [u_9, w_14]; exact hI.un)) (cwV 1 hts (gwV mw_1577 mw_1579 mw_53 mw_88 mw_1580) rfl rfl rfl hv_X12_remember ⟨Nat.le_of_ble_eq_true rfl, Nat.le_of_ble_eq_true rfl⟩) ⟨PcT_blind, hg_recv hK o_c_20 rfl, PcT_pre hK hH⟩ rfl rfl hl.1 rfl (lv_room (Nat.le_of_ble_eq_true rfl)) dX12_unmounts_26 ⟨Nat.zero_le _, Nat.zero_le _⟩) hS (fun q _ h => AF.mono hS.1 h) (fun q h => AF.mono hS.1 h) (fun ux_29 t H locs ht hvm hx_29 hB hz hk hS => ?_)
    obtain ⟨eTx_29, eGx_29⟩ := hx_29
    obtain ⟨G_30, eG_30⟩ : ∃ z, z = ux_29.2 := ⟨_, rfl⟩
    rw [← eG_30] at eGx_29
    obtain ⟨hfr_31, hex_32⟩ := eGx_29
    have fr_33 : FR [107, 108, 109, 110, 114, 104, 105, 122] [(g.2.2 100), (g.2.2 115), (g.2.2 121)] [106] G G_30 := FR.tr fr_5 hfr_31 (by decide) (fun b h => ⟨h.2.2.1, trivial⟩) (by decide)
    have u_34 : G_30.1 102 = (G.1 102) := (hfr_31.1 102 (by decide)).trans u_6
    have u_35 : G_30.1 104 = (G.1 104) := (hfr_31.1 104 (by decide)).trans u_7
    have u_36 : G_30.1 113 = (G.1 113) := (hfr_31.1 113 (by decide)).trans u_8
    have u_37 : G_30.1 133 = (G.1 133) := (hfr_31.1 133 (by decide)).trans u_10
    have u_38 : G_30.1 137 = (G.1 137) := (hfr_31.1 137 (by decide)).trans u_11
    have u_39 : G_30.1 105 = 0 := (hfr_31.1 105 (by decide)).trans u_12
    have w_40 : G_30.2.1 (g.2.2 100) = (G.2.1 (g.2.2 100)) := (hfr_31.2.1 (g.2.2 100) ⟨(ne_kd hmk.1 hmk.2.2.2.2.2.1 (by decide)), trivial⟩).trans w_13
    have w_41 : G_30.2.1 (g.2.2 140) = (G.2.1 (g.2.2 140)) := (hfr_31.2.1 (g.2.2 140) ⟨(ne_kd hmk.2.2.2.2.2.2.2.2.2.2.2.2.2.2.2.2.2.2.1 hmk.2.2.2.2.2.1 (by decide)), trivial⟩).trans w_15
    have w_42 : G_30.2.1 (g.2.2 141) = (G.2.1 (g.2.2 141)) := (hfr_31.2.1 (g.2.2 141) ⟨(ne_kd hmk.2.2.2.2.2.2.2.2.2.2.2.2.2.2.2.2.2.2.2.1 hmk.2.2.2.2.2.1 (by decide)), trivial⟩).trans w_16
    have w_43 : G_30.2.1 (g.2.2 111) = (G.2.1 (g.2.2 111)) := (hfr_31.2.1 (g.2.2 111) ⟨(ne_kd hmk.2.2.2.2.2.2.2.2.2.2.2.2.2.2.2.2.2.2.2.2.1 hmk.2.2.2.2.2.1 (by decide)), trivial⟩).trans w_17
    have u_44 : G_30.2.2 111 = some (g.2.2 111) := (hfr_31.2.2 111 (by decide)).trans u_18
    have u_45 : G_30.2.2 112 = some (g.2.2 112) := (hfr_31.2.2 112 (by decide)).trans u_19
    obtain ⟨f_46, ef_46⟩ : ∃ z : Nat → Int32, G_30.2.1 (g.2.2 121) = z := ⟨_, rfl⟩
    obtain ⟨n_47, en_47⟩ : ∃ z : Int32, G_30.1 122 = z := ⟨_, rfl⟩
    have rm_48 := hex_32
    rw [ef_46, en_47] at rm_48
    have hH : HT g Ty G_30 H := by rw [← ht, ← eTx_29, eG_30]; exact hB
    refine lv_aload_n hx hb dX12_unmounts_29 rfl (lv_at hl 1 rfl) ?_
    refine lv_aload_n hx hb dX12_unmounts_30 rfl (lv_at hl 1 rfl) ?_
    obtain ⟨_, ⟨rfl, t_50, hk_51⟩, o_c_49⟩ := hH h0 _ k_h0
    refine hg_get hx hb hG igX12 hown hK o_c_49 rfl 0 (by decide) (hG _ mw_1284) rfl dX12_unmounts_31 ?_
    refine lv_iload_n hx hb dX12_unmounts_34 rfl (lv_at hl 2 rfl) ?_
    refine lv_iload_n hx hb dX12_unmounts_35 rfl (lv_at hl 3 rfl) ?_
    refine va_calli (va_runV (As := [.ref (g.2.2 100), .int a0, .int a1]) (rest := []) ⟨hx, hb, hml, hown, hts⟩ (c_X12_goUnmount_x l g Ty G_30 H.size h0 (g.2.2 100) a0 a1 k_h0 (hk_51.1) (rg_w r_28 (by decide) (by decide)) Bd (by rw [w_40]; exact hI.ti) (by rw [w_40]; exact th_27) (g.2.2 111) hmk.2.2.2.2.2.2.2.2.2.2.2.2.2.2.2.2.2.2.2.2.1 u_44 (by rw [u_36]; exact hI.a113)) (cwV 3 hts (gwV mw_1656 mw_1658 mw_62 mw_88 mw_1659) rfl rfl rfl hv_X12_goUnmount ⟨Nat.le_of_ble_eq_true rfl, Nat.le_of_ble_eq_true rfl⟩) ⟨PcT_blind, hg_recv hK o_c_49 rfl, PcT_pre hK hH⟩ rfl rfl hl.1 rfl (lv_room (Nat.le_of_ble_eq_true rfl)) dX12_unmounts_36 ⟨Nat.zero_le _, Nat.zero_le _⟩) hS (fun q _ h => AF.mono hS.1 h) (fun q h => AF.mono hS.1 h) (fun x_52 ux_52 t H locs ht hvm hx_52 hB hz hk hS => ?_)
    obtain ⟨eTx_52, eGx_52⟩ := hx_52
    obtain ⟨G_53, eG_53⟩ : ∃ z, z = ux_52.2 := ⟨_, rfl⟩
    rw [← eG_53] at eGx_52
    obtain ⟨hfr_54, hex_55⟩ := eGx_52
    have fr_56 : FR [107, 108, 109, 110, 114, 104, 105, 122] [(g.2.2 100), (g.2.2 115), (g.2.2 121)] [106] G G_53 := FR.tr fr_33 hfr_54 (by decide) (fun b h => ⟨h.1, h.2.1, trivial⟩) (by decide)
    have u_57 : G_53.1 102 = (G.1 102) := (hfr_54.1 102 (by decide)).trans u_34
    have u_58 : G_53.1 104 = (G.1 104) := (hfr_54.1 104 (by decide)).trans u_35
    have u_59 : G_53.1 113 = (G.1 113) := (hfr_54.1 113 (by decide)).trans u_36
    have u_60 : G_53.1 133 = (G.1 133) := (hfr_54.1 133 (by decide)).trans u_37
    have u_61 : G_53.1 137 = (G.1 137) := (hfr_54.1 137 (by decide)).trans u_38
    have u_62 : G_53.1 105 = 0 := (hfr_54.1 105 (by decide)).trans u_39
    have u_63 : G_53.1 122 = n_47 := (hfr_54.1 122 (by decide)).trans en_47
    have w_64 : G_53.2.1 (g.2.2 140) = (G.2.1 (g.2.2 140)) := (hfr_54.2.1 (g.2.2 140) ⟨(ne_kd hmk.2.2.2.2.2.2.2.2.2.2.2.2.2.2.2.2.2.2.1 hmk.1 (by decide)), (ne_kd hmk.2.2.2.2.2.2.2.2.2.2.2.2.2.2.2.2.2.2.1 hmk.2.2.2.1 (by decide)), trivial⟩).trans w_41
    have w_65 : G_53.2.1 (g.2.2 141) = (G.2.1 (g.2.2 141)) := (hfr_54.2.1 (g.2.2 141) ⟨(ne_kd hmk.2.2.2.2.2.2.2.2.2.2.2.2.2.2.2.2.2.2.2.1 hmk.1 (by decide)), (ne_kd hmk.2.2.2.2.2.2.2.2.2.2.2.2.2.2.2.2.2.2.2.1 hmk.2.2.2.1 (by decide)), trivial⟩).trans w_42
    have w_66 : G_53.2.1 (g.2.2 111) = (G.2.1 (g.2.2 111)) := (hfr_54.2.1 (g.2.2 111) ⟨(ne_kd hmk.2.2.2.2.2.2.2.2.2.2.2.2.2.2.2.2.2.2.2.2.1 hmk.1 (by decide)), (ne_kd hmk.2.2.2.2.2.2.2.2.2.2.2.2.2.2.2.2.2.2.2.2.1 hmk.2.2.2.1 (by decide)), trivial⟩).trans w_43
    have w_67 : G_53.2.1 (g.2.2 121) = f_46 := (hfr_54.2.1 (g.2.2 121) ⟨(ne_kd hmk.2.2.2.2.2.1 hmk.1 (by decide)), (ne_kd hmk.2.2.2.2.2.1 hmk.2.2.2.1 (by decide)), trivial⟩).trans ef_46
    have u_68 : G_53.2.2 111 = some (g.2.2 111) := (hfr_54.2.2 111 (by decide)).trans u_44
    have u_69 : G_53.2.2 112 = some (g.2.2 112) := (hfr_54.2.2 112 (by decide)).trans u_45
    obtain ⟨xa_70, xb_71⟩ := hex_55
    obtain ⟨f_72, ef_72⟩ : ∃ z : Nat → Int32, G_53.2.1 (g.2.2 100) = z := ⟨_, rfl⟩
    have hq_73 : F_X12_goUnmount_x (G.2.1 (g.2.2 100)) (G.2.1 (g.2.2 111)) (G.1 113) a0 a1 = (x_52, f_72) := by have q := xb_71; rw [w_40, w_43, u_36, ef_72] at q; exact q
    rw [hq_73, tu2_eq] at hv
    obtain ⟨f_74, ef_74⟩ : ∃ z : Nat → Int32, G_53.2.1 (g.2.2 100) = z := ⟨_, rfl⟩
    have ti_75 := xa_70
    rw [ef_74] at ti_75
    try rw [(ef_72).symm.trans (ef_74)] at hv
    have hH : HT g Ty G_53 H := by rw [← ht, ← eTx_52, eG_53]; exact hB
    refine lv_istore (lv' := [(4, .int x_52), (3, .int x_23), (0, .ref h0), (1, .int a0), (2, .int a1)]) hx hb dX12_unmounts_39 hl (by decide) rfl (fun ls hl => ?_)
    refine lv_aload_n hx hb dX12_unmounts_41 rfl (lv_at hl 2 rfl) ?_
    refine lv_iconst (v := 0) hx hb dX12_unmounts_42 (by decide) ?_
    obtain ⟨_, ⟨rfl, t_77, hk_78⟩, o_c_76⟩ := hH h0 _ k_h0
    refine hg_put (ty := .int) hx hb hG igX12 tyX12 tyX12_ok nmX12 hown hK hS o_c_76 (AF.of k_h0) rfl 4 (by decide) (hG _ mw_1288) rfl (by decide +kernel) rfl rfl (Nat.le_of_ble_eq_true rfl) dX12_unmounts_43 (fun H locs o_c_76 hz oq hS => ?_)
    obtain ⟨G_79, eG_79⟩ : ∃ z : Gh, z = gset G_53 104 0 := ⟨_, rfl⟩
    have hH : HT g Ty G_79 H := by rw [eG_79]; exact HT.putN 104 0 hH k_h0 ⟨rfl, t_77, hk_78⟩ o_c_76 oq (Or.inr (Or.inr (Or.inr (Or.inr (Or.inr ⟨by decide, t_77⟩)))))
    have fr_80 : FR [107, 108, 109, 110, 114, 104, 105, 122] [(g.2.2 100), (g.2.2 115), (g.2.2 121)] [106] G G_79 := FR.n fr_56 eG_79 (by decide)
    have u_81 : G_79.1 102 = (G.1 102) := by rw [eG_79]; exact (gs_ne (by decide)).trans u_57
    have u_82 : G_79.1 113 = (G.1 113) := by rw [eG_79]; exact (gs_ne (by decide)).trans u_59
    have u_83 : G_79.1 133 = (G.1 133) := by rw [eG_79]; exact (gs_ne (by decide)).trans u_60
    have u_84 : G_79.1 137 = (G.1 137) := by rw [eG_79]; exact (gs_ne (by decide)).trans u_61
    have u_85 : G_79.1 105 = 0 := by rw [eG_79]; exact (gs_ne (by decide)).trans u_62
    have u_86 : G_79.1 122 = n_47 := by rw [eG_79]; exact (gs_ne (by decide)).trans u_63
    have u_87 : G_79.1 104 = 0 := by rw [eG_79]; exact gs_eq
    have w_88 : G_79.2.1 (g.2.2 140) = (G.2.1 (g.2.2 140)) := by rw [eG_79]; exact w_64
    have w_89 : G_79.2.1 (g.2.2 141) = (G.2.1 (g.2.2 141)) := by rw [eG_79]; exact w_65
    have w_90 : G_79.2.1 (g.2.2 111) = (G.2.1 (g.2.2 111)) := by rw [eG_79]; exact w_66
    have w_91 : G_79.2.1 (g.2.2 121) = f_46 := by rw [eG_79]; exact w_67
    have w_92 : G_79.2.1 (g.2.2 100) = f_74 := by rw [eG_79]; exact ef_74
    have u_93 : G_79.2.2 111 = some (g.2.2 111) := by rw [eG_79]; exact u_68
    have u_94 : G_79.2.2 112 = some (g.2.2 112) := by rw [eG_79]; exact u_69
    clear oq hz
    refine lv_aload_n hx hb dX12_unmounts_46 rfl (lv_at hl 2 rfl) ?_
    refine lv_iload hx hb dX12_unmounts_47 (lv_at hl 0 rfl) ?_
    refine lv_i2l hx hb dX12_unmounts_49 rfl ?_
    refine lv_topl (fun u_95 eu_95 => ?_)
    obtain ⟨_, ⟨rfl, t_97, hk_98⟩, o_c_96⟩ := hH h0 _ k_h0
    refine va_callv (va_runV (As := [.long u_95]) (rest := []) ⟨hx, hb, hml, hown, hts⟩ (c_X12_tell l g Ty G_79 H.size h0 u_95 k_h0 (by rw [u_87]; exact rg_w rl_0 (by decide) (by decide))) (cwV 1 hts (gwV mw_1510 mw_1512 mw_48 mw_88 mw_1513) rfl rfl rfl hv_X12_tell ⟨Nat.le_of_ble_eq_true rfl, Nat.le_of_ble_eq_true rfl⟩) ⟨PcT_blind, hg_recv hK o_c_96 rfl, PcT_pre hK hH⟩ rfl rfl hl.1 rfl (lv_room (Nat.le_of_ble_eq_true rfl)) dX12_unmounts_50 ⟨Nat.zero_le _, Nat.zero_le _⟩) hS (fun q _ h => AF.mono hS.1 h) (fun q h => AF.mono hS.1 h) (fun ux_99 t H locs ht hvm hx_99 hB hz hk hS => ?_)
    obtain ⟨eTx_99, eGx_99⟩ := hx_99
    obtain ⟨G_100, eG_100⟩ : ∃ z, z = ux_99.2 := ⟨_, rfl⟩
    rw [← eG_100] at eGx_99
    obtain ⟨x_101, ex_101⟩ : ∃ z : Int32, z = 0 + 1 := ⟨_, rfl⟩
    have e_102 : G_100 = gset G_79 104 x_101 := by rw [ex_101, ← u_87]; exact eGx_99
    have rx_101 : rgI (1) (1) x_101 := by rw [ex_101]; exact rg_w (rg_add rl_0 rl_1 (by decide) (by decide)) (by decide) (by decide)
    have fr_103 : FR [107, 108, 109, 110, 114, 104, 105, 122] [(g.2.2 100), (g.2.2 115), (g.2.2 121)] [106] G G_100 := FR.n fr_80 e_102 (by decide)
    have u_104 : G_100.1 102 = (G.1 102) := by rw [e_102]; exact (gs_ne (by decide)).trans u_81
    have u_105 : G_100.1 113 = (G.1 113) := by rw [e_102]; exact (gs_ne (by decide)).trans u_82
    have u_106 : G_100.1 133 = (G.1 133) := by rw [e_102]; exact (gs_ne (by decide)).trans u_83
    have u_107 : G_100.1 137 = (G.1 137) := by rw [e_102]; exact (gs_ne (by decide)).trans u_84
    have u_108 : G_100.1 105 = 0 := by rw [e_102]; exact (gs_ne (by decide)).trans u_85
    have u_109 : G_100.1 122 = n_47 := by rw [e_102]; exact (gs_ne (by decide)).trans u_86
    have u_110 : G_100.1 104 = x_101 := by rw [e_102]; exact gs_eq
    have w_111 : G_100.2.1 (g.2.2 140) = (G.2.1 (g.2.2 140)) := by rw [e_102]; exact w_88
    have w_112 : G_100.2.1 (g.2.2 141) = (G.2.1 (g.2.2 141)) := by rw [e_102]; exact w_89
    have w_113 : G_100.2.1 (g.2.2 111) = (G.2.1 (g.2.2 111)) := by rw [e_102]; exact w_90
    have w_114 : G_100.2.1 (g.2.2 121) = f_46 := by rw [e_102]; exact w_91
    have w_115 : G_100.2.1 (g.2.2 100) = f_74 := by rw [e_102]; exact w_92
    have u_116 : G_100.2.2 111 = some (g.2.2 111) := by rw [e_102]; exact u_93
    have u_117 : G_100.2.2 112 = some (g.2.2 112) := by rw [e_102]; exact u_94
    have hH : HT g Ty G_100 H := by rw [← ht, ← eTx_99, eG_100]; exact hB
    refine lv_iload hx hb dX12_unmounts_53 (lv_at hl 0 rfl) ?_
    refine vp_callSi (W.runS (As := [.int x_52]) (rest := []) ⟨hx, hb, hml, hown, hts⟩ (c_J6_bitCount_x l g Ty G_100 x_52 ) (cwSx 1 hts hG (gwC mw_620) mw_99 mw_1553 mw_619 rfl rfl rfl hd_J6_bitCount_0f7a4 ⟨Nat.le_of_ble_eq_true rfl, Nat.le_of_ble_eq_true rfl⟩) ⟨PcH_blind, PcH_pre hK hH⟩ rfl rfl hl.1 rfl (lv_room (Nat.le_of_ble_eq_true rfl)) dX12_unmounts_55 ⟨Nat.zero_le _, Nat.zero_le _⟩) (fun x_118 hx_118 => ?_)
    have rx_118 : rgI (0) (63) x_118 := hx_118.1
    try rw [← hx_118.2] at hv
    try rw [← hx_118.2] at hv
    exact W.iret hx hb hr (fun t ht hWm => ⟨⟨x_118, (Ty, G_100), rfl, ⟨rfl, ⟨fr_103, ⟨⟨(by rw [u_104]; exact (rg_w hI.a102 (by decide) (by decide))), (by rw [u_110]; exact (rg_w rx_101 (by decide) (by decide))), (by rw [u_105]; exact (rg_w hI.a113 (by decide) (by decide))), (by rw [u_109]; exact (rg_w rm_48.1 (by decide) (by decide))), (by rw [u_106]; exact (rg_w hI.a133 (by decide) (by decide))), (by rw [u_107]; exact (rg_w hI.a137 (by decide) (by decide))), u_116, u_117, (by rw [w_115]; exact (TI.hi ti_75 (by omega))), (by rw [w_114, u_109]; exact fun i hi => TI.hi (rm_48.2 i hi) (by omega)), (hI.ke2 (show Bd ≤ Bd + 1000 by omega) w_111 w_112)⟩, hv.symm.trans (by rw [w_115])⟩⟩⟩, by show HT g Ty G_100 t.heap; rw [ht]; exact hH⟩, hS.F ht⟩) hS.2.2 dX12_unmounts_58
  · rw [if_neg c_25] at hv
    have r_119 : rgI (-3) (-1) x_23 := rg_w (rg_ltL rx_23 rl_0 (nle_lt c_25)) (by decide) (by decide)
    refine lv_iload_n hx hb dX12_unmounts_19 rfl (lv_at hl 0 rfl) ?_
    exact W.iret hx hb hr (fun t ht hWm => ⟨⟨x_23, (Ty, G_4), rfl, ⟨rfl, ⟨fr_5, ⟨⟨(by rw [u_6]; exact (rg_w hI.a102 (by decide) (by decide))), (by rw [u_7]; exact (rg_w hI.a104 (by decide) (by decide))), (by rw [u_8]; exact (rg_w hI.a113 (by decide) (by decide))), (by rw [u_9]; exact (rg_w hI.a122 (by decide) (by decide))), (by rw [u_10]; exact (rg_w hI.a133 (by decide) (by decide))), (by rw [u_11]; exact (rg_w hI.a137 (by decide) (by decide))), u_18, u_19, (by rw [w_13]; exact (hI.ti.hi (show Bd ≤ Bd + 1000 by omega))), (hI.un2 (show Bd ≤ Bd + 1000 by omega) w_14 u_9), (hI.ke2 (show Bd ≤ Bd + 1000 by omega) w_15 w_16)⟩, hv.symm.trans (by rw [w_13])⟩⟩⟩, by show HT g Ty G_4 t.heap; rw [ht]; exact hH⟩, hS.F ht⟩) hS.2.2 dX12_unmounts_20

def F_X12_moves_x (r0 : Nat → Int32) (a0 : Int32) (a1 : Int32) (a2 : Int32) : Int32 × (Nat → Int32) := (if (0 : Int32) ≤ (F_X12_refusesMove_x r0 a0 a1 a2) then (tu1 (F_X12_goMove r0 a0 a1 a2) (fun z2 => ((((100 : Int32) * (r0 (Int32.toNatClampNeg a0))) + (r0 (Int32.toNatClampNeg ((24 : Int32) + a0)))), z2))) else ((F_X12_refusesMove_x r0 a0 a1 a2), r0))
set_option maxHeartbeats 4000000 in
set_option maxRecDepth 100000 in
theorem c_X12_moves_x (l : Launch) (g : Gx) (Ty : TyM) (G : Gh) (sz : Nat) (h0 : Nat) (a0 : Int32) (a1 : Int32) (a2 : Int32) (k_h0 : Ty h0 = some (22, 0)) (Bd : Int) (hI : OI g Bd G) (hBd : Bd ≤ 1900000) (hLD : LD g) : Met l yX12_moves (wsG yX12_moves cX12_moves 6 (some .int)) ({ frames := 3, cells := 0, slots := 0, locals := 66 }) (PcT g Ty G sz [.ref h0, .int a0, .int a1, .int a2]) (QwI g Ty sz (fun r u => u.1 = Ty ∧ FR [104, 105, 122] [(g.2.2 100), (g.2.2 121)] [] G u.2 ∧ OI g (Bd + 1000) u.2 ∧ F_X12_moves_x (G.2.1 (g.2.2 100)) a0 a1 a2 = (r, (u.2.2.1 (g.2.2 100))))) 0 0 (AF Ty sz) := by
  refine Met.ofW (cc := cX12_moves) (maxL := 6) (ret := (some .int)) (by decide) rfl ?_
  intro p e s m args below meth c s₁ B hml hv
  obtain ⟨rfl, hsz, hK, hH⟩ := hv
  subst hsz
  have hx := B.exec
  have hb := B.bytes
  have hr := B.returns
  have hts := atoms_spec (ws := (wsG yX12_moves cX12_moves 6 (some .int))) B.pre
  have hG : ∀ w ∈ GW, w.before ([.ref h0, .int a0, .int a1, .int a2] : List Value).toArray s = true := fun w h => hts w (List.mem_cons_of_mem _ h)
  have hown : s.vm.findClass RX12 = some m.cls := findClass_of_methodNamed B.named
  have hlocks := B.notSynchronized
  have hl := lv_entry [.ref h0, .int a0, .int a1, .int a2] (n := 6) (Nat.le_of_ble_eq_true rfl)
  rw [lg_entry_eq]
  generalize (lg_sl [.ref h0, .int a0, .int a1, .int a2] ++ List.replicate (6 - (lg_sl [.ref h0, .int a0, .int a1, .int a2]).length) Slot.unset).toArray = ls at hl ⊢
  have hl : lv_has ls 6 [(0, .ref h0), (1, .int a0), (2, .int a1), (3, .int a2)] := hl
  have hmk : mdK g Ty := mdk_of hH k_h0
  have hv : (if (0 : Int32) ≤ (F_X12_refusesMove_x (G.2.1 (g.2.2 100)) a0 a1 a2) then (tu1 (F_X12_goMove (G.2.1 (g.2.2 100)) a0 a1 a2) (fun z1 => ((((100 : Int32) * ((G.2.1 (g.2.2 100)) (Int32.toNatClampNeg a0))) + ((G.2.1 (g.2.2 100)) (Int32.toNatClampNeg ((24 : Int32) + a0)))), z1))) else ((F_X12_refusesMove_x (G.2.1 (g.2.2 100)) a0 a1 a2), (G.2.1 (g.2.2 100)))) = F_X12_moves_x (G.2.1 (g.2.2 100)) a0 a1 a2 := rfl
  have hS : va_S (AF Ty s.heap.size) s.heap s.heap [] := va_S.rf
  obtain ⟨⟨σ0, hTS0⟩, h10, hBB0⟩ := id hI.ti
  obtain ⟨ρ, hT⟩ := hTS0.1
  refine lv_aload_n hx hb dX12_moves_0 rfl (lv_at hl 0 rfl) ?_
  refine lv_iconst (v := 0) hx hb dX12_moves_1 (by decide) ?_
  obtain ⟨_, ⟨rfl, t_2, hk_3⟩, o_c_1⟩ := hH h0 _ k_h0
  refine hg_put (ty := .int) hx hb hG igX12 tyX12 tyX12_ok nmX12 hown hK hS o_c_1 (AF.of k_h0) rfl 5 (by decide) (hG _ mw_1289) rfl (by decide +kernel) rfl rfl (Nat.le_of_ble_eq_true rfl) dX12_moves_2 (fun H locs o_c_1 hz oq hS => ?_)
  obtain ⟨G_4, eG_4⟩ : ∃ z : Gh, z = gset G 105 0 := ⟨_, rfl⟩
  have hH : HT g Ty G_4 H := by rw [eG_4]; exact HT.putN 105 0 hH k_h0 ⟨rfl, t_2, hk_3⟩ o_c_1 oq (Or.inr (Or.inr (Or.inr (Or.inr (Or.inr ⟨by decide, t_2⟩)))))
  have fr_5 : FR [104, 105, 122] [(g.2.2 100), (g.2.2 121)] [] G G_4 := FR.n FR.rf eG_4 (by decide)
  have u_6 : G_4.1 102 = (G.1 102) := by rw [eG_4]; exact (gs_ne (by decide))
  have u_7 : G_4.1 104 = (G.1 104) := by rw [eG_4]; exact (gs_ne (by decide))
  have u_8 : G_4.1 113 = (G.1 113) := by rw [eG_4]; exact (gs_ne (by decide))
  have u_9 : G_4.1 122 = (G.1 122) := by rw [eG_4]; exact (gs_ne (by decide))
  have u_10 : G_4.1 133 = (G.1 133) := by rw [eG_4]; exact (gs_ne (by decide))
  have u_11 : G_4.1 137 = (G.1 137) := by rw [eG_4]; exact (gs_ne (by decide))
  have u_12 : G_4.1 105 = 0 := by rw [eG_4]; exact gs_eq
  have w_13 : G_4.2.1 (g.2.2 100) = (G.2.1 (g.2.2 100)) := by rw [eG_4]; exact rfl
  have w_14 : G_4.2.1 (g.2.2 121) = (G.2.1 (g.2.2 121)) := by rw [eG_4]; exact rfl
  have w_15 : G_4.2.1 (g.2.2 140) = (G.2.1 (g.2.2 140)) := by rw [eG_4]; exact rfl
  have w_16 : G_4.2.1 (g.2.2 141) = (G.2.1 (g.2.2 141)) := by rw [eG_4]; exact rfl
  have w_17 : G_4.2.1 (g.2.2 111) = (G.2.1 (g.2.2 111)) := by rw [eG_4]; exact rfl
  have u_18 : G_4.2.2 111 = some (g.2.2 111) := by rw [eG_4]; exact hI.r111
  have u_19 : G_4.2.2 112 = some (g.2.2 112) := by rw [eG_4]; exact hI.r112
  clear oq hz
  refine lv_aload_n hx hb dX12_moves_5 rfl (lv_at hl 0 rfl) ?_
  obtain ⟨_, ⟨rfl, t_21, hk_22⟩, o_c_20⟩ := hH h0 _ k_h0
  refine hg_get hx hb hG igX12 hown hK o_c_20 rfl 0 (by decide) (hG _ mw_1284) rfl dX12_moves_6 ?_
  refine lv_iload_n hx hb dX12_moves_9 rfl (lv_at hl 1 rfl) ?_
  refine lv_iload_n hx hb dX12_moves_10 rfl (lv_at hl 2 rfl) ?_
  refine lv_iload_n hx hb dX12_moves_11 rfl (lv_at hl 3 rfl) ?_
  refine vp_callSi (W.runS (As := [.ref (g.2.2 100), .int a0, .int a1, .int a2]) (rest := []) ⟨hx, hb, hml, hown, hts⟩ (c_X12_refusesMove_x l g Ty G_4 (g.2.2 100) a0 a1 a2 (hk_22.1) ρ (by rw [w_13]; exact hT)) (cwSx 4 hts hG (gwC mw_1673) mw_88 mw_1671 mw_1672 rfl rfl rfl hd_X12_refusesMove ⟨Nat.le_of_ble_eq_true rfl, Nat.le_of_ble_eq_true rfl⟩) ⟨PcH_blind, PcH_pre hK hH⟩ rfl rfl hl.1 rfl (lv_room (Nat.le_of_ble_eq_true rfl)) dX12_moves_12 ⟨Nat.zero_le _, Nat.zero_le _⟩) (fun x_23 hx_23 => ?_)
  have rx_23 : rgI (-6) (0) x_23 := hx_23.1
  try rw [← hx_23.2.2] at hv
  have ex_24 : x_23 = F_X12_refusesMove_x (G.2.1 (g.2.2 100)) a0 a1 a2 := by rw [← w_13]; exact hx_23.2.2
  have tx_25 := hx_23.2.1
  try rw [w_13] at tx_25
  try rw [w_17] at tx_25
  try rw [u_8] at tx_25
  have ex_26 : x_23 = F_X12_refusesMove_x (G.2.1 (g.2.2 100)) a0 a1 a2 := hx_23.2.2.trans (by rw [w_13])
  try rw [← ex_26] at hv
  refine lv_istore (lv' := [(4, .int x_23), (0, .ref h0), (1, .int a0), (2, .int a1), (3, .int a2)]) hx hb dX12_moves_15 hl (by decide) rfl (fun ls hl => ?_)
  refine lv_iload hx hb dX12_moves_17 (lv_at hl 0 rfl) ?_
  refine lv_if_ge (tgt := 25) hx hb dX12_moves_19 (by decide) (fun c_27 => ?_) (fun c_27 => ?_)
  · rw [if_pos c_27] at hv
    have r_28 : rgI (0) (0) x_23 := rg_w (rg_leR rl_0 rx_23 c_27) (by decide) (by decide)
    have c0_29 := tx_25 (rg_00 r_28 c_27)
    have r_30 : rgI (0) (23) a0 := rg_w (c0_29.1.1) (by decide) (by decide)
    refine lv_aload_n hx hb dX12_moves_25 rfl (lv_at hl 1 rfl) ?_
    refine lv_aload_n hx hb dX12_moves_26 rfl (lv_at hl 1 rfl) ?_
    refine hg_get hx hb hG igX12 hown hK o_c_20 rfl 0 (by decide) (hG _ mw_1284) rfl dX12_moves_27 ?_
    refine va_callv (va_runV (As := [.ref (g.2.2 100)]) (rest := []) ⟨hx, hb, hml, hown, hts⟩ (c_X12_remember l g Ty G_4 H.size h0 (g.2.2 100) k_h0 (hk_22.1) Bd (by rw [w_13]; exact hI.ti) (by rw [u_9]; exact (rg_w hI.a122 (by decide) (by decide))) (by rw [u_9, w_14]; exact hI.un)) (cwV 1 hts (gwV mw_1577 mw_1579 mw_53 mw_88 mw_1580) rfl rfl rfl hv_X12_remember ⟨Nat.le_of_ble_eq_true rfl, Nat.le_of_ble_eq_true rfl⟩) ⟨PcT_blind, hg_recv hK o_c_20 rfl, PcT_pre hK hH⟩ rfl rfl hl.1 rfl (lv_room (Nat.le_of_ble_eq_true rfl)) dX12_moves_30 ⟨Nat.zero_le _, Nat.zero_le _⟩) hS (fun q _ h => AF.mono hS.1 h) (fun q h => AF.mono hS.1 h) (fun ux_31 t H locs ht hvm hx_31 hB hz hk hS => ?_)
    obtain ⟨eTx_31, eGx_31⟩ := hx_31
    obtain ⟨G_32, eG_32⟩ : ∃ z, z = ux_31.2 := ⟨_, rfl⟩
    rw [← eG_32] at eGx_31
    obtain ⟨hfr_33, hex_34⟩ := eGx_31
    have fr_35 : FR [104, 105, 122] [(g.2.2 100), (g.2.2 121)] [] G G_32 := FR.tr fr_5 hfr_33 (by decide) (fun b h => ⟨h.2.1, trivial⟩) (by decide)
    have u_36 : G_32.1 102 = (G.1 102) := (hfr_33.1 102 (by decide)).trans u_6
    have u_37 : G_32.1 104 = (G.1 104) := (hfr_33.1 104 (by decide)).trans u_7
    have u_38 : G_32.1 113 = (G.1 113) := (hfr_33.1 113 (by decide)).trans u_8
    have u_39 : G_32.1 133 = (G.1 133) := (hfr_33.1 133 (by decide)).trans u_10
    have u_40 : G_32.1 137 = (G.1 137) := (hfr_33.1 137 (by decide)).trans u_11
    have u_41 : G_32.1 105 = 0 := (hfr_33.1 105 (by decide)).trans u_12
    have w_42 : G_32.2.1 (g.2.2 100) = (G.2.1 (g.2.2 100)) := (hfr_33.2.1 (g.2.2 100) ⟨(ne_kd hmk.1 hmk.2.2.2.2.2.1 (by decide)), trivial⟩).trans w_13
    have w_43 : G_32.2.1 (g.2.2 140) = (G.2.1 (g.2.2 140)) := (hfr_33.2.1 (g.2.2 140) ⟨(ne_kd hmk.2.2.2.2.2.2.2.2.2.2.2.2.2.2.2.2.2.2.1 hmk.2.2.2.2.2.1 (by decide)), trivial⟩).trans w_15
    have w_44 : G_32.2.1 (g.2.2 141) = (G.2.1 (g.2.2 141)) := (hfr_33.2.1 (g.2.2 141) ⟨(ne_kd hmk.2.2.2.2.2.2.2.2.2.2.2.2.2.2.2.2.2.2.2.1 hmk.2.2.2.2.2.1 (by decide)), trivial⟩).trans w_16
    have w_45 : G_32.2.1 (g.2.2 111) = (G.2.1 (g.2.2 111)) := (hfr_33.2.1 (g.2.2 111) ⟨(ne_kd hmk.2.2.2.2.2.2.2.2.2.2.2.2.2.2.2.2.2.2.2.2.1 hmk.2.2.2.2.2.1 (by decide)), trivial⟩).trans w_17
    have u_46 : G_32.2.2 111 = some (g.2.2 111) := (hfr_33.2.2 111 (by decide)).trans u_18
    have u_47 : G_32.2.2 112 = some (g.2.2 112) := (hfr_33.2.2 112 (by decide)).trans u_19
    obtain ⟨f_48, ef_48⟩ : ∃ z : Nat → Int32, G_32.2.1 (g.2.2 121) = z := ⟨_, rfl⟩
    obtain ⟨n_49, en_49⟩ : ∃ z : Int32, G_32.1 122 = z := ⟨_, rfl⟩
    have rm_50 := hex_34
    rw [ef_48, en_49] at rm_50
    have hH : HT g Ty G_32 H := by rw [← ht, ← eTx_31, eG_32]; exact hB
    refine lv_bipush (v := 100) hx hb dX12_moves_33 (by decide) ?_
    refine lv_aload_n hx hb dX12_moves_35 rfl (lv_at hl 1 rfl) ?_
    obtain ⟨_, ⟨rfl, t_52, hk_53⟩, o_c_51⟩ := hH h0 _ k_h0
    refine hg_get hx hb hG igX12 hown hK o_c_51 rfl 0 (by decide) (hG _ mw_1284) rfl dX12_moves_36 ?_
    refine lv_iload_n hx hb dX12_moves_39 rfl (lv_at hl 2 rfl) ?_
    obtain ⟨_, rfl, o_c_54⟩ := hH (g.2.2 100) _ hk_53.1
    have o_c_54 : va_at g.1 vwCl ((g.2.2 100), .inl (g.2.1 1, 122, .inl (G_32.2.1 (g.2.2 100)))) H := o_c_54
    refine hg_iald hx hb hK o_c_54 (rg_in (n := 122) r_30 (by decide) (by decide)) dX12_moves_40 ?_
    rw [w_42]
    refine lv_topi (fun x_55 ex_55 => ?_)
    try rw [← ex_55] at hv
    refine lv_imul hx hb dX12_moves_41 ?_
    refine lv_topi (fun x_56 ex_56 => ?_)
    try rw [← ex_56] at hv
    refine lv_aload_n hx hb dX12_moves_42 rfl (lv_at hl 1 rfl) ?_
    refine hg_get hx hb hG igX12 hown hK o_c_51 rfl 0 (by decide) (hG _ mw_1284) rfl dX12_moves_43 ?_
    refine lv_bipush (v := 24) hx hb dX12_moves_46 (by decide) ?_
    refine lv_iload_n hx hb dX12_moves_48 rfl (lv_at hl 2 rfl) ?_
    refine lv_iadd hx hb dX12_moves_49 ?_
    refine lv_topi (fun x_57 ex_57 => ?_)
    try rw [← ex_57] at hv
    have rx_57 : rgI (24) (47) x_57 := by rw [ex_57]; exact rg_w (rg_add rl_24 r_30 (by decide) (by decide)) (by decide) (by decide)
    refine hg_iald hx hb hK o_c_54 (rg_in (n := 122) rx_57 (by decide) (by decide)) dX12_moves_50 ?_
    rw [w_42]
    refine lv_topi (fun x_58 ex_58 => ?_)
    try rw [← ex_58] at hv
    refine lv_iadd hx hb dX12_moves_51 ?_
    refine lv_topi (fun x_59 ex_59 => ?_)
    try rw [← ex_59] at hv
    refine lv_istore (lv' := [(5, .int x_59), (4, .int x_23), (0, .ref h0), (1, .int a0), (2, .int a1), (3, .int a2)]) hx hb dX12_moves_52 hl (by decide) rfl (fun ls hl => ?_)
    refine lv_aload_n hx hb dX12_moves_54 rfl (lv_at hl 2 rfl) ?_
    refine hg_get hx hb hG igX12 hown hK o_c_51 rfl 0 (by decide) (hG _ mw_1284) rfl dX12_moves_55 ?_
    refine lv_iload_n hx hb dX12_moves_58 rfl (lv_at hl 3 rfl) ?_
    refine lv_iload_n hx hb dX12_moves_59 rfl (lv_at hl 4 rfl) ?_
    refine lv_iload_n hx hb dX12_moves_60 rfl (lv_at hl 5 rfl) ?_
    refine va_callv (va_runS (As := [.ref (g.2.2 100), .int a0, .int a1, .int a2]) (rest := []) ⟨hx, hb, hml, hown, hts⟩ (c_X12_goMove l g Ty G_32 H.size (g.2.2 100) a0 a1 a2 (hk_53.1) (rg_w r_30 (by decide) (by decide))) (cwSx 4 hts hG (gwC mw_1679) mw_88 mw_1677 mw_1678 rfl rfl rfl hd_X12_goMove ⟨Nat.le_of_ble_eq_true rfl, Nat.le_of_ble_eq_true rfl⟩) ⟨PcT_blind, PcT_pre hK hH⟩ rfl rfl hl.1 rfl (lv_room (Nat.le_of_ble_eq_true rfl)) dX12_moves_61 ⟨Nat.zero_le _, Nat.zero_le _⟩) hS (fun q _ h => AF.mono hS.1 h) (fun q h => AF.mono hS.1 h) (fun ux_60 t H locs ht hvm hx_60 hB hz hk hS => ?_)
    obtain ⟨eTx_60, eGx_60⟩ := hx_60
    obtain ⟨G_61, eG_61⟩ : ∃ z, z = ux_60.2 := ⟨_, rfl⟩
    rw [← eG_61] at eGx_60
    have hg_63 := eGx_60
    rw [w_42] at hg_63
    obtain ⟨f_62, ef_62⟩ : ∃ z : Nat → Int32, z = F_X12_goMove (G.2.1 (g.2.2 100)) a0 a1 a2 := ⟨_, rfl⟩
    rw [← ef_62] at hg_63
    have fr_64 : FR [104, 105, 122] [(g.2.2 100), (g.2.2 121)] [] G G_61 := FR.a fr_35 hg_63 (fun b h => h.1)
    have u_65 : G_61.1 102 = (G.1 102) := by rw [hg_63]; exact u_36
    have u_66 : G_61.1 104 = (G.1 104) := by rw [hg_63]; exact u_37
    have u_67 : G_61.1 113 = (G.1 113) := by rw [hg_63]; exact u_38
    have u_68 : G_61.1 133 = (G.1 133) := by rw [hg_63]; exact u_39
    have u_69 : G_61.1 137 = (G.1 137) := by rw [hg_63]; exact u_40
    have u_70 : G_61.1 105 = 0 := by rw [hg_63]; exact u_41
    have u_71 : G_61.1 122 = n_49 := by rw [hg_63]; exact en_49
    have w_72 : G_61.2.1 (g.2.2 100) = f_62 := by rw [hg_63]; exact aset_eq
    have w_73 : G_61.2.1 (g.2.2 140) = (G.2.1 (g.2.2 140)) := by rw [hg_63]; exact (aset_ne (ne_kd hmk.2.2.2.2.2.2.2.2.2.2.2.2.2.2.2.2.2.2.1 hmk.1 (by decide))).trans w_43
    have w_74 : G_61.2.1 (g.2.2 141) = (G.2.1 (g.2.2 141)) := by rw [hg_63]; exact (aset_ne (ne_kd hmk.2.2.2.2.2.2.2.2.2.2.2.2.2.2.2.2.2.2.2.1 hmk.1 (by decide))).trans w_44
    have w_75 : G_61.2.1 (g.2.2 111) = (G.2.1 (g.2.2 111)) := by rw [hg_63]; exact (aset_ne (ne_kd hmk.2.2.2.2.2.2.2.2.2.2.2.2.2.2.2.2.2.2.2.2.1 hmk.1 (by decide))).trans w_45
    have w_76 : G_61.2.1 (g.2.2 121) = f_48 := by rw [hg_63]; exact (aset_ne (ne_kd hmk.2.2.2.2.2.1 hmk.1 (by decide))).trans ef_48
    have u_77 : G_61.2.2 111 = some (g.2.2 111) := by rw [hg_63]; exact u_46
    have u_78 : G_61.2.2 112 = some (g.2.2 112) := by rw [hg_63]; exact u_47
    rw [← ef_62, tu1_eq] at hv
    have hH : HT g Ty G_61 H := by rw [← ht, ← eTx_60, eG_61]; exact hB
    have tm_79 : TI (Bd + 25) f_62 := by rw [ef_62]; exact (TI_move hI.ti c0_29.1 c0_29.2.1 c0_29.2.2.2.1 c0_29.2.2.2.2.1 c0_29.2.2.2.2.2).1
    refine lv_iload hx hb dX12_moves_64 (lv_at hl 0 rfl) ?_
    exact W.iret hx hb hr (fun t ht hWm => ⟨⟨x_59, (Ty, G_61), rfl, ⟨rfl, ⟨fr_64, ⟨⟨(by rw [u_65]; exact (rg_w hI.a102 (by decide) (by decide))), (by rw [u_66]; exact (rg_w hI.a104 (by decide) (by decide))), (by rw [u_67]; exact (rg_w hI.a113 (by decide) (by decide))), (by rw [u_71]; exact (rg_w rm_50.1 (by decide) (by decide))), (by rw [u_68]; exact (rg_w hI.a133 (by decide) (by decide))), (by rw [u_69]; exact (rg_w hI.a137 (by decide) (by decide))), u_77, u_78, (by rw [w_72]; exact (TI.hi tm_79 (by omega))), (by rw [w_76, u_71]; exact fun i hi => TI.hi (rm_50.2 i hi) (by omega)), (hI.ke2 (show Bd ≤ Bd + 1000 by omega) w_73 w_74)⟩, hv.symm.trans (by rw [w_72])⟩⟩⟩, by show HT g Ty G_61 t.heap; rw [ht]; exact hH⟩, hS.F ht⟩) hS.2.2 dX12_moves_66
  · rw [if_neg c_27] at hv
    have r_80 : rgI (-6) (-1) x_23 := rg_w (rg_ltL rx_23 rl_0 (nle_lt c_27)) (by decide) (by decide)
    refine lv_iload hx hb dX12_moves_22 (lv_at hl 0 rfl) ?_
    exact W.iret hx hb hr (fun t ht hWm => ⟨⟨x_23, (Ty, G_4), rfl, ⟨rfl, ⟨fr_5, ⟨⟨(by rw [u_6]; exact (rg_w hI.a102 (by decide) (by decide))), (by rw [u_7]; exact (rg_w hI.a104 (by decide) (by decide))), (by rw [u_8]; exact (rg_w hI.a113 (by decide) (by decide))), (by rw [u_9]; exact (rg_w hI.a122 (by decide) (by decide))), (by rw [u_10]; exact (rg_w hI.a133 (by decide) (by decide))), (by rw [u_11]; exact (rg_w hI.a137 (by decide) (by decide))), u_18, u_19, (by rw [w_13]; exact (hI.ti.hi (show Bd ≤ Bd + 1000 by omega))), (hI.un2 (show Bd ≤ Bd + 1000 by omega) w_14 u_9), (hI.ke2 (show Bd ≤ Bd + 1000 by omega) w_15 w_16)⟩, hv.symm.trans (by rw [w_13])⟩⟩⟩, by show HT g Ty G_4 t.heap; rw [ht]; exact hH⟩, hS.F ht⟩) hS.2.2 dX12_moves_24

def F_X12_groups_x_11 : Nat → Int32 → Int32 → Int32 → (Nat → Int32) → Int32 × Int32
  | 0, y1, y2, _, _ => (y1, y2)
  | n + 1, y1, y2, y3, yr0 => (if (24 : Int32) ≤ y3 then (y1, y2) else (if (F_X12_isLeast_x yr0 y3) = (0 : Int32) then (F_X12_groups_x_11 n y1 y2 (y3 + (1 : Int32)) yr0) else (if y2 < (F_J6_bitCount_0f7a4 (F_X12_inGroup yr0 (yr0 (Int32.toNatClampNeg ((48 : Int32) + y3))))) then (F_X12_groups_x_11 n y3 (F_J6_bitCount_0f7a4 (F_X12_inGroup yr0 (yr0 (Int32.toNatClampNeg ((48 : Int32) + y3))))) (y3 + (1 : Int32)) yr0) else (F_X12_groups_x_11 n y1 y2 (y3 + (1 : Int32)) yr0))))
def F_X12_groups_x (r0 : Nat → Int32) : Int32 := (tu2 (F_X12_groups_x_11 26 (-1 : Int32) (0 : Int32) (0 : Int32) r0) (fun z5 z6 => (if z5 = (-1 : Int32) then (F_X12_groupsOf_x r0) else (F_X12_groupsOf_x r0))))
set_option maxHeartbeats 4000000 in
set_option maxRecDepth 100000 in
theorem c_X12_groups_x (l : Launch) (g : Gx) (Ty : TyM) (G : Gh) (sz : Nat) (h0 : Nat) (k_h0 : Ty h0 = some (22, 0)) (Bd : Int) (hI : OI g Bd G) (hBd : Bd ≤ 1900000) (hLD : LD g) : Met l yX12_groups (wsG yX12_groups cX12_groups 5 (some .int)) ({ frames := 5, cells := 0, slots := 0, locals := 110 }) (PcT g Ty G sz [.ref h0]) (QwI g Ty sz (fun r u => u.1 = Ty ∧ FR [104, 105] [] [] G u.2 ∧ OI g (Bd + 1000) u.2 ∧ F_X12_groups_x (G.2.1 (g.2.2 100)) = r)) 0 0 (AF Ty sz) := by
  refine Met.ofW (cc := cX12_groups) (maxL := 5) (ret := (some .int)) (by decide) rfl ?_
  intro p e s m args below meth c s₁ B hml hv
  obtain ⟨rfl, hsz, hK, hH⟩ := hv
  subst hsz
  have hx := B.exec
  have hb := B.bytes
  have hr := B.returns
  have hts := atoms_spec (ws := (wsG yX12_groups cX12_groups 5 (some .int))) B.pre
  have hG : ∀ w ∈ GW, w.before ([.ref h0] : List Value).toArray s = true := fun w h => hts w (List.mem_cons_of_mem _ h)
  have hown : s.vm.findClass RX12 = some m.cls := findClass_of_methodNamed B.named
  have hlocks := B.notSynchronized
  have hl := lv_entry [.ref h0] (n := 5) (Nat.le_of_ble_eq_true rfl)
  rw [lg_entry_eq]
  generalize (lg_sl [.ref h0] ++ List.replicate (5 - (lg_sl [.ref h0]).length) Slot.unset).toArray = ls at hl ⊢
  have hl : lv_has ls 5 [(0, .ref h0)] := hl
  have hmk : mdK g Ty := mdk_of hH k_h0
  have hv : (tu2 (F_X12_groups_x_11 26 (-1 : Int32) (0 : Int32) (0 : Int32) (G.2.1 (g.2.2 100))) (fun z3 z4 => (if z3 = (-1 : Int32) then (F_X12_groupsOf_x (G.2.1 (g.2.2 100))) else (F_X12_groupsOf_x (G.2.1 (g.2.2 100)))))) = F_X12_groups_x (G.2.1 (g.2.2 100)) := rfl
  have hS : va_S (AF Ty s.heap.size) s.heap s.heap [] := va_S.rf
  obtain ⟨⟨σ0, hTS0⟩, h10, hBB0⟩ := id hI.ti
  obtain ⟨ρ, hT⟩ := hTS0.1
  have L_11 : ∀ (n_11 : Nat) (H : Heap) (locs : List Loc) (G_11 : Gh) (y1_11 : Int32) (y2_11 : Int32) (y3_11 : Int32) (ls : Array Slot), rgI (0) (32) (G_11.1 104) → FR [104, 105] [] [] G G_11 → rgI (-1) (23) y1_11 → rgI (0) (63) y2_11 → rgI (0) (24) y3_11 → (24 - (y3_11).toInt).toNat < n_11 → lv_has ls 5 [(0, .ref h0), (1, .int y1_11), (2, .int y2_11), (3, .int y3_11)] → (tu2 (F_X12_groups_x_11 n_11 y1_11 y2_11 y3_11 (G.2.1 (g.2.2 100))) (fun z1 z2 => (if z1 = (-1 : Int32) then (F_X12_groupsOf_x (G.2.1 (g.2.2 100))) else (F_X12_groupsOf_x (G.2.1 (g.2.2 100)))))) = F_X12_groups_x (G.2.1 (g.2.2 100)) → HT g Ty G_11 H → va_S (AF Ty s.heap.size) s.heap H locs → Wm p l e (wsG yX12_groups cX12_groups 5 (some .int)) ({ frames := 5, cells := 0, slots := 0, locals := 110 }) s m [.ref h0] below meth c H locs (0) (0) (QwI g Ty s.heap.size (fun r u => u.1 = Ty ∧ FR [104, 105] [] [] G u.2 ∧ OI g (Bd + 1000) u.2 ∧ F_X12_groups_x (G.2.1 (g.2.2 100)) = r)) 0 0 (AF Ty s.heap.size) (F0 m 11 ls []) := by
    intro n_11
    induction n_11 with
    | zero => intro H locs G_11 y1_11 y2_11 y3_11 ls rg104_11 frL_11 ry1_11 ry2_11 ry3_11 hm; exact absurd hm (Nat.not_lt_zero _)
    | succ n_11 ih_11 =>
      intro H locs G_11 y1_11 y2_11 y3_11 ls rg104_11 frL_11 ry1_11 ry2_11 ry3_11 hm_11 hl hv hH hS
      rw [F_X12_groups_x_11] at hv
      refine lv_iload_n hx hb dX12_groups_11 rfl (lv_at hl 3 rfl) ?_
      refine lv_bipush (v := 24) hx hb dX12_groups_12 (by decide) ?_
      refine lv_icmp_ge (tgt := 72) hx hb dX12_groups_14 (by decide) (fun c_1 => ?_) (fun c_1 => ?_)
      · rw [if_pos c_1] at hv
        have r_2 : rgI (24) (24) y3_11 := rg_w (rg_leR rl_24 ry3_11 c_1) (by decide) (by decide)
        rw [tu2_eq] at hv
        refine lv_aload_n hx hb dX12_groups_72 rfl (lv_at hl 0 rfl) ?_
        refine lv_iconst (v := 0) hx hb dX12_groups_73 (by decide) ?_
        obtain ⟨_, ⟨rfl, t_4, hk_5⟩, o_c_3⟩ := hH h0 _ k_h0
        refine hg_put (ty := .int) hx hb hG igX12 tyX12 tyX12_ok nmX12 hown hK hS o_c_3 (AF.of k_h0) rfl 4 (by decide) (hG _ mw_1288) rfl (by decide +kernel) rfl rfl (Nat.le_of_ble_eq_true rfl) dX12_groups_74 (fun H locs o_c_3 hz oq hS => ?_)
        obtain ⟨G_6, eG_6⟩ : ∃ z : Gh, z = gset G_11 104 0 := ⟨_, rfl⟩
        have hH : HT g Ty G_6 H := by rw [eG_6]; exact HT.putN 104 0 hH k_h0 ⟨rfl, t_4, hk_5⟩ o_c_3 oq (Or.inr (Or.inr (Or.inr (Or.inr (Or.inr ⟨by decide, t_4⟩)))))
        have fr_7 : FR [104, 105] [] [] G G_6 := FR.n frL_11 eG_6 (by decide)
        have u_8 : G_6.1 102 = (G.1 102) := by rw [eG_6]; exact (gs_ne (by decide)).trans (frL_11.1 102 (by decide))
        have u_9 : G_6.1 113 = (G.1 113) := by rw [eG_6]; exact (gs_ne (by decide)).trans (frL_11.1 113 (by decide))
        have u_10 : G_6.1 122 = (G.1 122) := by rw [eG_6]; exact (gs_ne (by decide)).trans (frL_11.1 122 (by decide))
        have u_11 : G_6.1 133 = (G.1 133) := by rw [eG_6]; exact (gs_ne (by decide)).trans (frL_11.1 133 (by decide))
        have u_12 : G_6.1 137 = (G.1 137) := by rw [eG_6]; exact (gs_ne (by decide)).trans (frL_11.1 137 (by decide))
        have u_13 : G_6.1 104 = 0 := by rw [eG_6]; exact gs_eq
        have w_14 : G_6.2.1 (g.2.2 100) = (G.2.1 (g.2.2 100)) := by rw [eG_6]; exact (frL_11.2.1 (g.2.2 100) trivial)
        have w_15 : G_6.2.1 (g.2.2 121) = (G.2.1 (g.2.2 121)) := by rw [eG_6]; exact (frL_11.2.1 (g.2.2 121) trivial)
        have w_16 : G_6.2.1 (g.2.2 140) = (G.2.1 (g.2.2 140)) := by rw [eG_6]; exact (frL_11.2.1 (g.2.2 140) trivial)
        have w_17 : G_6.2.1 (g.2.2 141) = (G.2.1 (g.2.2 141)) := by rw [eG_6]; exact (frL_11.2.1 (g.2.2 141) trivial)
        have w_18 : G_6.2.1 (g.2.2 111) = (G.2.1 (g.2.2 111)) := by rw [eG_6]; exact (frL_11.2.1 (g.2.2 111) trivial)
        have u_19 : G_6.2.2 111 = some (g.2.2 111) := by rw [eG_6]; exact ((frL_11.2.2 111 (by decide)).trans hI.r111)
        have u_20 : G_6.2.2 112 = some (g.2.2 112) := by rw [eG_6]; exact ((frL_11.2.2 112 (by decide)).trans hI.r112)
        clear oq hz
        refine lv_iload_n hx hb dX12_groups_77 rfl (lv_at hl 1 rfl) ?_
        refine lv_iconst (v := (-1)) hx hb dX12_groups_78 (by decide) ?_
        refine lv_icmp_eq (tgt := 94) hx hb dX12_groups_79 (by decide) (fun c_21 => ?_) (fun c_21 => ?_)
        · rw [if_pos c_21] at hv
          have r_22 : rgI (-1) (-1) y1_11 := rg_w (rg_eq rl_m1 c_21) (by decide) (by decide)
          refine lv_aload_n hx hb dX12_groups_94 rfl (lv_at hl 0 rfl) ?_
          obtain ⟨_, ⟨rfl, t_24, hk_25⟩, o_c_23⟩ := hH h0 _ k_h0
          refine hg_get hx hb hG igX12 hown hK o_c_23 rfl 0 (by decide) (hG _ mw_1284) rfl dX12_groups_95 ?_
          refine vp_callSi (W.runS (As := [.ref (g.2.2 100)]) (rest := []) ⟨hx, hb, hml, hown, hts⟩ (c_X12_groupsOf_x l g Ty G_6 (g.2.2 100) (hk_25.1)) (cwSx 1 hts hG (gwC mw_1729) mw_88 mw_1727 mw_1728 rfl rfl rfl hd_X12_groupsOf ⟨Nat.le_of_ble_eq_true rfl, Nat.le_of_ble_eq_true rfl⟩) ⟨PcH_blind, PcH_pre hK hH⟩ rfl rfl hl.1 rfl (lv_room (Nat.le_of_ble_eq_true rfl)) dX12_groups_98 ⟨Nat.zero_le _, Nat.zero_le _⟩) (fun x_26 hx_26 => ?_)
          try rw [← hx_26] at hv
          have ex_27 : x_26 = F_X12_groupsOf_x (G.2.1 (g.2.2 100)) := by rw [← w_14]; exact hx_26
          have ex_28 : x_26 = F_X12_groupsOf_x (G.2.1 (g.2.2 100)) := hx_26.trans (by rw [w_14])
          try rw [← ex_28] at hv
          exact W.iret hx hb hr (fun t ht hWm => ⟨⟨x_26, (Ty, G_6), rfl, ⟨rfl, ⟨fr_7, ⟨⟨(by rw [u_8]; exact (rg_w hI.a102 (by decide) (by decide))), (by rw [u_13]; exact (rg_w rl_0 (by decide) (by decide))), (by rw [u_9]; exact (rg_w hI.a113 (by decide) (by decide))), (by rw [u_10]; exact (rg_w hI.a122 (by decide) (by decide))), (by rw [u_11]; exact (rg_w hI.a133 (by decide) (by decide))), (by rw [u_12]; exact (rg_w hI.a137 (by decide) (by decide))), u_19, u_20, (by rw [w_14]; exact (hI.ti.hi (show Bd ≤ Bd + 1000 by omega))), (hI.un2 (show Bd ≤ Bd + 1000 by omega) w_15 u_10), (hI.ke2 (show Bd ≤ Bd + 1000 by omega) w_16 w_17)⟩, hv.symm⟩⟩⟩, by show HT g Ty G_6 t.heap; rw [ht]; exact hH⟩, hS.F ht⟩) hS.2.2 dX12_groups_101
        · rw [if_neg c_21] at hv
          have r_29 : rgI (0) (23) y1_11 := rg_w (rg_neL ry1_11 rl_m1 c_21) (by decide) (by decide)
          refine lv_aload_n hx hb dX12_groups_82 rfl (lv_at hl 0 rfl) ?_
          refine lv_iload_n hx hb dX12_groups_83 rfl (lv_at hl 2 rfl) ?_
          refine lv_i2l hx hb dX12_groups_84 rfl ?_
          refine lv_topl (fun u_30 eu_30 => ?_)
          obtain ⟨_, ⟨rfl, t_32, hk_33⟩, o_c_31⟩ := hH h0 _ k_h0
          refine va_callv (va_runV (As := [.long u_30]) (rest := []) ⟨hx, hb, hml, hown, hts⟩ (c_X12_tell l g Ty G_6 H.size h0 u_30 k_h0 (by rw [u_13]; exact rg_w rl_0 (by decide) (by decide))) (cwV 1 hts (gwV mw_1510 mw_1512 mw_48 mw_88 mw_1513) rfl rfl rfl hv_X12_tell ⟨Nat.le_of_ble_eq_true rfl, Nat.le_of_ble_eq_true rfl⟩) ⟨PcT_blind, hg_recv hK o_c_31 rfl, PcT_pre hK hH⟩ rfl rfl hl.1 rfl (lv_room (Nat.le_of_ble_eq_true rfl)) dX12_groups_85 ⟨Nat.zero_le _, Nat.zero_le _⟩) hS (fun q _ h => AF.mono hS.1 h) (fun q h => AF.mono hS.1 h) (fun ux_34 t H locs ht hvm hx_34 hB hz hk hS => ?_)
          obtain ⟨eTx_34, eGx_34⟩ := hx_34
          obtain ⟨G_35, eG_35⟩ : ∃ z, z = ux_34.2 := ⟨_, rfl⟩
          rw [← eG_35] at eGx_34
          obtain ⟨x_36, ex_36⟩ : ∃ z : Int32, z = 0 + 1 := ⟨_, rfl⟩
          have e_37 : G_35 = gset G_6 104 x_36 := by rw [ex_36, ← u_13]; exact eGx_34
          have rx_36 : rgI (1) (1) x_36 := by rw [ex_36]; exact rg_w (rg_add rl_0 rl_1 (by decide) (by decide)) (by decide) (by decide)
          have fr_38 : FR [104, 105] [] [] G G_35 := FR.n fr_7 e_37 (by decide)
          have u_39 : G_35.1 102 = (G.1 102) := by rw [e_37]; exact (gs_ne (by decide)).trans u_8
          have u_40 : G_35.1 113 = (G.1 113) := by rw [e_37]; exact (gs_ne (by decide)).trans u_9
          have u_41 : G_35.1 122 = (G.1 122) := by rw [e_37]; exact (gs_ne (by decide)).trans u_10
          have u_42 : G_35.1 133 = (G.1 133) := by rw [e_37]; exact (gs_ne (by decide)).trans u_11
          have u_43 : G_35.1 137 = (G.1 137) := by rw [e_37]; exact (gs_ne (by decide)).trans u_12
          have u_44 : G_35.1 104 = x_36 := by rw [e_37]; exact gs_eq
          have w_45 : G_35.2.1 (g.2.2 100) = (G.2.1 (g.2.2 100)) := by rw [e_37]; exact w_14
          have w_46 : G_35.2.1 (g.2.2 121) = (G.2.1 (g.2.2 121)) := by rw [e_37]; exact w_15
          have w_47 : G_35.2.1 (g.2.2 140) = (G.2.1 (g.2.2 140)) := by rw [e_37]; exact w_16
          have w_48 : G_35.2.1 (g.2.2 141) = (G.2.1 (g.2.2 141)) := by rw [e_37]; exact w_17
          have w_49 : G_35.2.1 (g.2.2 111) = (G.2.1 (g.2.2 111)) := by rw [e_37]; exact w_18
          have u_50 : G_35.2.2 111 = some (g.2.2 111) := by rw [e_37]; exact u_19
          have u_51 : G_35.2.2 112 = some (g.2.2 112) := by rw [e_37]; exact u_20
          have hH : HT g Ty G_35 H := by rw [← ht, ← eTx_34, eG_35]; exact hB
          refine lv_aload_n hx hb dX12_groups_88 rfl (lv_at hl 0 rfl) ?_
          refine lv_iload_n hx hb dX12_groups_89 rfl (lv_at hl 1 rfl) ?_
          refine lv_i2l hx hb dX12_groups_90 rfl ?_
          refine lv_topl (fun u_52 eu_52 => ?_)
          obtain ⟨_, ⟨rfl, t_54, hk_55⟩, o_c_53⟩ := hH h0 _ k_h0
          refine va_callv (va_runV (As := [.long u_52]) (rest := []) ⟨hx, hb, hml, hown, hts⟩ (c_X12_tell l g Ty G_35 H.size h0 u_52 k_h0 (by rw [u_44]; exact rg_w rx_36 (by decide) (by decide))) (cwV 1 hts (gwV mw_1510 mw_1512 mw_48 mw_88 mw_1513) rfl rfl rfl hv_X12_tell ⟨Nat.le_of_ble_eq_true rfl, Nat.le_of_ble_eq_true rfl⟩) ⟨PcT_blind, hg_recv hK o_c_53 rfl, PcT_pre hK hH⟩ rfl rfl hl.1 rfl (lv_room (Nat.le_of_ble_eq_true rfl)) dX12_groups_91 ⟨Nat.zero_le _, Nat.zero_le _⟩) hS (fun q _ h => AF.mono hS.1 h) (fun q h => AF.mono hS.1 h) (fun ux_56 t H locs ht hvm hx_56 hB hz hk hS => ?_)
          obtain ⟨eTx_56, eGx_56⟩ := hx_56
          obtain ⟨G_57, eG_57⟩ : ∃ z, z = ux_56.2 := ⟨_, rfl⟩
          rw [← eG_57] at eGx_56
          obtain ⟨x_58, ex_58⟩ : ∃ z : Int32, z = x_36 + 1 := ⟨_, rfl⟩
          have e_59 : G_57 = gset G_35 104 x_58 := by rw [ex_58, ← u_44]; exact eGx_56
          have rx_58 : rgI (2) (2) x_58 := by rw [ex_58]; exact rg_w (rg_add rx_36 rl_1 (by decide) (by decide)) (by decide) (by decide)
          have fr_60 : FR [104, 105] [] [] G G_57 := FR.n fr_38 e_59 (by decide)
          have u_61 : G_57.1 102 = (G.1 102) := by rw [e_59]; exact (gs_ne (by decide)).trans u_39
          have u_62 : G_57.1 113 = (G.1 113) := by rw [e_59]; exact (gs_ne (by decide)).trans u_40
          have u_63 : G_57.1 122 = (G.1 122) := by rw [e_59]; exact (gs_ne (by decide)).trans u_41
          have u_64 : G_57.1 133 = (G.1 133) := by rw [e_59]; exact (gs_ne (by decide)).trans u_42
          have u_65 : G_57.1 137 = (G.1 137) := by rw [e_59]; exact (gs_ne (by decide)).trans u_43
          have u_66 : G_57.1 104 = x_58 := by rw [e_59]; exact gs_eq
          have w_67 : G_57.2.1 (g.2.2 100) = (G.2.1 (g.2.2 100)) := by rw [e_59]; exact w_45
          have w_68 : G_57.2.1 (g.2.2 121) = (G.2.1 (g.2.2 121)) := by rw [e_59]; exact w_46
          have w_69 : G_57.2.1 (g.2.2 140) = (G.2.1 (g.2.2 140)) := by rw [e_59]; exact w_47
          have w_70 : G_57.2.1 (g.2.2 141) = (G.2.1 (g.2.2 141)) := by rw [e_59]; exact w_48
          have w_71 : G_57.2.1 (g.2.2 111) = (G.2.1 (g.2.2 111)) := by rw [e_59]; exact w_49
          have u_72 : G_57.2.2 111 = some (g.2.2 111) := by rw [e_59]; exact u_50
          have u_73 : G_57.2.2 112 = some (g.2.2 112) := by rw [e_59]; exact u_51
          have hH : HT g Ty G_57 H := by rw [← ht, ← eTx_56, eG_57]; exact hB
          refine lv_aload_n hx hb dX12_groups_94 rfl (lv_at hl 0 rfl) ?_
          obtain ⟨_, ⟨rfl, t_75, hk_76⟩, o_c_74⟩ := hH h0 _ k_h0
          refine hg_get hx hb hG igX12 hown hK o_c_74 rfl 0 (by decide) (hG _ mw_1284) rfl dX12_groups_95 ?_
          refine vp_callSi (W.runS (As := [.ref (g.2.2 100)]) (rest := []) ⟨hx, hb, hml, hown, hts⟩ (c_X12_groupsOf_x l g Ty G_57 (g.2.2 100) (hk_76.1)) (cwSx 1 hts hG (gwC mw_1729) mw_88 mw_1727 mw_1728 rfl rfl rfl hd_X12_groupsOf ⟨Nat.le_of_ble_eq_true rfl, Nat.le_of_ble_eq_true rfl⟩) ⟨PcH_blind, PcH_pre hK hH⟩ rfl rfl hl.1 rfl (lv_room (Nat.le_of_ble_eq_true rfl)) dX12_groups_98 ⟨Nat.zero_le _, Nat.zero_le _⟩) (fun x_77 hx_77 => ?_)
          try rw [← hx_77] at hv
          have ex_78 : x_77 = F_X12_groupsOf_x (G.2.1 (g.2.2 100)) := by rw [← w_67]; exact hx_77
          have ex_79 : x_77 = F_X12_groupsOf_x (G.2.1 (g.2.2 100)) := hx_77.trans (by rw [w_67])
          try rw [← ex_79] at hv
          exact W.iret hx hb hr (fun t ht hWm => ⟨⟨x_77, (Ty, G_57), rfl, ⟨rfl, ⟨fr_60, ⟨⟨(by rw [u_61]; exact (rg_w hI.a102 (by decide) (by decide))), (by rw [u_66]; exact (rg_w rx_58 (by decide) (by decide))), (by rw [u_62]; exact (rg_w hI.a113 (by decide) (by decide))), (by rw [u_63]; exact (rg_w hI.a122 (by decide) (by decide))), (by rw [u_64]; exact (rg_w hI.a133 (by decide) (by decide))), (by rw [u_65]; exact (rg_w hI.a137 (by decide) (by decide))), u_72, u_73, (by rw [w_67]; exact (hI.ti.hi (show Bd ≤ Bd + 1000 by omega))), (hI.un2 (show Bd ≤ Bd + 1000 by omega) w_68 u_63), (hI.ke2 (show Bd ≤ Bd + 1000 by omega) w_69 w_70)⟩, hv.symm⟩⟩⟩, by show HT g Ty G_57 t.heap; rw [ht]; exact hH⟩, hS.F ht⟩) hS.2.2 dX12_groups_101
      · rw [if_neg c_1] at hv
        have r_80 : rgI (0) (23) y3_11 := rg_w (rg_ltL ry3_11 rl_24 (nle_lt c_1)) (by decide) (by decide)
        refine lv_aload_n hx hb dX12_groups_17 rfl (lv_at hl 0 rfl) ?_
        obtain ⟨_, ⟨rfl, t_82, hk_83⟩, o_c_81⟩ := hH h0 _ k_h0
        refine hg_get hx hb hG igX12 hown hK o_c_81 rfl 0 (by decide) (hG _ mw_1284) rfl dX12_groups_18 ?_
        refine lv_iload_n hx hb dX12_groups_21 rfl (lv_at hl 3 rfl) ?_
        refine vp_callSi (W.runS (As := [.ref (g.2.2 100), .int y3_11]) (rest := []) ⟨hx, hb, hml, hown, hts⟩ (c_X12_isLeast_x l g Ty G_11 (g.2.2 100) y3_11 (hk_83.1) (rg_w r_80 (by decide) (by decide))) (cwSx 2 hts hG (gwC mw_1726) mw_88 mw_1724 mw_1725 rfl rfl rfl hd_X12_isLeast ⟨Nat.le_of_ble_eq_true rfl, Nat.le_of_ble_eq_true rfl⟩) ⟨PcH_blind, PcH_pre hK hH⟩ rfl rfl hl.1 rfl (lv_room (Nat.le_of_ble_eq_true rfl)) dX12_groups_22 ⟨Nat.zero_le _, Nat.zero_le _⟩) (fun x_84 hx_84 => ?_)
        have rx_84 : rgI (0) (1) x_84 := hx_84.1
        try rw [← hx_84.2] at hv
        have ex_85 : x_84 = F_X12_isLeast_x (G.2.1 (g.2.2 100)) y3_11 := by rw [← (frL_11.2.1 (g.2.2 100) trivial)]; exact hx_84.2
        have ex_86 : x_84 = F_X12_isLeast_x (G.2.1 (g.2.2 100)) y3_11 := hx_84.2.trans (by rw [(frL_11.2.1 (g.2.2 100) trivial)])
        try rw [← ex_86] at hv
        refine lv_if_ne (tgt := 31) hx hb dX12_groups_25 (by decide) (fun c_87 => ?_) (fun c_87 => ?_)
        · rw [if_neg c_87] at hv
          have r_88 : rgI (1) (1) x_84 := rg_w (rg_neL rx_84 rl_0 c_87) (by decide) (by decide)
          refine lv_aload_n hx hb dX12_groups_31 rfl (lv_at hl 0 rfl) ?_
          refine hg_get hx hb hG igX12 hown hK o_c_81 rfl 0 (by decide) (hG _ mw_1284) rfl dX12_groups_32 ?_
          refine lv_aload_n hx hb dX12_groups_35 rfl (lv_at hl 0 rfl) ?_
          refine hg_get hx hb hG igX12 hown hK o_c_81 rfl 0 (by decide) (hG _ mw_1284) rfl dX12_groups_36 ?_
          refine lv_bipush (v := 48) hx hb dX12_groups_39 (by decide) ?_
          refine lv_iload_n hx hb dX12_groups_41 rfl (lv_at hl 3 rfl) ?_
          refine lv_iadd hx hb dX12_groups_42 ?_
          refine lv_topi (fun x_89 ex_89 => ?_)
          try rw [← ex_89] at hv
          have rx_89 : rgI (48) (71) x_89 := by rw [ex_89]; exact rg_w (rg_add rl_48 r_80 (by decide) (by decide)) (by decide) (by decide)
          obtain ⟨_, rfl, o_c_90⟩ := hH (g.2.2 100) _ hk_83.1
          have o_c_90 : va_at g.1 vwCl ((g.2.2 100), .inl (g.2.1 1, 122, .inl (G_11.2.1 (g.2.2 100)))) H := o_c_90
          refine hg_iald hx hb hK o_c_90 (rg_in (n := 122) rx_89 (by decide) (by decide)) dX12_groups_43 ?_
          rw [(frL_11.2.1 (g.2.2 100) trivial)]
          refine lv_topi (fun x_91 ex_91 => ?_)
          try rw [← ex_91] at hv
          refine vp_callSi (W.runS (As := [.ref (g.2.2 100), .int x_91]) (rest := []) ⟨hx, hb, hml, hown, hts⟩ (c_X12_inGroup l g Ty G_11 (g.2.2 100) x_91 (hk_83.1)) (cwSx 2 hts hG (gwC mw_1566) mw_88 mw_1564 mw_1565 rfl rfl rfl hd_X12_inGroup ⟨Nat.le_of_ble_eq_true rfl, Nat.le_of_ble_eq_true rfl⟩) ⟨PcH_blind, PcH_pre hK hH⟩ rfl rfl hl.1 rfl (lv_room (Nat.le_of_ble_eq_true rfl)) dX12_groups_44 ⟨Nat.zero_le _, Nat.zero_le _⟩) (fun x_92 hx_92 => ?_)
          try rw [← hx_92] at hv
          have ex_93 : x_92 = F_X12_inGroup (G.2.1 (g.2.2 100)) x_91 := by rw [← (frL_11.2.1 (g.2.2 100) trivial)]; exact hx_92
          try rw [← ex_93] at hv
          refine vp_callSi (W.runS (As := [.int x_92]) (rest := []) ⟨hx, hb, hml, hown, hts⟩ (c_J6_bitCount_x l g Ty G_11 x_92 ) (cwSx 1 hts hG (gwC mw_620) mw_99 mw_1553 mw_619 rfl rfl rfl hd_J6_bitCount_0f7a4 ⟨Nat.le_of_ble_eq_true rfl, Nat.le_of_ble_eq_true rfl⟩) ⟨PcH_blind, PcH_pre hK hH⟩ rfl rfl hl.1 rfl (lv_room (Nat.le_of_ble_eq_true rfl)) dX12_groups_47 ⟨Nat.zero_le _, Nat.zero_le _⟩) (fun x_94 hx_94 => ?_)
          have rx_94 : rgI (0) (63) x_94 := hx_94.1
          try rw [← hx_94.2] at hv
          try rw [← hx_94.2] at hv
          refine lv_istore (lv' := [(4, .int x_94), (0, .ref h0), (1, .int y1_11), (2, .int y2_11), (3, .int y3_11)]) hx hb dX12_groups_50 hl (by decide) rfl (fun ls hl => ?_)
          refine lv_iload hx hb dX12_groups_52 (lv_at hl 0 rfl) ?_
          refine lv_iload_n hx hb dX12_groups_54 rfl (lv_at hl 3 rfl) ?_
          refine lv_icmp_gt (tgt := 61) hx hb dX12_groups_55 (by decide) (fun c_95 => ?_) (fun c_95 => ?_)
          · rw [if_pos c_95] at hv
            have r_96 : rgI (0) (62) y2_11 := rg_w (rg_ltL ry2_11 rx_94 c_95) (by decide) (by decide)
            have r_97 : rgI (1) (63) x_94 := rg_w (rg_ltR ry2_11 rx_94 c_95) (by decide) (by decide)
            refine lv_iload_n hx hb dX12_groups_61 rfl (lv_at hl 4 rfl) ?_
            refine lv_istore_n (lv' := [(1, .int y3_11), (4, .int x_94), (0, .ref h0), (2, .int y2_11), (3, .int y3_11)]) hx hb dX12_groups_62 rfl hl (by decide) rfl (fun ls hl => ?_)
            refine lv_iload hx hb dX12_groups_63 (lv_at hl 1 rfl) ?_
            refine lv_istore_n (lv' := [(2, .int x_94), (1, .int y3_11), (4, .int x_94), (0, .ref h0), (3, .int y3_11)]) hx hb dX12_groups_65 rfl hl (by decide) rfl (fun ls hl => ?_)
            obtain ⟨x_98, ex_98⟩ : ∃ y : Int32, y = y3_11 + 1 := ⟨_, rfl⟩
            try rw [← ex_98] at hv
            have rx_98 : rgI (1) (24) x_98 := by rw [ex_98]; exact rg_w (rg_add r_80 rl_1 (by decide) (by decide)) (by decide) (by decide)
            have qx_98 : x_98.toInt = (y3_11 : Int32).toInt + 1 := by rw [ex_98]; exact rg_addE r_80 rl_1 (by decide) (by decide)
            refine lv_iinc (v := x_98) (lv' := [(3, .int x_98), (2, .int x_94), (1, .int y3_11), (4, .int x_94), (0, .ref h0)]) hx hb dX12_groups_66 hl (k := 4) rfl (by rw [ex_98]; rfl) (by decide) rfl (fun ls hl => ?_)
            refine lv_goto (tgt := 11) hx hb dX12_groups_69 (by decide) ?_
            exact ih_11 H locs G_11 y3_11 x_94 x_98 ls (rg_w rg104_11 (by decide) (by decide)) frL_11 (rg_w r_80 (by decide) (by decide)) (rg_w r_97 (by decide) (by decide)) (rg_w rx_98 (by decide) (by decide)) (by have h1 := qx_98; have h2 := r_80.1; have h3 := r_80.2; have h4 := hm_11; omega) (lv_sub hl [4, 2, 1, 0] rfl) hv hH hS
          · rw [if_neg c_95] at hv
            refine lv_goto (tgt := 66) hx hb dX12_groups_58 (by decide) ?_
            obtain ⟨x_99, ex_99⟩ : ∃ y : Int32, y = y3_11 + 1 := ⟨_, rfl⟩
            try rw [← ex_99] at hv
            have rx_99 : rgI (1) (24) x_99 := by rw [ex_99]; exact rg_w (rg_add r_80 rl_1 (by decide) (by decide)) (by decide) (by decide)
            have qx_99 : x_99.toInt = (y3_11 : Int32).toInt + 1 := by rw [ex_99]; exact rg_addE r_80 rl_1 (by decide) (by decide)
            refine lv_iinc (v := x_99) (lv' := [(3, .int x_99), (4, .int x_94), (0, .ref h0), (1, .int y1_11), (2, .int y2_11)]) hx hb dX12_groups_66 hl (k := 4) rfl (by rw [ex_99]; rfl) (by decide) rfl (fun ls hl => ?_)
            refine lv_goto (tgt := 11) hx hb dX12_groups_69 (by decide) ?_
            exact ih_11 H locs G_11 y1_11 y2_11 x_99 ls (rg_w rg104_11 (by decide) (by decide)) frL_11 ry1_11 ry2_11 (rg_w rx_99 (by decide) (by decide)) (by have h1 := qx_99; have h2 := r_80.1; have h3 := r_80.2; have h4 := hm_11; omega) (lv_sub hl [2, 3, 4, 0] rfl) hv hH hS
        · rw [if_pos c_87] at hv
          have r_100 : rgI (0) (0) x_84 := rg_w (rg_eq rl_0 c_87) (by decide) (by decide)
          refine lv_goto (tgt := 66) hx hb dX12_groups_28 (by decide) ?_
          obtain ⟨x_101, ex_101⟩ : ∃ y : Int32, y = y3_11 + 1 := ⟨_, rfl⟩
          try rw [← ex_101] at hv
          have rx_101 : rgI (1) (24) x_101 := by rw [ex_101]; exact rg_w (rg_add r_80 rl_1 (by decide) (by decide)) (by decide) (by decide)
          have qx_101 : x_101.toInt = (y3_11 : Int32).toInt + 1 := by rw [ex_101]; exact rg_addE r_80 rl_1 (by decide) (by decide)
          refine lv_iinc (v := x_101) (lv' := [(3, .int x_101), (0, .ref h0), (1, .int y1_11), (2, .int y2_11)]) hx hb dX12_groups_66 hl (k := 3) rfl (by rw [ex_101]; rfl) (by decide) rfl (fun ls hl => ?_)
          refine lv_goto (tgt := 11) hx hb dX12_groups_69 (by decide) ?_
          exact ih_11 H locs G_11 y1_11 y2_11 x_101 ls (rg_w rg104_11 (by decide) (by decide)) frL_11 ry1_11 ry2_11 (rg_w rx_101 (by decide) (by decide)) (by have h1 := qx_101; have h2 := r_80.1; have h3 := r_80.2; have h4 := hm_11; omega) (lv_sub hl [1, 2, 3, 0] rfl) hv hH hS
  refine lv_aload_n hx hb dX12_groups_0 rfl (lv_at hl 0 rfl) ?_
  refine lv_iconst (v := 0) hx hb dX12_groups_1 (by decide) ?_
  obtain ⟨_, ⟨rfl, t_103, hk_104⟩, o_c_102⟩ := hH h0 _ k_h0
  refine hg_put (ty := .int) hx hb hG igX12 tyX12 tyX12_ok nmX12 hown hK hS o_c_102 (AF.of k_h0) rfl 5 (by decide) (hG _ mw_1289) rfl (by decide +kernel) rfl rfl (Nat.le_of_ble_eq_true rfl) dX12_groups_2 (fun H locs o_c_102 hz oq hS => ?_)
  obtain ⟨G_105, eG_105⟩ : ∃ z : Gh, z = gset G 105 0 := ⟨_, rfl⟩
  have hH : HT g Ty G_105 H := by rw [eG_105]; exact HT.putN 105 0 hH k_h0 ⟨rfl, t_103, hk_104⟩ o_c_102 oq (Or.inr (Or.inr (Or.inr (Or.inr (Or.inr ⟨by decide, t_103⟩)))))
  have fr_106 : FR [104, 105] [] [] G G_105 := FR.n FR.rf eG_105 (by decide)
  have u_107 : G_105.1 102 = (G.1 102) := by rw [eG_105]; exact (gs_ne (by decide))
  have u_108 : G_105.1 104 = (G.1 104) := by rw [eG_105]; exact (gs_ne (by decide))
  have u_109 : G_105.1 113 = (G.1 113) := by rw [eG_105]; exact (gs_ne (by decide))
  have u_110 : G_105.1 122 = (G.1 122) := by rw [eG_105]; exact (gs_ne (by decide))
  have u_111 : G_105.1 133 = (G.1 133) := by rw [eG_105]; exact (gs_ne (by decide))
  have u_112 : G_105.1 137 = (G.1 137) := by rw [eG_105]; exact (gs_ne (by decide))
  have u_113 : G_105.1 105 = 0 := by rw [eG_105]; exact gs_eq
  have w_114 : G_105.2.1 (g.2.2 100) = (G.2.1 (g.2.2 100)) := by rw [eG_105]; exact rfl
  have w_115 : G_105.2.1 (g.2.2 121) = (G.2.1 (g.2.2 121)) := by rw [eG_105]; exact rfl
  have w_116 : G_105.2.1 (g.2.2 140) = (G.2.1 (g.2.2 140)) := by rw [eG_105]; exact rfl
  have w_117 : G_105.2.1 (g.2.2 141) = (G.2.1 (g.2.2 141)) := by rw [eG_105]; exact rfl
  have w_118 : G_105.2.1 (g.2.2 111) = (G.2.1 (g.2.2 111)) := by rw [eG_105]; exact rfl
  have u_119 : G_105.2.2 111 = some (g.2.2 111) := by rw [eG_105]; exact hI.r111
  have u_120 : G_105.2.2 112 = some (g.2.2 112) := by rw [eG_105]; exact hI.r112
  clear oq hz
  refine lv_iconst (v := (-1)) hx hb dX12_groups_5 (by decide) ?_
  refine lv_istore_n (lv' := [(1, .int (-1)), (0, .ref h0)]) hx hb dX12_groups_6 rfl hl (by decide) rfl (fun ls hl => ?_)
  refine lv_iconst (v := 0) hx hb dX12_groups_7 (by decide) ?_
  refine lv_istore_n (lv' := [(2, .int 0), (1, .int (-1)), (0, .ref h0)]) hx hb dX12_groups_8 rfl hl (by decide) rfl (fun ls hl => ?_)
  refine lv_iconst (v := 0) hx hb dX12_groups_9 (by decide) ?_
  refine lv_istore_n (lv' := [(3, .int 0), (2, .int 0), (1, .int (-1)), (0, .ref h0)]) hx hb dX12_groups_10 rfl hl (by decide) rfl (fun ls hl => ?_)
  exact L_11 26 H locs G_105 (-1) 0 0 ls (by rw [u_108]; exact rg_w hI.a104 (by decide) (by decide)) fr_106 (rg_w rl_m1 (by decide) (by decide)) (rg_w rl_0 (by decide) (by decide)) (rg_w rl_0 (by decide) (by decide)) (by decide) (lv_sub hl [3, 2, 1, 0] rfl) hv hH hS

def F_X12_lost__x (r0 : Nat → Int32) (r1 : Nat → Int32) (m113 : Int32) (a0 : Int32) (a1 : Int32) : Int32 := (if (0 : Int32) ≤ (F_X12_refusesUnmount r0 a0 a1) then (F_X12_tellBits_x (F_X12_goersOf_x r0 r1 m113 a0 a1)) else (F_X12_refusesUnmount r0 a0 a1))
set_option maxHeartbeats 4000000 in
set_option maxRecDepth 100000 in
theorem c_X12_lost__x (l : Launch) (g : Gx) (Ty : TyM) (G : Gh) (sz : Nat) (h0 : Nat) (a0 : Int32) (a1 : Int32) (k_h0 : Ty h0 = some (22, 0)) (Bd : Int) (hI : OI g Bd G) (hBd : Bd ≤ 1900000) (hLD : LD g) : Met l yX12_lost_ (wsG yX12_lost_ cX12_lost_ 4 (some .int)) ({ frames := 340, cells := 0, slots := 0, locals := 7971 }) (PcT g Ty G sz [.ref h0, .int a0, .int a1]) (QwI g Ty sz (fun r u => u.1 = Ty ∧ FR [107, 108, 109, 110, 114, 104, 105] [(g.2.2 115)] [106] G u.2 ∧ OI g (Bd + 1000) u.2 ∧ F_X12_lost__x (G.2.1 (g.2.2 100)) (G.2.1 (g.2.2 111)) (G.1 113) a0 a1 = r)) 0 0 (AF Ty sz) := by
  refine Met.ofW (cc := cX12_lost_) (maxL := 4) (ret := (some .int)) (by decide) rfl ?_
  intro p e s m args below meth c s₁ B hml hv
  obtain ⟨rfl, hsz, hK, hH⟩ := hv
  subst hsz
  have hx := B.exec
  have hb := B.bytes
  have hr := B.returns
  have hts := atoms_spec (ws := (wsG yX12_lost_ cX12_lost_ 4 (some .int))) B.pre
  have hG : ∀ w ∈ GW, w.before ([.ref h0, .int a0, .int a1] : List Value).toArray s = true := fun w h => hts w (List.mem_cons_of_mem _ h)
  have hown : s.vm.findClass RX12 = some m.cls := findClass_of_methodNamed B.named
  have hlocks := B.notSynchronized
  have hl := lv_entry [.ref h0, .int a0, .int a1] (n := 4) (Nat.le_of_ble_eq_true rfl)
  rw [lg_entry_eq]
  generalize (lg_sl [.ref h0, .int a0, .int a1] ++ List.replicate (4 - (lg_sl [.ref h0, .int a0, .int a1]).length) Slot.unset).toArray = ls at hl ⊢
  have hl : lv_has ls 4 [(0, .ref h0), (1, .int a0), (2, .int a1)] := hl
  have hmk : mdK g Ty := mdk_of hH k_h0
  have hv : (if (0 : Int32) ≤ (F_X12_refusesUnmount (G.2.1 (g.2.2 100)) a0 a1) then (F_X12_tellBits_x (F_X12_goersOf_x (G.2.1 (g.2.2 100)) (G.2.1 (g.2.2 111)) (G.1 113) a0 a1)) else (F_X12_refusesUnmount (G.2.1 (g.2.2 100)) a0 a1)) = F_X12_lost__x (G.2.1 (g.2.2 100)) (G.2.1 (g.2.2 111)) (G.1 113) a0 a1 := rfl
  have hS : va_S (AF Ty s.heap.size) s.heap s.heap [] := va_S.rf
  obtain ⟨⟨σ0, hTS0⟩, h10, hBB0⟩ := id hI.ti
  obtain ⟨ρ, hT⟩ := hTS0.1
  refine lv_aload_n hx hb dX12_lost__0 rfl (lv_at hl 0 rfl) ?_
  refine lv_iconst (v := 0) hx hb dX12_lost__1 (by decide) ?_
  obtain ⟨_, ⟨rfl, t_2, hk_3⟩, o_c_1⟩ := hH h0 _ k_h0
  refine hg_put (ty := .int) hx hb hG igX12 tyX12 tyX12_ok nmX12 hown hK hS o_c_1 (AF.of k_h0) rfl 5 (by decide) (hG _ mw_1289) rfl (by decide +kernel) rfl rfl (Nat.le_of_ble_eq_true rfl) dX12_lost__2 (fun H locs o_c_1 hz oq hS => ?_)
  obtain ⟨G_4, eG_4⟩ : ∃ z : Gh, z = gset G 105 0 := ⟨_, rfl⟩
  have hH : HT g Ty G_4 H := by rw [eG_4]; exact HT.putN 105 0 hH k_h0 ⟨rfl, t_2, hk_3⟩ o_c_1 oq (Or.inr (Or.inr (Or.inr (Or.inr (Or.inr ⟨by decide, t_2⟩)))))
  have fr_5 : FR [107, 108, 109, 110, 114, 104, 105] [(g.2.2 115)] [106] G G_4 := FR.n FR.rf eG_4 (by decide)
  have u_6 : G_4.1 102 = (G.1 102) := by rw [eG_4]; exact (gs_ne (by decide))
  have u_7 : G_4.1 104 = (G.1 104) := by rw [eG_4]; exact (gs_ne (by decide))
  have u_8 : G_4.1 113 = (G.1 113) := by rw [eG_4]; exact (gs_ne (by decide))
  have u_9 : G_4.1 122 = (G.1 122) := by rw [eG_4]; exact (gs_ne (by decide))
  have u_10 : G_4.1 133 = (G.1 133) := by rw [eG_4]; exact (gs_ne (by decide))
  have u_11 : G_4.1 137 = (G.1 137) := by rw [eG_4]; exact (gs_ne (by decide))
  have u_12 : G_4.1 105 = 0 := by rw [eG_4]; exact gs_eq
  have w_13 : G_4.2.1 (g.2.2 100) = (G.2.1 (g.2.2 100)) := by rw [eG_4]; exact rfl
  have w_14 : G_4.2.1 (g.2.2 121) = (G.2.1 (g.2.2 121)) := by rw [eG_4]; exact rfl
  have w_15 : G_4.2.1 (g.2.2 140) = (G.2.1 (g.2.2 140)) := by rw [eG_4]; exact rfl
  have w_16 : G_4.2.1 (g.2.2 141) = (G.2.1 (g.2.2 141)) := by rw [eG_4]; exact rfl
  have w_17 : G_4.2.1 (g.2.2 111) = (G.2.1 (g.2.2 111)) := by rw [eG_4]; exact rfl
  have u_18 : G_4.2.2 111 = some (g.2.2 111) := by rw [eG_4]; exact hI.r111
  have u_19 : G_4.2.2 112 = some (g.2.2 112) := by rw [eG_4]; exact hI.r112
  clear oq hz
  refine lv_aload_n hx hb dX12_lost__5 rfl (lv_at hl 0 rfl) ?_
  obtain ⟨_, ⟨rfl, t_21, hk_22⟩, o_c_20⟩ := hH h0 _ k_h0
  refine hg_get hx hb hG igX12 hown hK o_c_20 rfl 0 (by decide) (hG _ mw_1284) rfl dX12_lost__6 ?_
  refine lv_iload_n hx hb dX12_lost__9 rfl (lv_at hl 1 rfl) ?_
  refine lv_iload_n hx hb dX12_lost__10 rfl (lv_at hl 2 rfl) ?_
  refine vp_callSi (W.runS (As := [.ref (g.2.2 100), .int a0, .int a1]) (rest := []) ⟨hx, hb, hml, hown, hts⟩ (c_X12_refusesUnmount l g Ty G_4 (g.2.2 100) a0 a1 (hk_22.1)) (cwSx 3 hts hG (gwC mw_1655) mw_88 mw_1653 mw_1654 rfl rfl rfl hd_X12_refusesUnmount ⟨Nat.le_of_ble_eq_true rfl, Nat.le_of_ble_eq_true rfl⟩) ⟨PcH_blind, PcH_pre hK hH⟩ rfl rfl hl.1 rfl (lv_room (Nat.le_of_ble_eq_true rfl)) dX12_lost__11 ⟨Nat.zero_le _, Nat.zero_le _⟩) (fun x_23 hx_23 => ?_)
  have rx_23 : rgI (-3) (0) x_23 := hx_23.1
  try rw [← hx_23.2] at hv
  have ex_24 : x_23 = F_X12_refusesUnmount (G.2.1 (g.2.2 100)) a0 a1 := by rw [← w_13]; exact hx_23.2
  try rw [← ex_24] at hv
  refine lv_istore_n (lv' := [(3, .int x_23), (0, .ref h0), (1, .int a0), (2, .int a1)]) hx hb dX12_lost__14 rfl hl (by decide) rfl (fun ls hl => ?_)
  refine lv_iload_n hx hb dX12_lost__15 rfl (lv_at hl 0 rfl) ?_
  refine lv_if_ge (tgt := 23) hx hb dX12_lost__16 (by decide) (fun c_25 => ?_) (fun c_25 => ?_)
  · rw [if_pos c_25] at hv
    have r_26 : rgI (0) (0) x_23 := rg_w (rg_leR rl_0 rx_23 c_25) (by decide) (by decide)
    have th_27 : thr (G.2.1 (g.2.2 100)) a0 := ru_0 ex_24 r_26 c_25
    have r_28 : rgI (0) (23) a0 := rg_w (th_27.1) (by decide) (by decide)
    refine lv_aload_n hx hb dX12_lost__23 rfl (lv_at hl 1 rfl) ?_
    refine lv_aload_n hx hb dX12_lost__24 rfl (lv_at hl 1 rfl) ?_
    refine lv_aload_n hx hb dX12_lost__25 rfl (lv_at hl 1 rfl) ?_
    refine hg_get hx hb hG igX12 hown hK o_c_20 rfl 0 (by decide) (hG _ mw_1284) rfl dX12_lost__26 ?_
    refine lv_iload_n hx hb dX12_lost__29 rfl (lv_at hl 2 rfl) ?_
    refine lv_iload_n hx hb dX12_lost__30 rfl (lv_at hl 3 rfl) ?_
    refine va_calli (va_runV (As := [.ref (g.2.2 100), .int a0, .int a1]) (rest := [.ref h0]) ⟨hx, hb, hml, hown, hts⟩ (c_X12_goersOf_x l g Ty G_4 H.size h0 (g.2.2 100) a0 a1 k_h0 (hk_22.1) ρ (by rw [w_13]; exact hT) (by rw [w_13]; exact th_27) (g.2.2 111) hmk.2.2.2.2.2.2.2.2.2.2.2.2.2.2.2.2.2.2.2.2.1 u_18 (by rw [u_8]; exact hI.a113)) (cwV 3 hts (gwV mw_1660 mw_1662 mw_63 mw_88 mw_1663) rfl rfl rfl hv_X12_goersOf ⟨Nat.le_of_ble_eq_true rfl, Nat.le_of_ble_eq_true rfl⟩) ⟨PcT_blind, hg_recv hK o_c_20 rfl, PcT_pre hK hH⟩ rfl rfl hl.1 rfl (lv_room (Nat.le_of_ble_eq_true rfl)) dX12_lost__31 ⟨Nat.zero_le _, Nat.zero_le _⟩) hS (fun q _ h => AF.mono hS.1 h) (fun q h => AF.mono hS.1 h) (fun x_29 ux_29 t H locs ht hvm hx_29 hB hz hk hS => ?_)
    obtain ⟨hx_29, fx_29⟩ := hx_29
    obtain ⟨eTx_29, eGx_29⟩ := fx_29
    obtain ⟨G_30, eG_30⟩ : ∃ z, z = ux_29.2 := ⟨_, rfl⟩
    rw [← eG_30] at eGx_29
    obtain ⟨hfr_31, hex_32⟩ := eGx_29
    have fr_33 : FR [107, 108, 109, 110, 114, 104, 105] [(g.2.2 115)] [106] G G_30 := FR.tr fr_5 hfr_31 (by decide) (fun b h => ⟨h.1, trivial⟩) (by decide)
    have u_34 : G_30.1 102 = (G.1 102) := (hfr_31.1 102 (by decide)).trans u_6
    have u_35 : G_30.1 104 = (G.1 104) := (hfr_31.1 104 (by decide)).trans u_7
    have u_36 : G_30.1 113 = (G.1 113) := (hfr_31.1 113 (by decide)).trans u_8
    have u_37 : G_30.1 122 = (G.1 122) := (hfr_31.1 122 (by decide)).trans u_9
    have u_38 : G_30.1 133 = (G.1 133) := (hfr_31.1 133 (by decide)).trans u_10
    have u_39 : G_30.1 137 = (G.1 137) := (hfr_31.1 137 (by decide)).trans u_11
    have u_40 : G_30.1 105 = 0 := (hfr_31.1 105 (by decide)).trans u_12
    have w_41 : G_30.2.1 (g.2.2 100) = (G.2.1 (g.2.2 100)) := (hfr_31.2.1 (g.2.2 100) ⟨(ne_kd hmk.1 hmk.2.2.2.1 (by decide)), trivial⟩).trans w_13
    have w_42 : G_30.2.1 (g.2.2 121) = (G.2.1 (g.2.2 121)) := (hfr_31.2.1 (g.2.2 121) ⟨(ne_kd hmk.2.2.2.2.2.1 hmk.2.2.2.1 (by decide)), trivial⟩).trans w_14
    have w_43 : G_30.2.1 (g.2.2 140) = (G.2.1 (g.2.2 140)) := (hfr_31.2.1 (g.2.2 140) ⟨(ne_kd hmk.2.2.2.2.2.2.2.2.2.2.2.2.2.2.2.2.2.2.1 hmk.2.2.2.1 (by decide)), trivial⟩).trans w_15
    have w_44 : G_30.2.1 (g.2.2 141) = (G.2.1 (g.2.2 141)) := (hfr_31.2.1 (g.2.2 141) ⟨(ne_kd hmk.2.2.2.2.2.2.2.2.2.2.2.2.2.2.2.2.2.2.2.1 hmk.2.2.2.1 (by decide)), trivial⟩).trans w_16
    have w_45 : G_30.2.1 (g.2.2 111) = (G.2.1 (g.2.2 111)) := (hfr_31.2.1 (g.2.2 111) ⟨(ne_kd hmk.2.2.2.2.2.2.2.2.2.2.2.2.2.2.2.2.2.2.2.2.1 hmk.2.2.2.1 (by decide)), trivial⟩).trans w_17
    have u_46 : G_30.2.2 111 = some (g.2.2 111) := (hfr_31.2.2 111 (by decide)).trans u_18
    have u_47 : G_30.2.2 112 = some (g.2.2 112) := (hfr_31.2.2 112 (by decide)).trans u_19
    have hq_48 : F_X12_goersOf_x (G.2.1 (g.2.2 100)) (G.2.1 (g.2.2 111)) (G.1 113) a0 a1 = x_29 := by have q := hex_32; rw [w_13, w_17, u_8] at q; exact q
    try rw [hq_48] at hv
    have hH : HT g Ty G_30 H := by rw [← ht, ← eTx_29, eG_30]; exact hB
    have tx_49 := hx_29
    try rw [w_13] at tx_49
    try rw [w_17] at tx_49
    try rw [u_8] at tx_49
    obtain ⟨_, ⟨rfl, t_51, hk_52⟩, o_c_50⟩ := hH h0 _ k_h0
    refine va_calli (va_runV (As := [.int x_29]) (rest := []) ⟨hx, hb, hml, hown, hts⟩ (c_X12_tellBits_x l g Ty G_30 H.size h0 x_29 k_h0) (cwV 1 hts (gwV mw_1704 mw_1706 mw_67 mw_88 mw_1707) rfl rfl rfl hv_X12_tellBits ⟨Nat.le_of_ble_eq_true rfl, Nat.le_of_ble_eq_true rfl⟩) ⟨PcT_blind, hg_recv hK o_c_50 rfl, PcT_pre hK hH⟩ rfl rfl hl.1 rfl (lv_room (Nat.le_of_ble_eq_true rfl)) dX12_lost__34 ⟨Nat.zero_le _, Nat.zero_le _⟩) hS (fun q _ h => AF.mono hS.1 h) (fun q h => AF.mono hS.1 h) (fun x_53 ux_53 t H locs ht hvm hx_53 hB hz hk hS => ?_)
    obtain ⟨eTx_53, eGx_53⟩ := hx_53
    obtain ⟨G_54, eG_54⟩ : ∃ z, z = ux_53.2 := ⟨_, rfl⟩
    rw [← eG_54] at eGx_53
    obtain ⟨hfr_55, hex_56⟩ := eGx_53
    have fr_57 : FR [107, 108, 109, 110, 114, 104, 105] [(g.2.2 115)] [106] G G_54 := FR.tr fr_33 hfr_55 (by decide) (fun _ _ => trivial) (by decide)
    have u_58 : G_54.1 102 = (G.1 102) := (hfr_55.1 102 (by decide)).trans u_34
    have u_59 : G_54.1 113 = (G.1 113) := (hfr_55.1 113 (by decide)).trans u_36
    have u_60 : G_54.1 122 = (G.1 122) := (hfr_55.1 122 (by decide)).trans u_37
    have u_61 : G_54.1 133 = (G.1 133) := (hfr_55.1 133 (by decide)).trans u_38
    have u_62 : G_54.1 137 = (G.1 137) := (hfr_55.1 137 (by decide)).trans u_39
    have u_63 : G_54.1 105 = 0 := (hfr_55.1 105 (by decide)).trans u_40
    have w_64 : G_54.2.1 (g.2.2 100) = (G.2.1 (g.2.2 100)) := (hfr_55.2.1 (g.2.2 100) trivial).trans w_41
    have w_65 : G_54.2.1 (g.2.2 121) = (G.2.1 (g.2.2 121)) := (hfr_55.2.1 (g.2.2 121) trivial).trans w_42
    have w_66 : G_54.2.1 (g.2.2 140) = (G.2.1 (g.2.2 140)) := (hfr_55.2.1 (g.2.2 140) trivial).trans w_43
    have w_67 : G_54.2.1 (g.2.2 141) = (G.2.1 (g.2.2 141)) := (hfr_55.2.1 (g.2.2 141) trivial).trans w_44
    have w_68 : G_54.2.1 (g.2.2 111) = (G.2.1 (g.2.2 111)) := (hfr_55.2.1 (g.2.2 111) trivial).trans w_45
    have u_69 : G_54.2.2 111 = some (g.2.2 111) := (hfr_55.2.2 111 (by decide)).trans u_46
    have u_70 : G_54.2.2 112 = some (g.2.2 112) := (hfr_55.2.2 112 (by decide)).trans u_47
    obtain ⟨xa_71, xb_72⟩ := hex_56
    have hq_73 : F_X12_tellBits_x x_29 = x_53 := by have q := xb_72; exact q
    try rw [hq_73] at hv
    have t4_74 : rgI (1) (1) (G_54.1 104) := xa_71
    have hH : HT g Ty G_54 H := by rw [← ht, ← eTx_53, eG_54]; exact hB
    exact W.iret hx hb hr (fun t ht hWm => ⟨⟨x_53, (Ty, G_54), rfl, ⟨rfl, ⟨fr_57, ⟨⟨(by rw [u_58]; exact (rg_w hI.a102 (by decide) (by decide))), (rg_w t4_74 (by decide) (by decide)), (by rw [u_59]; exact (rg_w hI.a113 (by decide) (by decide))), (by rw [u_60]; exact (rg_w hI.a122 (by decide) (by decide))), (by rw [u_61]; exact (rg_w hI.a133 (by decide) (by decide))), (by rw [u_62]; exact (rg_w hI.a137 (by decide) (by decide))), u_69, u_70, (by rw [w_64]; exact (hI.ti.hi (show Bd ≤ Bd + 1000 by omega))), (hI.un2 (show Bd ≤ Bd + 1000 by omega) w_65 u_60), (hI.ke2 (show Bd ≤ Bd + 1000 by omega) w_66 w_67)⟩, hv.symm⟩⟩⟩, by show HT g Ty G_54 t.heap; rw [ht]; exact hH⟩, hS.F ht⟩) hS.2.2 dX12_lost__37
  · rw [if_neg c_25] at hv
    have r_75 : rgI (-3) (-1) x_23 := rg_w (rg_ltL rx_23 rl_0 (nle_lt c_25)) (by decide) (by decide)
    refine lv_iload_n hx hb dX12_lost__19 rfl (lv_at hl 0 rfl) ?_
    refine lv_goto (tgt := 37) hx hb dX12_lost__20 (by decide) ?_
    exact W.iret hx hb hr (fun t ht hWm => ⟨⟨x_23, (Ty, G_4), rfl, ⟨rfl, ⟨fr_5, ⟨⟨(by rw [u_6]; exact (rg_w hI.a102 (by decide) (by decide))), (by rw [u_7]; exact (rg_w hI.a104 (by decide) (by decide))), (by rw [u_8]; exact (rg_w hI.a113 (by decide) (by decide))), (by rw [u_9]; exact (rg_w hI.a122 (by decide) (by decide))), (by rw [u_10]; exact (rg_w hI.a133 (by decide) (by decide))), (by rw [u_11]; exact (rg_w hI.a137 (by decide) (by decide))), u_18, u_19, (by rw [w_13]; exact (hI.ti.hi (show Bd ≤ Bd + 1000 by omega))), (hI.un2 (show Bd ≤ Bd + 1000 by omega) w_14 u_9), (hI.ke2 (show Bd ≤ Bd + 1000 by omega) w_15 w_16)⟩, hv.symm⟩⟩⟩, by show HT g Ty G_4 t.heap; rw [ht]; exact hH⟩, hS.F ht⟩) hS.2.2 dX12_lost__37

def F_X12_sheet_x_46 : Nat → Int32 → Int32 → Int32 → Int32 → Int32 → Int32 → Int32 → (Nat → Int32) → Int32 × (Nat → Int32)
  | 0, _, _, _, _, _, y7, _, yr0 => (y7, yr0)
  | n + 1, y1, y2, y4, y5, y6, y7, y8, yr0 => (if (24 : Int32) ≤ y8 then (y7, yr0) else (if (F_X12_isThere yr0 y8) = (0 : Int32) then (F_X12_sheet_x_46 n y1 y2 y4 y5 y6 y7 (y8 + (1 : Int32)) yr0) else (if y1 = (0 : Int32) then (if (yr0 (Int32.toNatClampNeg ((48 : Int32) + y8))) = (0 : Int32) then (if (yr0 (Int32.toNatClampNeg ((72 : Int32) + y8))) = (0 : Int32) then (if (3 : Int32) ≤ y1 then (F_X12_sheet_x_46 n y1 y2 y4 (y5 + y4) (y6 + (1 : Int32)) (y7 + ((upd yr0 (Int32.toNatClampNeg ((96 : Int32) + y8)) (0 : Int32)) (Int32.toNatClampNeg ((96 : Int32) + y8)))) (y8 + (1 : Int32)) (upd yr0 (Int32.toNatClampNeg ((96 : Int32) + y8)) (0 : Int32))) else (if y2 ≤ y6 then (F_X12_sheet_x_46 n y1 y2 y4 (y5 + y4) (y6 + (1 : Int32)) (y7 + ((upd yr0 (Int32.toNatClampNeg ((96 : Int32) + y8)) (0 : Int32)) (Int32.toNatClampNeg ((96 : Int32) + y8)))) (y8 + (1 : Int32)) (upd yr0 (Int32.toNatClampNeg ((96 : Int32) + y8)) (0 : Int32))) else (if (Int8.toInt32 (Int32.toInt8 y5)) ≤ (0 : Int32) then (F_X12_sheet_x_46 n y1 y2 y4 (y5 + y4) (y6 + (1 : Int32)) (y7 + ((upd yr0 (Int32.toNatClampNeg ((96 : Int32) + y8)) (0 : Int32)) (Int32.toNatClampNeg ((96 : Int32) + y8)))) (y8 + (1 : Int32)) (upd yr0 (Int32.toNatClampNeg ((96 : Int32) + y8)) (0 : Int32))) else (F_X12_sheet_x_46 n y1 y2 y4 (y5 + y4) (y6 + (1 : Int32)) (y7 + ((upd yr0 (Int32.toNatClampNeg ((96 : Int32) + y8)) (1 : Int32)) (Int32.toNatClampNeg ((96 : Int32) + y8)))) (y8 + (1 : Int32)) (upd yr0 (Int32.toNatClampNeg ((96 : Int32) + y8)) (1 : Int32)))))) else (F_X12_sheet_x_46 n y1 y2 y4 (y5 + y4) (y6 + (1 : Int32)) (y7 + (yr0 (Int32.toNatClampNeg ((96 : Int32) + y8)))) (y8 + (1 : Int32)) yr0)) else (F_X12_sheet_x_46 n y1 y2 y4 (y5 + y4) (y6 + (1 : Int32)) (y7 + (yr0 (Int32.toNatClampNeg ((96 : Int32) + y8)))) (y8 + (1 : Int32)) yr0)) else (if y1 = (1 : Int32) then (if (yr0 (Int32.toNatClampNeg ((48 : Int32) + y8))) = (0 : Int32) then (if (yr0 (Int32.toNatClampNeg ((72 : Int32) + y8))) = (0 : Int32) then (if (3 : Int32) ≤ y1 then (F_X12_sheet_x_46 n y1 y2 y4 (y5 + y4) (y6 + (1 : Int32)) (y7 + ((upd yr0 (Int32.toNatClampNeg ((96 : Int32) + y8)) (0 : Int32)) (Int32.toNatClampNeg ((96 : Int32) + y8)))) (y8 + (1 : Int32)) (upd yr0 (Int32.toNatClampNeg ((96 : Int32) + y8)) (0 : Int32))) else (if y2 ≤ y6 then (F_X12_sheet_x_46 n y1 y2 y4 (y5 + y4) (y6 + (1 : Int32)) (y7 + ((upd yr0 (Int32.toNatClampNeg ((96 : Int32) + y8)) (0 : Int32)) (Int32.toNatClampNeg ((96 : Int32) + y8)))) (y8 + (1 : Int32)) (upd yr0 (Int32.toNatClampNeg ((96 : Int32) + y8)) (0 : Int32))) else (if (Int16.toInt32 (Int32.toInt16 y5)) ≤ (0 : Int32) then (F_X12_sheet_x_46 n y1 y2 y4 (y5 + y4) (y6 + (1 : Int32)) (y7 + ((upd yr0 (Int32.toNatClampNeg ((96 : Int32) + y8)) (0 : Int32)) (Int32.toNatClampNeg ((96 : Int32) + y8)))) (y8 + (1 : Int32)) (upd yr0 (Int32.toNatClampNeg ((96 : Int32) + y8)) (0 : Int32))) else (F_X12_sheet_x_46 n y1 y2 y4 (y5 + y4) (y6 + (1 : Int32)) (y7 + ((upd yr0 (Int32.toNatClampNeg ((96 : Int32) + y8)) (1 : Int32)) (Int32.toNatClampNeg ((96 : Int32) + y8)))) (y8 + (1 : Int32)) (upd yr0 (Int32.toNatClampNeg ((96 : Int32) + y8)) (1 : Int32)))))) else (F_X12_sheet_x_46 n y1 y2 y4 (y5 + y4) (y6 + (1 : Int32)) (y7 + (yr0 (Int32.toNatClampNeg ((96 : Int32) + y8)))) (y8 + (1 : Int32)) yr0)) else (F_X12_sheet_x_46 n y1 y2 y4 (y5 + y4) (y6 + (1 : Int32)) (y7 + (yr0 (Int32.toNatClampNeg ((96 : Int32) + y8)))) (y8 + (1 : Int32)) yr0)) else (if (yr0 (Int32.toNatClampNeg ((48 : Int32) + y8))) = (0 : Int32) then (if (yr0 (Int32.toNatClampNeg ((72 : Int32) + y8))) = (0 : Int32) then (if (3 : Int32) ≤ y1 then (F_X12_sheet_x_46 n y1 y2 y4 (y5 + y4) (y6 + (1 : Int32)) (y7 + ((upd yr0 (Int32.toNatClampNeg ((96 : Int32) + y8)) (0 : Int32)) (Int32.toNatClampNeg ((96 : Int32) + y8)))) (y8 + (1 : Int32)) (upd yr0 (Int32.toNatClampNeg ((96 : Int32) + y8)) (0 : Int32))) else (if y2 ≤ y6 then (F_X12_sheet_x_46 n y1 y2 y4 (y5 + y4) (y6 + (1 : Int32)) (y7 + ((upd yr0 (Int32.toNatClampNeg ((96 : Int32) + y8)) (0 : Int32)) (Int32.toNatClampNeg ((96 : Int32) + y8)))) (y8 + (1 : Int32)) (upd yr0 (Int32.toNatClampNeg ((96 : Int32) + y8)) (0 : Int32))) else (if y5 ≤ (0 : Int32) then (F_X12_sheet_x_46 n y1 y2 y4 (y5 + y4) (y6 + (1 : Int32)) (y7 + ((upd yr0 (Int32.toNatClampNeg ((96 : Int32) + y8)) (0 : Int32)) (Int32.toNatClampNeg ((96 : Int32) + y8)))) (y8 + (1 : Int32)) (upd yr0 (Int32.toNatClampNeg ((96 : Int32) + y8)) (0 : Int32))) else (F_X12_sheet_x_46 n y1 y2 y4 (y5 + y4) (y6 + (1 : Int32)) (y7 + ((upd yr0 (Int32.toNatClampNeg ((96 : Int32) + y8)) (1 : Int32)) (Int32.toNatClampNeg ((96 : Int32) + y8)))) (y8 + (1 : Int32)) (upd yr0 (Int32.toNatClampNeg ((96 : Int32) + y8)) (1 : Int32)))))) else (F_X12_sheet_x_46 n y1 y2 y4 (y5 + y4) (y6 + (1 : Int32)) (y7 + (yr0 (Int32.toNatClampNeg ((96 : Int32) + y8)))) (y8 + (1 : Int32)) yr0)) else (F_X12_sheet_x_46 n y1 y2 y4 (y5 + y4) (y6 + (1 : Int32)) (y7 + (yr0 (Int32.toNatClampNeg ((96 : Int32) + y8)))) (y8 + (1 : Int32)) yr0))))))
def F_X12_sheet_x (r0 : Nat → Int32) (a0 : Int32) (a1 : Int32) (a2 : Int32) (a3 : Int32) : Int32 × (Nat → Int32) := (if (F_X12_in a0 (0 : Int32) (3 : Int32)) = (0 : Int32) then ((-1 : Int32), r0) else (if a1 ≤ (24 : Int32) then (if (3 : Int32) ≤ a0 then (tu2 (F_X12_sheet_x_46 26 a0 a1 a3 a2 (0 : Int32) (0 : Int32) (0 : Int32) r0) (fun z7 z8 => (if a0 = (3 : Int32) then ((-3 : Int32), z8) else (z7, z8)))) else (if (0 : Int32) ≤ a1 then (tu2 (F_X12_sheet_x_46 26 a0 a1 a3 a2 (0 : Int32) (0 : Int32) (0 : Int32) r0) (fun z9 z10 => (if a0 = (3 : Int32) then ((-3 : Int32), z10) else (z9, z10)))) else ((-2 : Int32), r0))) else ((-1 : Int32), r0)))
set_option maxHeartbeats 4000000 in
set_option maxRecDepth 100000 in
theorem c_X12_sheet_x (l : Launch) (g : Gx) (Ty : TyM) (G : Gh) (sz : Nat) (h0 : Nat) (a0 : Int32) (a1 : Int32) (a2 : Int32) (a3 : Int32) (k_h0 : Ty h0 = some (22, 0)) (Bd : Int) (hI : OI g Bd G) (hBd : Bd ≤ 1900000) (hLD : LD g) : Met l yX12_sheet (wsG yX12_sheet cX12_sheet 10 (some .int)) ({ frames := 2, cells := 0, slots := 0, locals := 43 }) (PcT g Ty G sz [.ref h0, .int a0, .int a1, .int a2, .int a3]) (QwI g Ty sz (fun r u => u.1 = Ty ∧ FR [105] [(g.2.2 100)] [] G u.2 ∧ OI g (Bd + 1000) u.2 ∧ F_X12_sheet_x (G.2.1 (g.2.2 100)) a0 a1 a2 a3 = (r, (u.2.2.1 (g.2.2 100))))) 0 0 (AF Ty sz) := by
  refine Met.ofW (cc := cX12_sheet) (maxL := 10) (ret := (some .int)) (by decide) rfl ?_
  intro p e s m args below meth c s₁ B hml hv
  obtain ⟨rfl, hsz, hK, hH⟩ := hv
  subst hsz
  have hx := B.exec
  have hb := B.bytes
  have hr := B.returns
  have hts := atoms_spec (ws := (wsG yX12_sheet cX12_sheet 10 (some .int))) B.pre
  have hG : ∀ w ∈ GW, w.before ([.ref h0, .int a0, .int a1, .int a2, .int a3] : List Value).toArray s = true := fun w h => hts w (List.mem_cons_of_mem _ h)
  have hown : s.vm.findClass RX12 = some m.cls := findClass_of_methodNamed B.named
  have hlocks := B.notSynchronized
  have hl := lv_entry [.ref h0, .int a0, .int a1, .int a2, .int a3] (n := 10) (Nat.le_of_ble_eq_true rfl)
  rw [lg_entry_eq]
  generalize (lg_sl [.ref h0, .int a0, .int a1, .int a2, .int a3] ++ List.replicate (10 - (lg_sl [.ref h0, .int a0, .int a1, .int a2, .int a3]).length) Slot.unset).toArray = ls at hl ⊢
  have hl : lv_has ls 10 [(0, .ref h0), (1, .int a0), (2, .int a1), (3, .int a2), (4, .int a3)] := hl
  have hmk : mdK g Ty := mdk_of hH k_h0
  have hv : (if (F_X12_in a0 (0 : Int32) (3 : Int32)) = (0 : Int32) then ((-1 : Int32), (G.2.1 (g.2.2 100))) else (if a1 ≤ (24 : Int32) then (if (3 : Int32) ≤ a0 then (tu2 (F_X12_sheet_x_46 26 a0 a1 a3 a2 (0 : Int32) (0 : Int32) (0 : Int32) (G.2.1 (g.2.2 100))) (fun z3 z4 => (if a0 = (3 : Int32) then ((-3 : Int32), z4) else (z3, z4)))) else (if (0 : Int32) ≤ a1 then (tu2 (F_X12_sheet_x_46 26 a0 a1 a3 a2 (0 : Int32) (0 : Int32) (0 : Int32) (G.2.1 (g.2.2 100))) (fun z5 z6 => (if a0 = (3 : Int32) then ((-3 : Int32), z6) else (z5, z6)))) else ((-2 : Int32), (G.2.1 (g.2.2 100))))) else ((-1 : Int32), (G.2.1 (g.2.2 100))))) = F_X12_sheet_x (G.2.1 (g.2.2 100)) a0 a1 a2 a3 := rfl
  have hS : va_S (AF Ty s.heap.size) s.heap s.heap [] := va_S.rf
  obtain ⟨⟨σ0, hTS0⟩, h10, hBB0⟩ := id hI.ti
  obtain ⟨ρ, hT⟩ := hTS0.1
  have L_46 : ∀ (n_46 : Nat) (H : Heap) (locs : List Loc) (G_46 : Gh) (fl0_46 : Nat → Int32) (y5_46 : Int32) (y6_46 : Int32) (y7_46 : Int32) (y8_46 : Int32) (ls : Array Slot), FR [105] [(g.2.2 100)] [] G G_46 → G_46.2.1 (g.2.2 100) = fl0_46 → rgI (0) (3) a0 → rgI (-2147483648) (24) a1 → rgI (0) (24) y8_46 → (∀ j, (j < 96 ∨ 120 ≤ j) → fl0_46 j = (G.2.1 (g.2.2 100)) j) → UB fl0_46 → (24 - (y8_46).toInt).toNat < n_46 → lv_has ls 10 [(0, .ref h0), (1, .int a0), (2, .int a1), (4, .int a3), (5, .int y5_46), (6, .int y6_46), (7, .int y7_46), (8, .int y8_46)] → (tu2 (F_X12_sheet_x_46 n_46 a0 a1 a3 y5_46 y6_46 y7_46 y8_46 fl0_46) (fun z1 z2 => (if a0 = (3 : Int32) then ((-3 : Int32), z2) else (z1, z2)))) = F_X12_sheet_x (G.2.1 (g.2.2 100)) a0 a1 a2 a3 → HT g Ty G_46 H → va_S (AF Ty s.heap.size) s.heap H locs → Wm p l e (wsG yX12_sheet cX12_sheet 10 (some .int)) ({ frames := 2, cells := 0, slots := 0, locals := 43 }) s m [.ref h0, .int a0, .int a1, .int a2, .int a3] below meth c H locs (0) (0) (QwI g Ty s.heap.size (fun r u => u.1 = Ty ∧ FR [105] [(g.2.2 100)] [] G u.2 ∧ OI g (Bd + 1000) u.2 ∧ F_X12_sheet_x (G.2.1 (g.2.2 100)) a0 a1 a2 a3 = (r, (u.2.2.1 (g.2.2 100))))) 0 0 (AF Ty s.heap.size) (F0 m 46 ls []) := by
    intro n_46
    induction n_46 with
    | zero => intro H locs G_46 fl0_46 y5_46 y6_46 y7_46 y8_46 ls frL_46 efl0_46 ry1_46 ry2_46 ry8_46 hi0_46 hi1_46 hm; exact absurd hm (Nat.not_lt_zero _)
    | succ n_46 ih_46 =>
      intro H locs G_46 fl0_46 y5_46 y6_46 y7_46 y8_46 ls frL_46 efl0_46 ry1_46 ry2_46 ry8_46 hi0_46 hi1_46 hm_46 hl hv hH hS
      rw [F_X12_sheet_x_46] at hv
      refine lv_iload hx hb dX12_sheet_46 (lv_at hl 7 rfl) ?_
      refine lv_bipush (v := 24) hx hb dX12_sheet_48 (by decide) ?_
      refine lv_icmp_ge (tgt := 181) hx hb dX12_sheet_50 (by decide) (fun c_1 => ?_) (fun c_1 => ?_)
      · rw [if_pos c_1] at hv
        have r_2 : rgI (24) (24) y8_46 := rg_w (rg_leR rl_24 ry8_46 c_1) (by decide) (by decide)
        rw [tu2_eq] at hv
        have tu_3 : TI Bd fl0_46 := TI_ub hI.ti hi0_46 hi1_46
        refine lv_iload_n hx hb dX12_sheet_181 rfl (lv_at hl 1 rfl) ?_
        refine lv_iconst (v := 3) hx hb dX12_sheet_182 (by decide) ?_
        refine lv_icmp_ne (tgt := 191) hx hb dX12_sheet_183 (by decide) (fun c_4 => ?_) (fun c_4 => ?_)
        · rw [if_neg c_4] at hv
          have r_5 : rgI (0) (2) a0 := rg_w (rg_neR ry1_46 rl_3 c_4) (by decide) (by decide)
          refine lv_iload hx hb dX12_sheet_191 (lv_at hl 6 rfl) ?_
          exact W.iret hx hb hr (fun t ht hWm => ⟨⟨y7_46, (Ty, G_46), rfl, ⟨rfl, ⟨frL_46, ⟨⟨(by rw [(frL_46.1 102 (by decide))]; exact (rg_w hI.a102 (by decide) (by decide))), (by rw [(frL_46.1 104 (by decide))]; exact (rg_w hI.a104 (by decide) (by decide))), (by rw [(frL_46.1 113 (by decide))]; exact (rg_w hI.a113 (by decide) (by decide))), (by rw [(frL_46.1 122 (by decide))]; exact (rg_w hI.a122 (by decide) (by decide))), (by rw [(frL_46.1 133 (by decide))]; exact (rg_w hI.a133 (by decide) (by decide))), (by rw [(frL_46.1 137 (by decide))]; exact (rg_w hI.a137 (by decide) (by decide))), ((frL_46.2.2 111 (by decide)).trans hI.r111), ((frL_46.2.2 112 (by decide)).trans hI.r112), (by rw [efl0_46]; exact (TI.hi tu_3 (by omega))), (hI.un2 (show Bd ≤ Bd + 1000 by omega) (frL_46.2.1 (g.2.2 121) ⟨(ne_kd hmk.2.2.2.2.2.1 hmk.1 (by decide)), trivial⟩) (frL_46.1 122 (by decide))), (hI.ke2 (show Bd ≤ Bd + 1000 by omega) (frL_46.2.1 (g.2.2 140) ⟨(ne_kd hmk.2.2.2.2.2.2.2.2.2.2.2.2.2.2.2.2.2.2.1 hmk.1 (by decide)), trivial⟩) (frL_46.2.1 (g.2.2 141) ⟨(ne_kd hmk.2.2.2.2.2.2.2.2.2.2.2.2.2.2.2.2.2.2.2.1 hmk.1 (by decide)), trivial⟩))⟩, hv.symm.trans (by rw [efl0_46])⟩⟩⟩, by show HT g Ty G_46 t.heap; rw [ht]; exact hH⟩, hS.F ht⟩) hS.2.2 dX12_sheet_193
        · rw [if_pos c_4] at hv
          have r_6 : rgI (3) (3) a0 := rg_w (rg_eq rl_3 c_4) (by decide) (by decide)
          refine lv_bipush (v := (-3)) hx hb dX12_sheet_186 (by decide) ?_
          refine lv_goto (tgt := 193) hx hb dX12_sheet_188 (by decide) ?_
          exact W.iret hx hb hr (fun t ht hWm => ⟨⟨(-3), (Ty, G_46), rfl, ⟨rfl, ⟨frL_46, ⟨⟨(by rw [(frL_46.1 102 (by decide))]; exact (rg_w hI.a102 (by decide) (by decide))), (by rw [(frL_46.1 104 (by decide))]; exact (rg_w hI.a104 (by decide) (by decide))), (by rw [(frL_46.1 113 (by decide))]; exact (rg_w hI.a113 (by decide) (by decide))), (by rw [(frL_46.1 122 (by decide))]; exact (rg_w hI.a122 (by decide) (by decide))), (by rw [(frL_46.1 133 (by decide))]; exact (rg_w hI.a133 (by decide) (by decide))), (by rw [(frL_46.1 137 (by decide))]; exact (rg_w hI.a137 (by decide) (by decide))), ((frL_46.2.2 111 (by decide)).trans hI.r111), ((frL_46.2.2 112 (by decide)).trans hI.r112), (by rw [efl0_46]; exact (TI.hi tu_3 (by omega))), (hI.un2 (show Bd ≤ Bd + 1000 by omega) (frL_46.2.1 (g.2.2 121) ⟨(ne_kd hmk.2.2.2.2.2.1 hmk.1 (by decide)), trivial⟩) (frL_46.1 122 (by decide))), (hI.ke2 (show Bd ≤ Bd + 1000 by omega) (frL_46.2.1 (g.2.2 140) ⟨(ne_kd hmk.2.2.2.2.2.2.2.2.2.2.2.2.2.2.2.2.2.2.1 hmk.1 (by decide)), trivial⟩) (frL_46.2.1 (g.2.2 141) ⟨(ne_kd hmk.2.2.2.2.2.2.2.2.2.2.2.2.2.2.2.2.2.2.2.1 hmk.1 (by decide)), trivial⟩))⟩, hv.symm.trans (by rw [efl0_46])⟩⟩⟩, by show HT g Ty G_46 t.heap; rw [ht]; exact hH⟩, hS.F ht⟩) hS.2.2 dX12_sheet_193
      · rw [if_neg c_1] at hv
        have r_7 : rgI (0) (23) y8_46 := rg_w (rg_ltL ry8_46 rl_24 (nle_lt c_1)) (by decide) (by decide)
        refine lv_aload_n hx hb dX12_sheet_53 rfl (lv_at hl 0 rfl) ?_
        obtain ⟨_, ⟨rfl, t_9, hk_10⟩, o_c_8⟩ := hH h0 _ k_h0
        refine hg_get hx hb hG igX12 hown hK o_c_8 rfl 0 (by decide) (hG _ mw_1284) rfl dX12_sheet_54 ?_
        refine lv_iload hx hb dX12_sheet_57 (lv_at hl 7 rfl) ?_
        refine vp_callSi (W.runS (As := [.ref (g.2.2 100), .int y8_46]) (rest := []) ⟨hx, hb, hml, hown, hts⟩ (c_X12_isThere l g Ty G_46 (g.2.2 100) y8_46 (hk_10.1)) (cwSx 2 hts hG (gwC mw_1520) mw_88 mw_1518 mw_1519 rfl rfl rfl hd_X12_isThere ⟨Nat.le_of_ble_eq_true rfl, Nat.le_of_ble_eq_true rfl⟩) ⟨PcH_blind, PcH_pre hK hH⟩ rfl rfl hl.1 rfl (lv_room (Nat.le_of_ble_eq_true rfl)) dX12_sheet_59 ⟨Nat.zero_le _, Nat.zero_le _⟩) (fun x_11 hx_11 => ?_)
        have rx_11 : rgI (0) (1) x_11 := hx_11.1
        try rw [← hx_11.2.2] at hv
        have ex_12 : x_11 = F_X12_isThere fl0_46 y8_46 := by rw [← efl0_46]; exact hx_11.2.2
        try rw [← ex_12] at hv
        refine lv_if_ne (tgt := 68) hx hb dX12_sheet_62 (by decide) (fun c_13 => ?_) (fun c_13 => ?_)
        · rw [if_neg c_13] at hv
          have th_14 : thr fl0_46 y8_46 := F_isThere_thr (by rw [← ex_12]; exact c_13)
          have r_15 : rgI (1) (1) x_11 := rg_w (rg_neL rx_11 rl_0 c_13) (by decide) (by decide)
          refine lv_iload_n hx hb dX12_sheet_68 rfl (lv_at hl 1 rfl) ?_
          refine lv_if_ne (tgt := 78) hx hb dX12_sheet_69 (by decide) (fun c_16 => ?_) (fun c_16 => ?_)
          · rw [if_neg c_16] at hv
            have r_17 : rgI (1) (3) a0 := rg_w (rg_neL ry1_46 rl_0 c_16) (by decide) (by decide)
            refine lv_iload_n hx hb dX12_sheet_78 rfl (lv_at hl 1 rfl) ?_
            refine lv_iconst (v := 1) hx hb dX12_sheet_79 (by decide) ?_
            refine lv_icmp_ne (tgt := 89) hx hb dX12_sheet_80 (by decide) (fun c_18 => ?_) (fun c_18 => ?_)
            · rw [if_neg c_18] at hv
              have r_19 : rgI (2) (3) a0 := rg_w (rg_neL r_17 rl_1 c_18) (by decide) (by decide)
              refine lv_iload hx hb dX12_sheet_89 (lv_at hl 4 rfl) ?_
              refine lv_istore (lv' := [(9, .int y5_46), (0, .ref h0), (1, .int a0), (2, .int a1), (4, .int a3), (5, .int y5_46), (6, .int y6_46), (7, .int y7_46), (8, .int y8_46)]) hx hb dX12_sheet_91 hl (by decide) rfl (fun ls hl => ?_)
              refine lv_aload_n hx hb dX12_sheet_93 rfl (lv_at hl 1 rfl) ?_
              refine hg_get hx hb hG igX12 hown hK o_c_8 rfl 0 (by decide) (hG _ mw_1284) rfl dX12_sheet_94 ?_
              refine lv_bipush (v := 48) hx hb dX12_sheet_97 (by decide) ?_
              refine lv_iload hx hb dX12_sheet_99 (lv_at hl 8 rfl) ?_
              refine lv_iadd hx hb dX12_sheet_101 ?_
              refine lv_topi (fun x_20 ex_20 => ?_)
              try rw [← ex_20] at hv
              have rx_20 : rgI (48) (71) x_20 := by rw [ex_20]; exact rg_w (rg_add rl_48 r_7 (by decide) (by decide)) (by decide) (by decide)
              obtain ⟨_, rfl, o_c_21⟩ := hH (g.2.2 100) _ hk_10.1
              have o_c_21 : va_at g.1 vwCl ((g.2.2 100), .inl (g.2.1 1, 122, .inl (G_46.2.1 (g.2.2 100)))) H := o_c_21
              refine hg_iald hx hb hK o_c_21 (rg_in (n := 122) rx_20 (by decide) (by decide)) dX12_sheet_102 ?_
              rw [efl0_46]
              refine lv_topi (fun x_22 ex_22 => ?_)
              try rw [← ex_22] at hv
              refine lv_if_ne (tgt := 150) hx hb dX12_sheet_103 (by decide) (fun c_23 => ?_) (fun c_23 => ?_)
              · rw [if_neg c_23] at hv
                refine lv_iload hx hb dX12_sheet_150 (lv_at hl 7 rfl) ?_
                refine lv_aload_n hx hb dX12_sheet_152 rfl (lv_at hl 1 rfl) ?_
                refine hg_get hx hb hG igX12 hown hK o_c_8 rfl 0 (by decide) (hG _ mw_1284) rfl dX12_sheet_153 ?_
                refine lv_bipush (v := 96) hx hb dX12_sheet_156 (by decide) ?_
                refine lv_iload hx hb dX12_sheet_158 (lv_at hl 8 rfl) ?_
                refine lv_iadd hx hb dX12_sheet_160 ?_
                refine lv_topi (fun x_24 ex_24 => ?_)
                try rw [← ex_24] at hv
                have rx_24 : rgI (96) (119) x_24 := by rw [ex_24]; exact rg_w (rg_add rl_96 r_7 (by decide) (by decide)) (by decide) (by decide)
                refine hg_iald hx hb hK o_c_21 (rg_in (n := 122) rx_24 (by decide) (by decide)) dX12_sheet_161 ?_
                rw [efl0_46]
                refine lv_topi (fun x_25 ex_25 => ?_)
                try rw [← ex_25] at hv
                refine lv_iadd hx hb dX12_sheet_162 ?_
                refine lv_topi (fun x_26 ex_26 => ?_)
                try rw [← ex_26] at hv
                refine lv_istore (lv' := [(7, .int x_26), (9, .int y5_46), (0, .ref h0), (1, .int a0), (2, .int a1), (4, .int a3), (5, .int y5_46), (6, .int y6_46), (8, .int y8_46)]) hx hb dX12_sheet_163 hl (by decide) rfl (fun ls hl => ?_)
                refine lv_iload hx hb dX12_sheet_165 (lv_at hl 6 rfl) ?_
                refine lv_iload hx hb dX12_sheet_167 (lv_at hl 5 rfl) ?_
                refine lv_iadd hx hb dX12_sheet_169 ?_
                refine lv_topi (fun x_27 ex_27 => ?_)
                try rw [← ex_27] at hv
                refine lv_istore (lv' := [(5, .int x_27), (7, .int x_26), (9, .int y5_46), (0, .ref h0), (1, .int a0), (2, .int a1), (4, .int a3), (6, .int y6_46), (8, .int y8_46)]) hx hb dX12_sheet_170 hl (by decide) rfl (fun ls hl => ?_)
                obtain ⟨x_28, ex_28⟩ : ∃ y : Int32, y = y6_46 + 1 := ⟨_, rfl⟩
                try rw [← ex_28] at hv
                refine lv_iinc (v := x_28) (lv' := [(6, .int x_28), (5, .int x_27), (7, .int x_26), (9, .int y5_46), (0, .ref h0), (1, .int a0), (2, .int a1), (4, .int a3), (8, .int y8_46)]) hx hb dX12_sheet_172 hl (k := 7) rfl (by rw [ex_28]; rfl) (by decide) rfl (fun ls hl => ?_)
                obtain ⟨x_29, ex_29⟩ : ∃ y : Int32, y = y8_46 + 1 := ⟨_, rfl⟩
                try rw [← ex_29] at hv
                have rx_29 : rgI (1) (24) x_29 := by rw [ex_29]; exact rg_w (rg_add r_7 rl_1 (by decide) (by decide)) (by decide) (by decide)
                have qx_29 : x_29.toInt = (y8_46 : Int32).toInt + 1 := by rw [ex_29]; exact rg_addE r_7 rl_1 (by decide) (by decide)
                refine lv_iinc (v := x_29) (lv' := [(8, .int x_29), (6, .int x_28), (5, .int x_27), (7, .int x_26), (9, .int y5_46), (0, .ref h0), (1, .int a0), (2, .int a1), (4, .int a3)]) hx hb dX12_sheet_175 hl (k := 8) rfl (by rw [ex_29]; rfl) (by decide) rfl (fun ls hl => ?_)
                refine lv_goto (tgt := 46) hx hb dX12_sheet_178 (by decide) ?_
                exact ih_46 H locs G_46 fl0_46 x_27 x_28 x_26 x_29 ls frL_46 efl0_46 (rg_w r_19 (by decide) (by decide)) ry2_46 (rg_w rx_29 (by decide) (by decide)) hi0_46 hi1_46 (by have h1 := qx_29; have h2 := r_7.1; have h3 := r_7.2; have h4 := hm_46; omega) (lv_sub hl [5, 6, 7, 8, 2, 1, 3, 0] rfl) hv hH hS
              · rw [if_pos c_23] at hv
                have r_30 : rgI (0) (0) x_22 := rg_w (rg_eq rl_0 c_23) (by decide) (by decide)
                refine lv_aload_n hx hb dX12_sheet_106 rfl (lv_at hl 1 rfl) ?_
                refine hg_get hx hb hG igX12 hown hK o_c_8 rfl 0 (by decide) (hG _ mw_1284) rfl dX12_sheet_107 ?_
                refine lv_bipush (v := 72) hx hb dX12_sheet_110 (by decide) ?_
                refine lv_iload hx hb dX12_sheet_112 (lv_at hl 8 rfl) ?_
                refine lv_iadd hx hb dX12_sheet_114 ?_
                refine lv_topi (fun x_31 ex_31 => ?_)
                try rw [← ex_31] at hv
                have rx_31 : rgI (72) (95) x_31 := by rw [ex_31]; exact rg_w (rg_add rl_72 r_7 (by decide) (by decide)) (by decide) (by decide)
                refine hg_iald hx hb hK o_c_21 (rg_in (n := 122) rx_31 (by decide) (by decide)) dX12_sheet_115 ?_
                rw [efl0_46]
                refine lv_topi (fun x_32 ex_32 => ?_)
                try rw [← ex_32] at hv
                refine lv_if_ne (tgt := 150) hx hb dX12_sheet_116 (by decide) (fun c_33 => ?_) (fun c_33 => ?_)
                · rw [if_neg c_33] at hv
                  refine lv_iload hx hb dX12_sheet_150 (lv_at hl 7 rfl) ?_
                  refine lv_aload_n hx hb dX12_sheet_152 rfl (lv_at hl 1 rfl) ?_
                  refine hg_get hx hb hG igX12 hown hK o_c_8 rfl 0 (by decide) (hG _ mw_1284) rfl dX12_sheet_153 ?_
                  refine lv_bipush (v := 96) hx hb dX12_sheet_156 (by decide) ?_
                  refine lv_iload hx hb dX12_sheet_158 (lv_at hl 8 rfl) ?_
                  refine lv_iadd hx hb dX12_sheet_160 ?_
                  refine lv_topi (fun x_34 ex_34 => ?_)
                  try rw [← ex_34] at hv
                  have rx_34 : rgI (96) (119) x_34 := by rw [ex_34]; exact rg_w (rg_add rl_96 r_7 (by decide) (by decide)) (by decide) (by decide)
                  refine hg_iald hx hb hK o_c_21 (rg_in (n := 122) rx_34 (by decide) (by decide)) dX12_sheet_161 ?_
                  rw [efl0_46]
                  refine lv_topi (fun x_35 ex_35 => ?_)
                  try rw [← ex_35] at hv
                  refine lv_iadd hx hb dX12_sheet_162 ?_
                  refine lv_topi (fun x_36 ex_36 => ?_)
                  try rw [← ex_36] at hv
                  refine lv_istore (lv' := [(7, .int x_36), (9, .int y5_46), (0, .ref h0), (1, .int a0), (2, .int a1), (4, .int a3), (5, .int y5_46), (6, .int y6_46), (8, .int y8_46)]) hx hb dX12_sheet_163 hl (by decide) rfl (fun ls hl => ?_)
                  refine lv_iload hx hb dX12_sheet_165 (lv_at hl 6 rfl) ?_
                  refine lv_iload hx hb dX12_sheet_167 (lv_at hl 5 rfl) ?_
                  refine lv_iadd hx hb dX12_sheet_169 ?_
                  refine lv_topi (fun x_37 ex_37 => ?_)
                  try rw [← ex_37] at hv
                  refine lv_istore (lv' := [(5, .int x_37), (7, .int x_36), (9, .int y5_46), (0, .ref h0), (1, .int a0), (2, .int a1), (4, .int a3), (6, .int y6_46), (8, .int y8_46)]) hx hb dX12_sheet_170 hl (by decide) rfl (fun ls hl => ?_)
                  obtain ⟨x_38, ex_38⟩ : ∃ y : Int32, y = y6_46 + 1 := ⟨_, rfl⟩
                  try rw [← ex_38] at hv
                  refine lv_iinc (v := x_38) (lv' := [(6, .int x_38), (5, .int x_37), (7, .int x_36), (9, .int y5_46), (0, .ref h0), (1, .int a0), (2, .int a1), (4, .int a3), (8, .int y8_46)]) hx hb dX12_sheet_172 hl (k := 7) rfl (by rw [ex_38]; rfl) (by decide) rfl (fun ls hl => ?_)
                  obtain ⟨x_39, ex_39⟩ : ∃ y : Int32, y = y8_46 + 1 := ⟨_, rfl⟩
                  try rw [← ex_39] at hv
                  have rx_39 : rgI (1) (24) x_39 := by rw [ex_39]; exact rg_w (rg_add r_7 rl_1 (by decide) (by decide)) (by decide) (by decide)
                  have qx_39 : x_39.toInt = (y8_46 : Int32).toInt + 1 := by rw [ex_39]; exact rg_addE r_7 rl_1 (by decide) (by decide)
                  refine lv_iinc (v := x_39) (lv' := [(8, .int x_39), (6, .int x_38), (5, .int x_37), (7, .int x_36), (9, .int y5_46), (0, .ref h0), (1, .int a0), (2, .int a1), (4, .int a3)]) hx hb dX12_sheet_175 hl (k := 8) rfl (by rw [ex_39]; rfl) (by decide) rfl (fun ls hl => ?_)
                  refine lv_goto (tgt := 46) hx hb dX12_sheet_178 (by decide) ?_
                  exact ih_46 H locs G_46 fl0_46 x_37 x_38 x_36 x_39 ls frL_46 efl0_46 (rg_w r_19 (by decide) (by decide)) ry2_46 (rg_w rx_39 (by decide) (by decide)) hi0_46 hi1_46 (by have h1 := qx_39; have h2 := r_7.1; have h3 := r_7.2; have h4 := hm_46; omega) (lv_sub hl [5, 6, 7, 8, 2, 1, 3, 0] rfl) hv hH hS
                · rw [if_pos c_33] at hv
                  have r_40 : rgI (0) (0) x_32 := rg_w (rg_eq rl_0 c_33) (by decide) (by decide)
                  refine lv_aload_n hx hb dX12_sheet_119 rfl (lv_at hl 1 rfl) ?_
                  refine hg_get hx hb hG igX12 hown hK o_c_8 rfl 0 (by decide) (hG _ mw_1284) rfl dX12_sheet_120 ?_
                  refine lv_bipush (v := 96) hx hb dX12_sheet_123 (by decide) ?_
                  refine lv_iload hx hb dX12_sheet_125 (lv_at hl 8 rfl) ?_
                  refine lv_iadd hx hb dX12_sheet_127 ?_
                  refine lv_topi (fun x_41 ex_41 => ?_)
                  try rw [← ex_41] at hv
                  have rx_41 : rgI (96) (119) x_41 := by rw [ex_41]; exact rg_w (rg_add rl_96 r_7 (by decide) (by decide)) (by decide) (by decide)
                  refine lv_iload_n hx hb dX12_sheet_128 rfl (lv_at hl 2 rfl) ?_
                  refine lv_iconst (v := 3) hx hb dX12_sheet_129 (by decide) ?_
                  refine lv_icmp_ge (tgt := 148) hx hb dX12_sheet_130 (by decide) (fun c_42 => ?_) (fun c_42 => ?_)
                  · rw [if_pos c_42] at hv
                    have r_43 : rgI (3) (3) a0 := rg_w (rg_leR rl_3 r_19 c_42) (by decide) (by decide)
                    refine lv_iconst (v := 0) hx hb dX12_sheet_148 (by decide) ?_
                    refine hg_iast hx hb hK hS o_c_21 (AF.of hk_10.1) (rg_in (n := 122) rx_41 (by decide) (by decide)) dX12_sheet_149 (fun H locs o_c_21 hz oq hS => ?_)
                    obtain ⟨G_44, eG_44⟩ : ∃ z : Gh, z = aset G_46 (g.2.2 100) (upd (G_46.2.1 (g.2.2 100)) (x_41 : Int32).toNatClampNeg 0) := ⟨_, rfl⟩
                    have hH : HT g Ty G_44 H := by rw [eG_44]; exact HT.putA (upd (G_46.2.1 (g.2.2 100)) (x_41 : Int32).toNatClampNeg 0) hH hk_10.1 cf30 o_c_21 oq
                    obtain ⟨f_45, ef_45⟩ : ∃ z : Nat → Int32, z = (upd fl0_46 (x_41 : Int32).toNatClampNeg 0) := ⟨_, rfl⟩
                    have eaf_45 : G_44 = aset G_46 (g.2.2 100) f_45 := by rw [eG_44, ef_45, efl0_46]
                    try rw [← ef_45] at hv
                    have fr_46 : FR [105] [(g.2.2 100)] [] G G_44 := FR.a frL_46 eaf_45 (fun b h => h.1)
                    have u_47 : G_44.1 102 = (G.1 102) := by rw [eaf_45]; exact (frL_46.1 102 (by decide))
                    have u_48 : G_44.1 104 = (G.1 104) := by rw [eaf_45]; exact (frL_46.1 104 (by decide))
                    have u_49 : G_44.1 113 = (G.1 113) := by rw [eaf_45]; exact (frL_46.1 113 (by decide))
                    have u_50 : G_44.1 122 = (G.1 122) := by rw [eaf_45]; exact (frL_46.1 122 (by decide))
                    have u_51 : G_44.1 133 = (G.1 133) := by rw [eaf_45]; exact (frL_46.1 133 (by decide))
                    have u_52 : G_44.1 137 = (G.1 137) := by rw [eaf_45]; exact (frL_46.1 137 (by decide))
                    have w_53 : G_44.2.1 (g.2.2 100) = f_45 := by rw [eaf_45]; exact aset_eq
                    have w_54 : G_44.2.1 (g.2.2 121) = (G.2.1 (g.2.2 121)) := by rw [eaf_45]; exact (aset_ne (ne_kd hmk.2.2.2.2.2.1 hmk.1 (by decide))).trans (frL_46.2.1 (g.2.2 121) ⟨(ne_kd hmk.2.2.2.2.2.1 hmk.1 (by decide)), trivial⟩)
                    have w_55 : G_44.2.1 (g.2.2 140) = (G.2.1 (g.2.2 140)) := by rw [eaf_45]; exact (aset_ne (ne_kd hmk.2.2.2.2.2.2.2.2.2.2.2.2.2.2.2.2.2.2.1 hmk.1 (by decide))).trans (frL_46.2.1 (g.2.2 140) ⟨(ne_kd hmk.2.2.2.2.2.2.2.2.2.2.2.2.2.2.2.2.2.2.1 hmk.1 (by decide)), trivial⟩)
                    have w_56 : G_44.2.1 (g.2.2 141) = (G.2.1 (g.2.2 141)) := by rw [eaf_45]; exact (aset_ne (ne_kd hmk.2.2.2.2.2.2.2.2.2.2.2.2.2.2.2.2.2.2.2.1 hmk.1 (by decide))).trans (frL_46.2.1 (g.2.2 141) ⟨(ne_kd hmk.2.2.2.2.2.2.2.2.2.2.2.2.2.2.2.2.2.2.2.1 hmk.1 (by decide)), trivial⟩)
                    have w_57 : G_44.2.1 (g.2.2 111) = (G.2.1 (g.2.2 111)) := by rw [eaf_45]; exact (aset_ne (ne_kd hmk.2.2.2.2.2.2.2.2.2.2.2.2.2.2.2.2.2.2.2.2.1 hmk.1 (by decide))).trans (frL_46.2.1 (g.2.2 111) ⟨(ne_kd hmk.2.2.2.2.2.2.2.2.2.2.2.2.2.2.2.2.2.2.2.2.1 hmk.1 (by decide)), trivial⟩)
                    have u_58 : G_44.2.2 111 = some (g.2.2 111) := by rw [eaf_45]; exact ((frL_46.2.2 111 (by decide)).trans hI.r111)
                    have u_59 : G_44.2.2 112 = some (g.2.2 112) := by rw [eaf_45]; exact ((frL_46.2.2 112 (by decide)).trans hI.r112)
                    clear oq hz
                    refine lv_iload hx hb dX12_sheet_150 (lv_at hl 7 rfl) ?_
                    refine lv_aload_n hx hb dX12_sheet_152 rfl (lv_at hl 1 rfl) ?_
                    obtain ⟨_, ⟨rfl, t_61, hk_62⟩, o_c_60⟩ := hH h0 _ k_h0
                    refine hg_get hx hb hG igX12 hown hK o_c_60 rfl 0 (by decide) (hG _ mw_1284) rfl dX12_sheet_153 ?_
                    refine lv_bipush (v := 96) hx hb dX12_sheet_156 (by decide) ?_
                    refine lv_iload hx hb dX12_sheet_158 (lv_at hl 8 rfl) ?_
                    refine lv_iadd hx hb dX12_sheet_160 ?_
                    refine lv_topi (fun x_63 ex_63 => ?_)
                    try rw [← ex_63] at hv
                    have rx_63 : rgI (96) (119) x_63 := by rw [ex_63]; exact rg_w (rg_add rl_96 r_7 (by decide) (by decide)) (by decide) (by decide)
                    have q_64 : x_41 = x_63 := ex_41.trans ex_63.symm
                    subst q_64
                    obtain ⟨_, rfl, o_c_65⟩ := hH (g.2.2 100) _ hk_62.1
                    have o_c_65 : va_at g.1 vwCl ((g.2.2 100), .inl (g.2.1 1, 122, .inl (G_44.2.1 (g.2.2 100)))) H := o_c_65
                    refine hg_iald hx hb hK o_c_65 (rg_in (n := 122) rx_63 (by decide) (by decide)) dX12_sheet_161 ?_
                    rw [w_53]
                    refine lv_topi (fun x_66 ex_66 => ?_)
                    try rw [← ex_66] at hv
                    refine lv_iadd hx hb dX12_sheet_162 ?_
                    refine lv_topi (fun x_67 ex_67 => ?_)
                    try rw [← ex_67] at hv
                    refine lv_istore (lv' := [(7, .int x_67), (9, .int y5_46), (0, .ref h0), (1, .int a0), (2, .int a1), (4, .int a3), (5, .int y5_46), (6, .int y6_46), (8, .int y8_46)]) hx hb dX12_sheet_163 hl (by decide) rfl (fun ls hl => ?_)
                    refine lv_iload hx hb dX12_sheet_165 (lv_at hl 6 rfl) ?_
                    refine lv_iload hx hb dX12_sheet_167 (lv_at hl 5 rfl) ?_
                    refine lv_iadd hx hb dX12_sheet_169 ?_
                    refine lv_topi (fun x_68 ex_68 => ?_)
                    try rw [← ex_68] at hv
                    refine lv_istore (lv' := [(5, .int x_68), (7, .int x_67), (9, .int y5_46), (0, .ref h0), (1, .int a0), (2, .int a1), (4, .int a3), (6, .int y6_46), (8, .int y8_46)]) hx hb dX12_sheet_170 hl (by decide) rfl (fun ls hl => ?_)
                    obtain ⟨x_69, ex_69⟩ : ∃ y : Int32, y = y6_46 + 1 := ⟨_, rfl⟩
                    try rw [← ex_69] at hv
                    refine lv_iinc (v := x_69) (lv' := [(6, .int x_69), (5, .int x_68), (7, .int x_67), (9, .int y5_46), (0, .ref h0), (1, .int a0), (2, .int a1), (4, .int a3), (8, .int y8_46)]) hx hb dX12_sheet_172 hl (k := 7) rfl (by rw [ex_69]; rfl) (by decide) rfl (fun ls hl => ?_)
                    obtain ⟨x_70, ex_70⟩ : ∃ y : Int32, y = y8_46 + 1 := ⟨_, rfl⟩
                    try rw [← ex_70] at hv
                    have rx_70 : rgI (1) (24) x_70 := by rw [ex_70]; exact rg_w (rg_add r_7 rl_1 (by decide) (by decide)) (by decide) (by decide)
                    have qx_70 : x_70.toInt = (y8_46 : Int32).toInt + 1 := by rw [ex_70]; exact rg_addE r_7 rl_1 (by decide) (by decide)
                    refine lv_iinc (v := x_70) (lv' := [(8, .int x_70), (6, .int x_69), (5, .int x_68), (7, .int x_67), (9, .int y5_46), (0, .ref h0), (1, .int a0), (2, .int a1), (4, .int a3)]) hx hb dX12_sheet_175 hl (k := 8) rfl (by rw [ex_70]; rfl) (by decide) rfl (fun ls hl => ?_)
                    refine lv_goto (tgt := 46) hx hb dX12_sheet_178 (by decide) ?_
                    exact ih_46 H locs G_44 f_45 x_68 x_69 x_67 x_70 ls fr_46 w_53 (rg_w r_43 (by decide) (by decide)) ry2_46 (rg_w rx_70 (by decide) (by decide)) (sh_s hi0_46 hi1_46 r_7 ex_41 (Or.inl rfl) ef_45).1 (sh_s hi0_46 hi1_46 r_7 ex_41 (Or.inl rfl) ef_45).2 (by have h1 := qx_70; have h2 := r_7.1; have h3 := r_7.2; have h4 := hm_46; omega) (lv_sub hl [5, 6, 7, 8, 2, 1, 3, 0] rfl) hv hH hS
                  · rw [if_neg c_42] at hv
                    have r_71 : rgI (2) (2) a0 := rg_w (rg_ltL r_19 rl_3 (nle_lt c_42)) (by decide) (by decide)
                    refine lv_iload hx hb dX12_sheet_133 (lv_at hl 6 rfl) ?_
                    refine lv_iload_n hx hb dX12_sheet_135 rfl (lv_at hl 3 rfl) ?_
                    refine lv_icmp_ge (tgt := 148) hx hb dX12_sheet_136 (by decide) (fun c_72 => ?_) (fun c_72 => ?_)
                    · rw [if_pos c_72] at hv
                      refine lv_iconst (v := 0) hx hb dX12_sheet_148 (by decide) ?_
                      refine hg_iast hx hb hK hS o_c_21 (AF.of hk_10.1) (rg_in (n := 122) rx_41 (by decide) (by decide)) dX12_sheet_149 (fun H locs o_c_21 hz oq hS => ?_)
                      obtain ⟨G_73, eG_73⟩ : ∃ z : Gh, z = aset G_46 (g.2.2 100) (upd (G_46.2.1 (g.2.2 100)) (x_41 : Int32).toNatClampNeg 0) := ⟨_, rfl⟩
                      have hH : HT g Ty G_73 H := by rw [eG_73]; exact HT.putA (upd (G_46.2.1 (g.2.2 100)) (x_41 : Int32).toNatClampNeg 0) hH hk_10.1 cf30 o_c_21 oq
                      obtain ⟨f_74, ef_74⟩ : ∃ z : Nat → Int32, z = (upd fl0_46 (x_41 : Int32).toNatClampNeg 0) := ⟨_, rfl⟩
                      have eaf_74 : G_73 = aset G_46 (g.2.2 100) f_74 := by rw [eG_73, ef_74, efl0_46]
                      try rw [← ef_74] at hv
                      have fr_75 : FR [105] [(g.2.2 100)] [] G G_73 := FR.a frL_46 eaf_74 (fun b h => h.1)
                      have u_76 : G_73.1 102 = (G.1 102) := by rw [eaf_74]; exact (frL_46.1 102 (by decide))
                      have u_77 : G_73.1 104 = (G.1 104) := by rw [eaf_74]; exact (frL_46.1 104 (by decide))
                      have u_78 : G_73.1 113 = (G.1 113) := by rw [eaf_74]; exact (frL_46.1 113 (by decide))
                      have u_79 : G_73.1 122 = (G.1 122) := by rw [eaf_74]; exact (frL_46.1 122 (by decide))
                      have u_80 : G_73.1 133 = (G.1 133) := by rw [eaf_74]; exact (frL_46.1 133 (by decide))
                      have u_81 : G_73.1 137 = (G.1 137) := by rw [eaf_74]; exact (frL_46.1 137 (by decide))
                      have w_82 : G_73.2.1 (g.2.2 100) = f_74 := by rw [eaf_74]; exact aset_eq
                      have w_83 : G_73.2.1 (g.2.2 121) = (G.2.1 (g.2.2 121)) := by rw [eaf_74]; exact (aset_ne (ne_kd hmk.2.2.2.2.2.1 hmk.1 (by decide))).trans (frL_46.2.1 (g.2.2 121) ⟨(ne_kd hmk.2.2.2.2.2.1 hmk.1 (by decide)), trivial⟩)
                      have w_84 : G_73.2.1 (g.2.2 140) = (G.2.1 (g.2.2 140)) := by rw [eaf_74]; exact (aset_ne (ne_kd hmk.2.2.2.2.2.2.2.2.2.2.2.2.2.2.2.2.2.2.1 hmk.1 (by decide))).trans (frL_46.2.1 (g.2.2 140) ⟨(ne_kd hmk.2.2.2.2.2.2.2.2.2.2.2.2.2.2.2.2.2.2.1 hmk.1 (by decide)), trivial⟩)
                      have w_85 : G_73.2.1 (g.2.2 141) = (G.2.1 (g.2.2 141)) := by rw [eaf_74]; exact (aset_ne (ne_kd hmk.2.2.2.2.2.2.2.2.2.2.2.2.2.2.2.2.2.2.2.1 hmk.1 (by decide))).trans (frL_46.2.1 (g.2.2 141) ⟨(ne_kd hmk.2.2.2.2.2.2.2.2.2.2.2.2.2.2.2.2.2.2.2.1 hmk.1 (by decide)), trivial⟩)
                      have w_86 : G_73.2.1 (g.2.2 111) = (G.2.1 (g.2.2 111)) := by rw [eaf_74]; exact (aset_ne (ne_kd hmk.2.2.2.2.2.2.2.2.2.2.2.2.2.2.2.2.2.2.2.2.1 hmk.1 (by decide))).trans (frL_46.2.1 (g.2.2 111) ⟨(ne_kd hmk.2.2.2.2.2.2.2.2.2.2.2.2.2.2.2.2.2.2.2.2.1 hmk.1 (by decide)), trivial⟩)
                      have u_87 : G_73.2.2 111 = some (g.2.2 111) := by rw [eaf_74]; exact ((frL_46.2.2 111 (by decide)).trans hI.r111)
                      have u_88 : G_73.2.2 112 = some (g.2.2 112) := by rw [eaf_74]; exact ((frL_46.2.2 112 (by decide)).trans hI.r112)
                      clear oq hz
                      refine lv_iload hx hb dX12_sheet_150 (lv_at hl 7 rfl) ?_
                      refine lv_aload_n hx hb dX12_sheet_152 rfl (lv_at hl 1 rfl) ?_
                      obtain ⟨_, ⟨rfl, t_90, hk_91⟩, o_c_89⟩ := hH h0 _ k_h0
                      refine hg_get hx hb hG igX12 hown hK o_c_89 rfl 0 (by decide) (hG _ mw_1284) rfl dX12_sheet_153 ?_
                      refine lv_bipush (v := 96) hx hb dX12_sheet_156 (by decide) ?_
                      refine lv_iload hx hb dX12_sheet_158 (lv_at hl 8 rfl) ?_
                      refine lv_iadd hx hb dX12_sheet_160 ?_
                      refine lv_topi (fun x_92 ex_92 => ?_)
                      try rw [← ex_92] at hv
                      have rx_92 : rgI (96) (119) x_92 := by rw [ex_92]; exact rg_w (rg_add rl_96 r_7 (by decide) (by decide)) (by decide) (by decide)
                      have q_93 : x_41 = x_92 := ex_41.trans ex_92.symm
                      subst q_93
                      obtain ⟨_, rfl, o_c_94⟩ := hH (g.2.2 100) _ hk_91.1
                      have o_c_94 : va_at g.1 vwCl ((g.2.2 100), .inl (g.2.1 1, 122, .inl (G_73.2.1 (g.2.2 100)))) H := o_c_94
                      refine hg_iald hx hb hK o_c_94 (rg_in (n := 122) rx_92 (by decide) (by decide)) dX12_sheet_161 ?_
                      rw [w_82]
                      refine lv_topi (fun x_95 ex_95 => ?_)
                      try rw [← ex_95] at hv
                      refine lv_iadd hx hb dX12_sheet_162 ?_
                      refine lv_topi (fun x_96 ex_96 => ?_)
                      try rw [← ex_96] at hv
                      refine lv_istore (lv' := [(7, .int x_96), (9, .int y5_46), (0, .ref h0), (1, .int a0), (2, .int a1), (4, .int a3), (5, .int y5_46), (6, .int y6_46), (8, .int y8_46)]) hx hb dX12_sheet_163 hl (by decide) rfl (fun ls hl => ?_)
                      refine lv_iload hx hb dX12_sheet_165 (lv_at hl 6 rfl) ?_
                      refine lv_iload hx hb dX12_sheet_167 (lv_at hl 5 rfl) ?_
                      refine lv_iadd hx hb dX12_sheet_169 ?_
                      refine lv_topi (fun x_97 ex_97 => ?_)
                      try rw [← ex_97] at hv
                      refine lv_istore (lv' := [(5, .int x_97), (7, .int x_96), (9, .int y5_46), (0, .ref h0), (1, .int a0), (2, .int a1), (4, .int a3), (6, .int y6_46), (8, .int y8_46)]) hx hb dX12_sheet_170 hl (by decide) rfl (fun ls hl => ?_)
                      obtain ⟨x_98, ex_98⟩ : ∃ y : Int32, y = y6_46 + 1 := ⟨_, rfl⟩
                      try rw [← ex_98] at hv
                      refine lv_iinc (v := x_98) (lv' := [(6, .int x_98), (5, .int x_97), (7, .int x_96), (9, .int y5_46), (0, .ref h0), (1, .int a0), (2, .int a1), (4, .int a3), (8, .int y8_46)]) hx hb dX12_sheet_172 hl (k := 7) rfl (by rw [ex_98]; rfl) (by decide) rfl (fun ls hl => ?_)
                      obtain ⟨x_99, ex_99⟩ : ∃ y : Int32, y = y8_46 + 1 := ⟨_, rfl⟩
                      try rw [← ex_99] at hv
                      have rx_99 : rgI (1) (24) x_99 := by rw [ex_99]; exact rg_w (rg_add r_7 rl_1 (by decide) (by decide)) (by decide) (by decide)
                      have qx_99 : x_99.toInt = (y8_46 : Int32).toInt + 1 := by rw [ex_99]; exact rg_addE r_7 rl_1 (by decide) (by decide)
                      refine lv_iinc (v := x_99) (lv' := [(8, .int x_99), (6, .int x_98), (5, .int x_97), (7, .int x_96), (9, .int y5_46), (0, .ref h0), (1, .int a0), (2, .int a1), (4, .int a3)]) hx hb dX12_sheet_175 hl (k := 8) rfl (by rw [ex_99]; rfl) (by decide) rfl (fun ls hl => ?_)
                      refine lv_goto (tgt := 46) hx hb dX12_sheet_178 (by decide) ?_
                      exact ih_46 H locs G_73 f_74 x_97 x_98 x_96 x_99 ls fr_75 w_82 (rg_w r_71 (by decide) (by decide)) ry2_46 (rg_w rx_99 (by decide) (by decide)) (sh_s hi0_46 hi1_46 r_7 ex_41 (Or.inl rfl) ef_74).1 (sh_s hi0_46 hi1_46 r_7 ex_41 (Or.inl rfl) ef_74).2 (by have h1 := qx_99; have h2 := r_7.1; have h3 := r_7.2; have h4 := hm_46; omega) (lv_sub hl [5, 6, 7, 8, 2, 1, 3, 0] rfl) hv hH hS
                    · rw [if_neg c_72] at hv
                      have r_100 : rgI (-2147483648) (23) y6_46 := rg_w (rg_ltL (rg_top y6_46) ry2_46 (nle_lt c_72)) (by decide) (by decide)
                      have r_101 : rgI (-2147483647) (24) a1 := rg_w (rg_ltR (rg_top y6_46) ry2_46 (nle_lt c_72)) (by decide) (by decide)
                      refine lv_iload hx hb dX12_sheet_139 (lv_at hl 0 rfl) ?_
                      refine lv_if_le (tgt := 148) hx hb dX12_sheet_141 (by decide) (fun c_102 => ?_) (fun c_102 => ?_)
                      · rw [if_pos c_102] at hv
                        have r_103 : rgI (-2147483648) (0) y5_46 := rg_w (rg_leL (rg_top y5_46) rl_0 c_102) (by decide) (by decide)
                        refine lv_iconst (v := 0) hx hb dX12_sheet_148 (by decide) ?_
                        refine hg_iast hx hb hK hS o_c_21 (AF.of hk_10.1) (rg_in (n := 122) rx_41 (by decide) (by decide)) dX12_sheet_149 (fun H locs o_c_21 hz oq hS => ?_)
                        obtain ⟨G_104, eG_104⟩ : ∃ z : Gh, z = aset G_46 (g.2.2 100) (upd (G_46.2.1 (g.2.2 100)) (x_41 : Int32).toNatClampNeg 0) := ⟨_, rfl⟩
                        have hH : HT g Ty G_104 H := by rw [eG_104]; exact HT.putA (upd (G_46.2.1 (g.2.2 100)) (x_41 : Int32).toNatClampNeg 0) hH hk_10.1 cf30 o_c_21 oq
                        obtain ⟨f_105, ef_105⟩ : ∃ z : Nat → Int32, z = (upd fl0_46 (x_41 : Int32).toNatClampNeg 0) := ⟨_, rfl⟩
                        have eaf_105 : G_104 = aset G_46 (g.2.2 100) f_105 := by rw [eG_104, ef_105, efl0_46]
                        try rw [← ef_105] at hv
                        have fr_106 : FR [105] [(g.2.2 100)] [] G G_104 := FR.a frL_46 eaf_105 (fun b h => h.1)
                        have u_107 : G_104.1 102 = (G.1 102) := by rw [eaf_105]; exact (frL_46.1 102 (by decide))
                        have u_108 : G_104.1 104 = (G.1 104) := by rw [eaf_105]; exact (frL_46.1 104 (by decide))
                        have u_109 : G_104.1 113 = (G.1 113) := by rw [eaf_105]; exact (frL_46.1 113 (by decide))
                        have u_110 : G_104.1 122 = (G.1 122) := by rw [eaf_105]; exact (frL_46.1 122 (by decide))
                        have u_111 : G_104.1 133 = (G.1 133) := by rw [eaf_105]; exact (frL_46.1 133 (by decide))
                        have u_112 : G_104.1 137 = (G.1 137) := by rw [eaf_105]; exact (frL_46.1 137 (by decide))
                        have w_113 : G_104.2.1 (g.2.2 100) = f_105 := by rw [eaf_105]; exact aset_eq
                        have w_114 : G_104.2.1 (g.2.2 121) = (G.2.1 (g.2.2 121)) := by rw [eaf_105]; exact (aset_ne (ne_kd hmk.2.2.2.2.2.1 hmk.1 (by decide))).trans (frL_46.2.1 (g.2.2 121) ⟨(ne_kd hmk.2.2.2.2.2.1 hmk.1 (by decide)), trivial⟩)
                        have w_115 : G_104.2.1 (g.2.2 140) = (G.2.1 (g.2.2 140)) := by rw [eaf_105]; exact (aset_ne (ne_kd hmk.2.2.2.2.2.2.2.2.2.2.2.2.2.2.2.2.2.2.1 hmk.1 (by decide))).trans (frL_46.2.1 (g.2.2 140) ⟨(ne_kd hmk.2.2.2.2.2.2.2.2.2.2.2.2.2.2.2.2.2.2.1 hmk.1 (by decide)), trivial⟩)
                        have w_116 : G_104.2.1 (g.2.2 141) = (G.2.1 (g.2.2 141)) := by rw [eaf_105]; exact (aset_ne (ne_kd hmk.2.2.2.2.2.2.2.2.2.2.2.2.2.2.2.2.2.2.2.1 hmk.1 (by decide))).trans (frL_46.2.1 (g.2.2 141) ⟨(ne_kd hmk.2.2.2.2.2.2.2.2.2.2.2.2.2.2.2.2.2.2.2.1 hmk.1 (by decide)), trivial⟩)
                        have w_117 : G_104.2.1 (g.2.2 111) = (G.2.1 (g.2.2 111)) := by rw [eaf_105]; exact (aset_ne (ne_kd hmk.2.2.2.2.2.2.2.2.2.2.2.2.2.2.2.2.2.2.2.2.1 hmk.1 (by decide))).trans (frL_46.2.1 (g.2.2 111) ⟨(ne_kd hmk.2.2.2.2.2.2.2.2.2.2.2.2.2.2.2.2.2.2.2.2.1 hmk.1 (by decide)), trivial⟩)
                        have u_118 : G_104.2.2 111 = some (g.2.2 111) := by rw [eaf_105]; exact ((frL_46.2.2 111 (by decide)).trans hI.r111)
                        have u_119 : G_104.2.2 112 = some (g.2.2 112) := by rw [eaf_105]; exact ((frL_46.2.2 112 (by decide)).trans hI.r112)
                        clear oq hz
                        refine lv_iload hx hb dX12_sheet_150 (lv_at hl 7 rfl) ?_
                        refine lv_aload_n hx hb dX12_sheet_152 rfl (lv_at hl 1 rfl) ?_
                        obtain ⟨_, ⟨rfl, t_121, hk_122⟩, o_c_120⟩ := hH h0 _ k_h0
                        refine hg_get hx hb hG igX12 hown hK o_c_120 rfl 0 (by decide) (hG _ mw_1284) rfl dX12_sheet_153 ?_
                        refine lv_bipush (v := 96) hx hb dX12_sheet_156 (by decide) ?_
                        refine lv_iload hx hb dX12_sheet_158 (lv_at hl 8 rfl) ?_
                        refine lv_iadd hx hb dX12_sheet_160 ?_
                        refine lv_topi (fun x_123 ex_123 => ?_)
                        try rw [← ex_123] at hv
                        have rx_123 : rgI (96) (119) x_123 := by rw [ex_123]; exact rg_w (rg_add rl_96 r_7 (by decide) (by decide)) (by decide) (by decide)
                        have q_124 : x_41 = x_123 := ex_41.trans ex_123.symm
                        subst q_124
                        obtain ⟨_, rfl, o_c_125⟩ := hH (g.2.2 100) _ hk_122.1
                        have o_c_125 : va_at g.1 vwCl ((g.2.2 100), .inl (g.2.1 1, 122, .inl (G_104.2.1 (g.2.2 100)))) H := o_c_125
                        refine hg_iald hx hb hK o_c_125 (rg_in (n := 122) rx_123 (by decide) (by decide)) dX12_sheet_161 ?_
                        rw [w_113]
                        refine lv_topi (fun x_126 ex_126 => ?_)
                        try rw [← ex_126] at hv
                        refine lv_iadd hx hb dX12_sheet_162 ?_
                        refine lv_topi (fun x_127 ex_127 => ?_)
                        try rw [← ex_127] at hv
                        refine lv_istore (lv' := [(7, .int x_127), (9, .int y5_46), (0, .ref h0), (1, .int a0), (2, .int a1), (4, .int a3), (5, .int y5_46), (6, .int y6_46), (8, .int y8_46)]) hx hb dX12_sheet_163 hl (by decide) rfl (fun ls hl => ?_)
                        refine lv_iload hx hb dX12_sheet_165 (lv_at hl 6 rfl) ?_
                        refine lv_iload hx hb dX12_sheet_167 (lv_at hl 5 rfl) ?_
                        refine lv_iadd hx hb dX12_sheet_169 ?_
                        refine lv_topi (fun x_128 ex_128 => ?_)
                        try rw [← ex_128] at hv
                        refine lv_istore (lv' := [(5, .int x_128), (7, .int x_127), (9, .int y5_46), (0, .ref h0), (1, .int a0), (2, .int a1), (4, .int a3), (6, .int y6_46), (8, .int y8_46)]) hx hb dX12_sheet_170 hl (by decide) rfl (fun ls hl => ?_)
                        obtain ⟨x_129, ex_129⟩ : ∃ y : Int32, y = y6_46 + 1 := ⟨_, rfl⟩
                        try rw [← ex_129] at hv
                        have rx_129 : rgI (-2147483647) (24) x_129 := by rw [ex_129]; exact rg_w (rg_add r_100 rl_1 (by decide) (by decide)) (by decide) (by decide)
                        have qx_129 : x_129.toInt = (y6_46 : Int32).toInt + 1 := by rw [ex_129]; exact rg_addE r_100 rl_1 (by decide) (by decide)
                        refine lv_iinc (v := x_129) (lv' := [(6, .int x_129), (5, .int x_128), (7, .int x_127), (9, .int y5_46), (0, .ref h0), (1, .int a0), (2, .int a1), (4, .int a3), (8, .int y8_46)]) hx hb dX12_sheet_172 hl (k := 7) rfl (by rw [ex_129]; rfl) (by decide) rfl (fun ls hl => ?_)
                        obtain ⟨x_130, ex_130⟩ : ∃ y : Int32, y = y8_46 + 1 := ⟨_, rfl⟩
                        try rw [← ex_130] at hv
                        have rx_130 : rgI (1) (24) x_130 := by rw [ex_130]; exact rg_w (rg_add r_7 rl_1 (by decide) (by decide)) (by decide) (by decide)
                        have qx_130 : x_130.toInt = (y8_46 : Int32).toInt + 1 := by rw [ex_130]; exact rg_addE r_7 rl_1 (by decide) (by decide)
                        refine lv_iinc (v := x_130) (lv' := [(8, .int x_130), (6, .int x_129), (5, .int x_128), (7, .int x_127), (9, .int y5_46), (0, .ref h0), (1, .int a0), (2, .int a1), (4, .int a3)]) hx hb dX12_sheet_175 hl (k := 8) rfl (by rw [ex_130]; rfl) (by decide) rfl (fun ls hl => ?_)
                        refine lv_goto (tgt := 46) hx hb dX12_sheet_178 (by decide) ?_
                        exact ih_46 H locs G_104 f_105 x_128 x_129 x_127 x_130 ls fr_106 w_113 (rg_w r_71 (by decide) (by decide)) (rg_w r_101 (by decide) (by decide)) (rg_w rx_130 (by decide) (by decide)) (sh_s hi0_46 hi1_46 r_7 ex_41 (Or.inl rfl) ef_105).1 (sh_s hi0_46 hi1_46 r_7 ex_41 (Or.inl rfl) ef_105).2 (by have h1 := qx_130; have h2 := r_7.1; have h3 := r_7.2; have h4 := hm_46; omega) (lv_sub hl [5, 6, 7, 8, 2, 1, 3, 0] rfl) hv hH hS
                      · rw [if_neg c_102] at hv
                        have r_131 : rgI (1) (2147483647) y5_46 := rg_w (rg_ltR rl_0 (rg_top y5_46) (nle_lt c_102)) (by decide) (by decide)
                        refine lv_iconst (v := 1) hx hb dX12_sheet_144 (by decide) ?_
                        refine lv_goto (tgt := 149) hx hb dX12_sheet_145 (by decide) ?_
                        refine hg_iast hx hb hK hS o_c_21 (AF.of hk_10.1) (rg_in (n := 122) rx_41 (by decide) (by decide)) dX12_sheet_149 (fun H locs o_c_21 hz oq hS => ?_)
                        obtain ⟨G_132, eG_132⟩ : ∃ z : Gh, z = aset G_46 (g.2.2 100) (upd (G_46.2.1 (g.2.2 100)) (x_41 : Int32).toNatClampNeg 1) := ⟨_, rfl⟩
                        have hH : HT g Ty G_132 H := by rw [eG_132]; exact HT.putA (upd (G_46.2.1 (g.2.2 100)) (x_41 : Int32).toNatClampNeg 1) hH hk_10.1 cf30 o_c_21 oq
                        obtain ⟨f_133, ef_133⟩ : ∃ z : Nat → Int32, z = (upd fl0_46 (x_41 : Int32).toNatClampNeg 1) := ⟨_, rfl⟩
                        have eaf_133 : G_132 = aset G_46 (g.2.2 100) f_133 := by rw [eG_132, ef_133, efl0_46]
                        try rw [← ef_133] at hv
                        have fr_134 : FR [105] [(g.2.2 100)] [] G G_132 := FR.a frL_46 eaf_133 (fun b h => h.1)
                        have u_135 : G_132.1 102 = (G.1 102) := by rw [eaf_133]; exact (frL_46.1 102 (by decide))
                        have u_136 : G_132.1 104 = (G.1 104) := by rw [eaf_133]; exact (frL_46.1 104 (by decide))
                        have u_137 : G_132.1 113 = (G.1 113) := by rw [eaf_133]; exact (frL_46.1 113 (by decide))
                        have u_138 : G_132.1 122 = (G.1 122) := by rw [eaf_133]; exact (frL_46.1 122 (by decide))
                        have u_139 : G_132.1 133 = (G.1 133) := by rw [eaf_133]; exact (frL_46.1 133 (by decide))
                        have u_140 : G_132.1 137 = (G.1 137) := by rw [eaf_133]; exact (frL_46.1 137 (by decide))
                        have w_141 : G_132.2.1 (g.2.2 100) = f_133 := by rw [eaf_133]; exact aset_eq
                        have w_142 : G_132.2.1 (g.2.2 121) = (G.2.1 (g.2.2 121)) := by rw [eaf_133]; exact (aset_ne (ne_kd hmk.2.2.2.2.2.1 hmk.1 (by decide))).trans (frL_46.2.1 (g.2.2 121) ⟨(ne_kd hmk.2.2.2.2.2.1 hmk.1 (by decide)), trivial⟩)
                        have w_143 : G_132.2.1 (g.2.2 140) = (G.2.1 (g.2.2 140)) := by rw [eaf_133]; exact (aset_ne (ne_kd hmk.2.2.2.2.2.2.2.2.2.2.2.2.2.2.2.2.2.2.1 hmk.1 (by decide))).trans (frL_46.2.1 (g.2.2 140) ⟨(ne_kd hmk.2.2.2.2.2.2.2.2.2.2.2.2.2.2.2.2.2.2.1 hmk.1 (by decide)), trivial⟩)
                        have w_144 : G_132.2.1 (g.2.2 141) = (G.2.1 (g.2.2 141)) := by rw [eaf_133]; exact (aset_ne (ne_kd hmk.2.2.2.2.2.2.2.2.2.2.2.2.2.2.2.2.2.2.2.1 hmk.1 (by decide))).trans (frL_46.2.1 (g.2.2 141) ⟨(ne_kd hmk.2.2.2.2.2.2.2.2.2.2.2.2.2.2.2.2.2.2.2.1 hmk.1 (by decide)), trivial⟩)
                        have w_145 : G_132.2.1 (g.2.2 111) = (G.2.1 (g.2.2 111)) := by rw [eaf_133]; exact (aset_ne (ne_kd hmk.2.2.2.2.2.2.2.2.2.2.2.2.2.2.2.2.2.2.2.2.1 hmk.1 (by decide))).trans (frL_46.2.1 (g.2.2 111) ⟨(ne_kd hmk.2.2.2.2.2.2.2.2.2.2.2.2.2.2.2.2.2.2.2.2.1 hmk.1 (by decide)), trivial⟩)
                        have u_146 : G_132.2.2 111 = some (g.2.2 111) := by rw [eaf_133]; exact ((frL_46.2.2 111 (by decide)).trans hI.r111)
                        have u_147 : G_132.2.2 112 = some (g.2.2 112) := by rw [eaf_133]; exact ((frL_46.2.2 112 (by decide)).trans hI.r112)
                        clear oq hz
                        refine lv_iload hx hb dX12_sheet_150 (lv_at hl 7 rfl) ?_
                        refine lv_aload_n hx hb dX12_sheet_152 rfl (lv_at hl 1 rfl) ?_
                        obtain ⟨_, ⟨rfl, t_149, hk_150⟩, o_c_148⟩ := hH h0 _ k_h0
                        refine hg_get hx hb hG igX12 hown hK o_c_148 rfl 0 (by decide) (hG _ mw_1284) rfl dX12_sheet_153 ?_
                        refine lv_bipush (v := 96) hx hb dX12_sheet_156 (by decide) ?_
                        refine lv_iload hx hb dX12_sheet_158 (lv_at hl 8 rfl) ?_
                        refine lv_iadd hx hb dX12_sheet_160 ?_
                        refine lv_topi (fun x_151 ex_151 => ?_)
                        try rw [← ex_151] at hv
                        have rx_151 : rgI (96) (119) x_151 := by rw [ex_151]; exact rg_w (rg_add rl_96 r_7 (by decide) (by decide)) (by decide) (by decide)
                        have q_152 : x_41 = x_151 := ex_41.trans ex_151.symm
                        subst q_152
                        obtain ⟨_, rfl, o_c_153⟩ := hH (g.2.2 100) _ hk_150.1
                        have o_c_153 : va_at g.1 vwCl ((g.2.2 100), .inl (g.2.1 1, 122, .inl (G_132.2.1 (g.2.2 100)))) H := o_c_153
                        refine hg_iald hx hb hK o_c_153 (rg_in (n := 122) rx_151 (by decide) (by decide)) dX12_sheet_161 ?_
                        rw [w_141]
                        refine lv_topi (fun x_154 ex_154 => ?_)
                        try rw [← ex_154] at hv
                        refine lv_iadd hx hb dX12_sheet_162 ?_
                        refine lv_topi (fun x_155 ex_155 => ?_)
                        try rw [← ex_155] at hv
                        refine lv_istore (lv' := [(7, .int x_155), (9, .int y5_46), (0, .ref h0), (1, .int a0), (2, .int a1), (4, .int a3), (5, .int y5_46), (6, .int y6_46), (8, .int y8_46)]) hx hb dX12_sheet_163 hl (by decide) rfl (fun ls hl => ?_)
                        refine lv_iload hx hb dX12_sheet_165 (lv_at hl 6 rfl) ?_
                        refine lv_iload hx hb dX12_sheet_167 (lv_at hl 5 rfl) ?_
                        refine lv_iadd hx hb dX12_sheet_169 ?_
                        refine lv_topi (fun x_156 ex_156 => ?_)
                        try rw [← ex_156] at hv
                        refine lv_istore (lv' := [(5, .int x_156), (7, .int x_155), (9, .int y5_46), (0, .ref h0), (1, .int a0), (2, .int a1), (4, .int a3), (6, .int y6_46), (8, .int y8_46)]) hx hb dX12_sheet_170 hl (by decide) rfl (fun ls hl => ?_)
                        obtain ⟨x_157, ex_157⟩ : ∃ y : Int32, y = y6_46 + 1 := ⟨_, rfl⟩
                        try rw [← ex_157] at hv
                        have rx_157 : rgI (-2147483647) (24) x_157 := by rw [ex_157]; exact rg_w (rg_add r_100 rl_1 (by decide) (by decide)) (by decide) (by decide)
                        have qx_157 : x_157.toInt = (y6_46 : Int32).toInt + 1 := by rw [ex_157]; exact rg_addE r_100 rl_1 (by decide) (by decide)
                        refine lv_iinc (v := x_157) (lv' := [(6, .int x_157), (5, .int x_156), (7, .int x_155), (9, .int y5_46), (0, .ref h0), (1, .int a0), (2, .int a1), (4, .int a3), (8, .int y8_46)]) hx hb dX12_sheet_172 hl (k := 7) rfl (by rw [ex_157]; rfl) (by decide) rfl (fun ls hl => ?_)
                        obtain ⟨x_158, ex_158⟩ : ∃ y : Int32, y = y8_46 + 1 := ⟨_, rfl⟩
                        try rw [← ex_158] at hv
                        have rx_158 : rgI (1) (24) x_158 := by rw [ex_158]; exact rg_w (rg_add r_7 rl_1 (by decide) (by decide)) (by decide) (by decide)
                        have qx_158 : x_158.toInt = (y8_46 : Int32).toInt + 1 := by rw [ex_158]; exact rg_addE r_7 rl_1 (by decide) (by decide)
                        refine lv_iinc (v := x_158) (lv' := [(8, .int x_158), (6, .int x_157), (5, .int x_156), (7, .int x_155), (9, .int y5_46), (0, .ref h0), (1, .int a0), (2, .int a1), (4, .int a3)]) hx hb dX12_sheet_175 hl (k := 8) rfl (by rw [ex_158]; rfl) (by decide) rfl (fun ls hl => ?_)
                        refine lv_goto (tgt := 46) hx hb dX12_sheet_178 (by decide) ?_
                        exact ih_46 H locs G_132 f_133 x_156 x_157 x_155 x_158 ls fr_134 w_141 (rg_w r_71 (by decide) (by decide)) (rg_w r_101 (by decide) (by decide)) (rg_w rx_158 (by decide) (by decide)) (sh_s hi0_46 hi1_46 r_7 ex_41 (Or.inr rfl) ef_133).1 (sh_s hi0_46 hi1_46 r_7 ex_41 (Or.inr rfl) ef_133).2 (by have h1 := qx_158; have h2 := r_7.1; have h3 := r_7.2; have h4 := hm_46; omega) (lv_sub hl [5, 6, 7, 8, 2, 1, 3, 0] rfl) hv hH hS
            · rw [if_pos c_18] at hv
              have r_159 : rgI (1) (1) a0 := rg_w (rg_eq rl_1 c_18) (by decide) (by decide)
              refine lv_iload hx hb dX12_sheet_83 (lv_at hl 4 rfl) ?_
              refine lv_i2s hx hb dX12_sheet_85 rfl ?_
              refine lv_topi (fun x_160 ex_160 => ?_)
              try rw [← ex_160] at hv
              refine lv_goto (tgt := 91) hx hb dX12_sheet_86 (by decide) ?_
              refine lv_istore (lv' := [(9, .int x_160), (0, .ref h0), (1, .int a0), (2, .int a1), (4, .int a3), (5, .int y5_46), (6, .int y6_46), (7, .int y7_46), (8, .int y8_46)]) hx hb dX12_sheet_91 hl (by decide) rfl (fun ls hl => ?_)
              refine lv_aload_n hx hb dX12_sheet_93 rfl (lv_at hl 1 rfl) ?_
              refine hg_get hx hb hG igX12 hown hK o_c_8 rfl 0 (by decide) (hG _ mw_1284) rfl dX12_sheet_94 ?_
              refine lv_bipush (v := 48) hx hb dX12_sheet_97 (by decide) ?_
              refine lv_iload hx hb dX12_sheet_99 (lv_at hl 8 rfl) ?_
              refine lv_iadd hx hb dX12_sheet_101 ?_
              refine lv_topi (fun x_161 ex_161 => ?_)
              try rw [← ex_161] at hv
              have rx_161 : rgI (48) (71) x_161 := by rw [ex_161]; exact rg_w (rg_add rl_48 r_7 (by decide) (by decide)) (by decide) (by decide)
              obtain ⟨_, rfl, o_c_162⟩ := hH (g.2.2 100) _ hk_10.1
              have o_c_162 : va_at g.1 vwCl ((g.2.2 100), .inl (g.2.1 1, 122, .inl (G_46.2.1 (g.2.2 100)))) H := o_c_162
              refine hg_iald hx hb hK o_c_162 (rg_in (n := 122) rx_161 (by decide) (by decide)) dX12_sheet_102 ?_
              rw [efl0_46]
              refine lv_topi (fun x_163 ex_163 => ?_)
              try rw [← ex_163] at hv
              refine lv_if_ne (tgt := 150) hx hb dX12_sheet_103 (by decide) (fun c_164 => ?_) (fun c_164 => ?_)
              · rw [if_neg c_164] at hv
                refine lv_iload hx hb dX12_sheet_150 (lv_at hl 7 rfl) ?_
                refine lv_aload_n hx hb dX12_sheet_152 rfl (lv_at hl 1 rfl) ?_
                refine hg_get hx hb hG igX12 hown hK o_c_8 rfl 0 (by decide) (hG _ mw_1284) rfl dX12_sheet_153 ?_
                refine lv_bipush (v := 96) hx hb dX12_sheet_156 (by decide) ?_
                refine lv_iload hx hb dX12_sheet_158 (lv_at hl 8 rfl) ?_
                refine lv_iadd hx hb dX12_sheet_160 ?_
                refine lv_topi (fun x_165 ex_165 => ?_)
                try rw [← ex_165] at hv
                have rx_165 : rgI (96) (119) x_165 := by rw [ex_165]; exact rg_w (rg_add rl_96 r_7 (by decide) (by decide)) (by decide) (by decide)
                refine hg_iald hx hb hK o_c_162 (rg_in (n := 122) rx_165 (by decide) (by decide)) dX12_sheet_161 ?_
                rw [efl0_46]
                refine lv_topi (fun x_166 ex_166 => ?_)
                try rw [← ex_166] at hv
                refine lv_iadd hx hb dX12_sheet_162 ?_
                refine lv_topi (fun x_167 ex_167 => ?_)
                try rw [← ex_167] at hv
                refine lv_istore (lv' := [(7, .int x_167), (9, .int x_160), (0, .ref h0), (1, .int a0), (2, .int a1), (4, .int a3), (5, .int y5_46), (6, .int y6_46), (8, .int y8_46)]) hx hb dX12_sheet_163 hl (by decide) rfl (fun ls hl => ?_)
                refine lv_iload hx hb dX12_sheet_165 (lv_at hl 6 rfl) ?_
                refine lv_iload hx hb dX12_sheet_167 (lv_at hl 5 rfl) ?_
                refine lv_iadd hx hb dX12_sheet_169 ?_
                refine lv_topi (fun x_168 ex_168 => ?_)
                try rw [← ex_168] at hv
                refine lv_istore (lv' := [(5, .int x_168), (7, .int x_167), (9, .int x_160), (0, .ref h0), (1, .int a0), (2, .int a1), (4, .int a3), (6, .int y6_46), (8, .int y8_46)]) hx hb dX12_sheet_170 hl (by decide) rfl (fun ls hl => ?_)
                obtain ⟨x_169, ex_169⟩ : ∃ y : Int32, y = y6_46 + 1 := ⟨_, rfl⟩
                try rw [← ex_169] at hv
                refine lv_iinc (v := x_169) (lv' := [(6, .int x_169), (5, .int x_168), (7, .int x_167), (9, .int x_160), (0, .ref h0), (1, .int a0), (2, .int a1), (4, .int a3), (8, .int y8_46)]) hx hb dX12_sheet_172 hl (k := 7) rfl (by rw [ex_169]; rfl) (by decide) rfl (fun ls hl => ?_)
                obtain ⟨x_170, ex_170⟩ : ∃ y : Int32, y = y8_46 + 1 := ⟨_, rfl⟩
                try rw [← ex_170] at hv
                have rx_170 : rgI (1) (24) x_170 := by rw [ex_170]; exact rg_w (rg_add r_7 rl_1 (by decide) (by decide)) (by decide) (by decide)
                have qx_170 : x_170.toInt = (y8_46 : Int32).toInt + 1 := by rw [ex_170]; exact rg_addE r_7 rl_1 (by decide) (by decide)
                refine lv_iinc (v := x_170) (lv' := [(8, .int x_170), (6, .int x_169), (5, .int x_168), (7, .int x_167), (9, .int x_160), (0, .ref h0), (1, .int a0), (2, .int a1), (4, .int a3)]) hx hb dX12_sheet_175 hl (k := 8) rfl (by rw [ex_170]; rfl) (by decide) rfl (fun ls hl => ?_)
                refine lv_goto (tgt := 46) hx hb dX12_sheet_178 (by decide) ?_
                exact ih_46 H locs G_46 fl0_46 x_168 x_169 x_167 x_170 ls frL_46 efl0_46 (rg_w r_159 (by decide) (by decide)) ry2_46 (rg_w rx_170 (by decide) (by decide)) hi0_46 hi1_46 (by have h1 := qx_170; have h2 := r_7.1; have h3 := r_7.2; have h4 := hm_46; omega) (lv_sub hl [5, 6, 7, 8, 2, 1, 3, 0] rfl) hv hH hS
              · rw [if_pos c_164] at hv
                have r_171 : rgI (0) (0) x_163 := rg_w (rg_eq rl_0 c_164) (by decide) (by decide)
                refine lv_aload_n hx hb dX12_sheet_106 rfl (lv_at hl 1 rfl) ?_
                refine hg_get hx hb hG igX12 hown hK o_c_8 rfl 0 (by decide) (hG _ mw_1284) rfl dX12_sheet_107 ?_
                refine lv_bipush (v := 72) hx hb dX12_sheet_110 (by decide) ?_
                refine lv_iload hx hb dX12_sheet_112 (lv_at hl 8 rfl) ?_
                refine lv_iadd hx hb dX12_sheet_114 ?_
                refine lv_topi (fun x_172 ex_172 => ?_)
                try rw [← ex_172] at hv
                have rx_172 : rgI (72) (95) x_172 := by rw [ex_172]; exact rg_w (rg_add rl_72 r_7 (by decide) (by decide)) (by decide) (by decide)
                refine hg_iald hx hb hK o_c_162 (rg_in (n := 122) rx_172 (by decide) (by decide)) dX12_sheet_115 ?_
                rw [efl0_46]
                refine lv_topi (fun x_173 ex_173 => ?_)
                try rw [← ex_173] at hv
                refine lv_if_ne (tgt := 150) hx hb dX12_sheet_116 (by decide) (fun c_174 => ?_) (fun c_174 => ?_)
                · rw [if_neg c_174] at hv
                  refine lv_iload hx hb dX12_sheet_150 (lv_at hl 7 rfl) ?_
                  refine lv_aload_n hx hb dX12_sheet_152 rfl (lv_at hl 1 rfl) ?_
                  refine hg_get hx hb hG igX12 hown hK o_c_8 rfl 0 (by decide) (hG _ mw_1284) rfl dX12_sheet_153 ?_
                  refine lv_bipush (v := 96) hx hb dX12_sheet_156 (by decide) ?_
                  refine lv_iload hx hb dX12_sheet_158 (lv_at hl 8 rfl) ?_
                  refine lv_iadd hx hb dX12_sheet_160 ?_
                  refine lv_topi (fun x_175 ex_175 => ?_)
                  try rw [← ex_175] at hv
                  have rx_175 : rgI (96) (119) x_175 := by rw [ex_175]; exact rg_w (rg_add rl_96 r_7 (by decide) (by decide)) (by decide) (by decide)
                  refine hg_iald hx hb hK o_c_162 (rg_in (n := 122) rx_175 (by decide) (by decide)) dX12_sheet_161 ?_
                  rw [efl0_46]
                  refine lv_topi (fun x_176 ex_176 => ?_)
                  try rw [← ex_176] at hv
                  refine lv_iadd hx hb dX12_sheet_162 ?_
                  refine lv_topi (fun x_177 ex_177 => ?_)
                  try rw [← ex_177] at hv
                  refine lv_istore (lv' := [(7, .int x_177), (9, .int x_160), (0, .ref h0), (1, .int a0), (2, .int a1), (4, .int a3), (5, .int y5_46), (6, .int y6_46), (8, .int y8_46)]) hx hb dX12_sheet_163 hl (by decide) rfl (fun ls hl => ?_)
                  refine lv_iload hx hb dX12_sheet_165 (lv_at hl 6 rfl) ?_
                  refine lv_iload hx hb dX12_sheet_167 (lv_at hl 5 rfl) ?_
                  refine lv_iadd hx hb dX12_sheet_169 ?_
                  refine lv_topi (fun x_178 ex_178 => ?_)
                  try rw [← ex_178] at hv
                  refine lv_istore (lv' := [(5, .int x_178), (7, .int x_177), (9, .int x_160), (0, .ref h0), (1, .int a0), (2, .int a1), (4, .int a3), (6, .int y6_46), (8, .int y8_46)]) hx hb dX12_sheet_170 hl (by decide) rfl (fun ls hl => ?_)
                  obtain ⟨x_179, ex_179⟩ : ∃ y : Int32, y = y6_46 + 1 := ⟨_, rfl⟩
                  try rw [← ex_179] at hv
                  refine lv_iinc (v := x_179) (lv' := [(6, .int x_179), (5, .int x_178), (7, .int x_177), (9, .int x_160), (0, .ref h0), (1, .int a0), (2, .int a1), (4, .int a3), (8, .int y8_46)]) hx hb dX12_sheet_172 hl (k := 7) rfl (by rw [ex_179]; rfl) (by decide) rfl (fun ls hl => ?_)
                  obtain ⟨x_180, ex_180⟩ : ∃ y : Int32, y = y8_46 + 1 := ⟨_, rfl⟩
                  try rw [← ex_180] at hv
                  have rx_180 : rgI (1) (24) x_180 := by rw [ex_180]; exact rg_w (rg_add r_7 rl_1 (by decide) (by decide)) (by decide) (by decide)
                  have qx_180 : x_180.toInt = (y8_46 : Int32).toInt + 1 := by rw [ex_180]; exact rg_addE r_7 rl_1 (by decide) (by decide)
                  refine lv_iinc (v := x_180) (lv' := [(8, .int x_180), (6, .int x_179), (5, .int x_178), (7, .int x_177), (9, .int x_160), (0, .ref h0), (1, .int a0), (2, .int a1), (4, .int a3)]) hx hb dX12_sheet_175 hl (k := 8) rfl (by rw [ex_180]; rfl) (by decide) rfl (fun ls hl => ?_)
                  refine lv_goto (tgt := 46) hx hb dX12_sheet_178 (by decide) ?_
                  exact ih_46 H locs G_46 fl0_46 x_178 x_179 x_177 x_180 ls frL_46 efl0_46 (rg_w r_159 (by decide) (by decide)) ry2_46 (rg_w rx_180 (by decide) (by decide)) hi0_46 hi1_46 (by have h1 := qx_180; have h2 := r_7.1; have h3 := r_7.2; have h4 := hm_46; omega) (lv_sub hl [5, 6, 7, 8, 2, 1, 3, 0] rfl) hv hH hS
                · rw [if_pos c_174] at hv
                  have r_181 : rgI (0) (0) x_173 := rg_w (rg_eq rl_0 c_174) (by decide) (by decide)
                  refine lv_aload_n hx hb dX12_sheet_119 rfl (lv_at hl 1 rfl) ?_
                  refine hg_get hx hb hG igX12 hown hK o_c_8 rfl 0 (by decide) (hG _ mw_1284) rfl dX12_sheet_120 ?_
                  refine lv_bipush (v := 96) hx hb dX12_sheet_123 (by decide) ?_
                  refine lv_iload hx hb dX12_sheet_125 (lv_at hl 8 rfl) ?_
                  refine lv_iadd hx hb dX12_sheet_127 ?_
                  refine lv_topi (fun x_182 ex_182 => ?_)
                  try rw [← ex_182] at hv
                  have rx_182 : rgI (96) (119) x_182 := by rw [ex_182]; exact rg_w (rg_add rl_96 r_7 (by decide) (by decide)) (by decide) (by decide)
                  refine lv_iload_n hx hb dX12_sheet_128 rfl (lv_at hl 2 rfl) ?_
                  refine lv_iconst (v := 3) hx hb dX12_sheet_129 (by decide) ?_
                  refine lv_icmp_ge (tgt := 148) hx hb dX12_sheet_130 (by decide) (fun c_183 => ?_) (fun c_183 => ?_)
                  · rw [if_pos c_183] at hv
                    exact rg_no2 rl_3 r_159 c_183 (by decide)
                  · rw [if_neg c_183] at hv
                    refine lv_iload hx hb dX12_sheet_133 (lv_at hl 6 rfl) ?_
                    refine lv_iload_n hx hb dX12_sheet_135 rfl (lv_at hl 3 rfl) ?_
                    refine lv_icmp_ge (tgt := 148) hx hb dX12_sheet_136 (by decide) (fun c_184 => ?_) (fun c_184 => ?_)
                    · rw [if_pos c_184] at hv
                      refine lv_iconst (v := 0) hx hb dX12_sheet_148 (by decide) ?_
                      refine hg_iast hx hb hK hS o_c_162 (AF.of hk_10.1) (rg_in (n := 122) rx_182 (by decide) (by decide)) dX12_sheet_149 (fun H locs o_c_162 hz oq hS => ?_)
                      obtain ⟨G_185, eG_185⟩ : ∃ z : Gh, z = aset G_46 (g.2.2 100) (upd (G_46.2.1 (g.2.2 100)) (x_182 : Int32).toNatClampNeg 0) := ⟨_, rfl⟩
                      have hH : HT g Ty G_185 H := by rw [eG_185]; exact HT.putA (upd (G_46.2.1 (g.2.2 100)) (x_182 : Int32).toNatClampNeg 0) hH hk_10.1 cf30 o_c_162 oq
                      obtain ⟨f_186, ef_186⟩ : ∃ z : Nat → Int32, z = (upd fl0_46 (x_182 : Int32).toNatClampNeg 0) := ⟨_, rfl⟩
                      have eaf_186 : G_185 = aset G_46 (g.2.2 100) f_186 := by rw [eG_185, ef_186, efl0_46]
                      try rw [← ef_186] at hv
                      have fr_187 : FR [105] [(g.2.2 100)] [] G G_185 := FR.a frL_46 eaf_186 (fun b h => h.1)
                      have u_188 : G_185.1 102 = (G.1 102) := by rw [eaf_186]; exact (frL_46.1 102 (by decide))
                      have u_189 : G_185.1 104 = (G.1 104) := by rw [eaf_186]; exact (frL_46.1 104 (by decide))
                      have u_190 : G_185.1 113 = (G.1 113) := by rw [eaf_186]; exact (frL_46.1 113 (by decide))
                      have u_191 : G_185.1 122 = (G.1 122) := by rw [eaf_186]; exact (frL_46.1 122 (by decide))
                      have u_192 : G_185.1 133 = (G.1 133) := by rw [eaf_186]; exact (frL_46.1 133 (by decide))
                      have u_193 : G_185.1 137 = (G.1 137) := by rw [eaf_186]; exact (frL_46.1 137 (by decide))
                      have w_194 : G_185.2.1 (g.2.2 100) = f_186 := by rw [eaf_186]; exact aset_eq
                      have w_195 : G_185.2.1 (g.2.2 121) = (G.2.1 (g.2.2 121)) := by rw [eaf_186]; exact (aset_ne (ne_kd hmk.2.2.2.2.2.1 hmk.1 (by decide))).trans (frL_46.2.1 (g.2.2 121) ⟨(ne_kd hmk.2.2.2.2.2.1 hmk.1 (by decide)), trivial⟩)
                      have w_196 : G_185.2.1 (g.2.2 140) = (G.2.1 (g.2.2 140)) := by rw [eaf_186]; exact (aset_ne (ne_kd hmk.2.2.2.2.2.2.2.2.2.2.2.2.2.2.2.2.2.2.1 hmk.1 (by decide))).trans (frL_46.2.1 (g.2.2 140) ⟨(ne_kd hmk.2.2.2.2.2.2.2.2.2.2.2.2.2.2.2.2.2.2.1 hmk.1 (by decide)), trivial⟩)
                      have w_197 : G_185.2.1 (g.2.2 141) = (G.2.1 (g.2.2 141)) := by rw [eaf_186]; exact (aset_ne (ne_kd hmk.2.2.2.2.2.2.2.2.2.2.2.2.2.2.2.2.2.2.2.1 hmk.1 (by decide))).trans (frL_46.2.1 (g.2.2 141) ⟨(ne_kd hmk.2.2.2.2.2.2.2.2.2.2.2.2.2.2.2.2.2.2.2.1 hmk.1 (by decide)), trivial⟩)
                      have w_198 : G_185.2.1 (g.2.2 111) = (G.2.1 (g.2.2 111)) := by rw [eaf_186]; exact (aset_ne (ne_kd hmk.2.2.2.2.2.2.2.2.2.2.2.2.2.2.2.2.2.2.2.2.1 hmk.1 (by decide))).trans (frL_46.2.1 (g.2.2 111) ⟨(ne_kd hmk.2.2.2.2.2.2.2.2.2.2.2.2.2.2.2.2.2.2.2.2.1 hmk.1 (by decide)), trivial⟩)
                      have u_199 : G_185.2.2 111 = some (g.2.2 111) := by rw [eaf_186]; exact ((frL_46.2.2 111 (by decide)).trans hI.r111)
                      have u_200 : G_185.2.2 112 = some (g.2.2 112) := by rw [eaf_186]; exact ((frL_46.2.2 112 (by decide)).trans hI.r112)
                      clear oq hz
                      refine lv_iload hx hb dX12_sheet_150 (lv_at hl 7 rfl) ?_
                      refine lv_aload_n hx hb dX12_sheet_152 rfl (lv_at hl 1 rfl) ?_
                      obtain ⟨_, ⟨rfl, t_202, hk_203⟩, o_c_201⟩ := hH h0 _ k_h0
                      refine hg_get hx hb hG igX12 hown hK o_c_201 rfl 0 (by decide) (hG _ mw_1284) rfl dX12_sheet_153 ?_
                      refine lv_bipush (v := 96) hx hb dX12_sheet_156 (by decide) ?_
                      refine lv_iload hx hb dX12_sheet_158 (lv_at hl 8 rfl) ?_
                      refine lv_iadd hx hb dX12_sheet_160 ?_
                      refine lv_topi (fun x_204 ex_204 => ?_)
                      try rw [← ex_204] at hv
                      have rx_204 : rgI (96) (119) x_204 := by rw [ex_204]; exact rg_w (rg_add rl_96 r_7 (by decide) (by decide)) (by decide) (by decide)
                      have q_205 : x_182 = x_204 := ex_182.trans ex_204.symm
                      subst q_205
                      obtain ⟨_, rfl, o_c_206⟩ := hH (g.2.2 100) _ hk_203.1
                      have o_c_206 : va_at g.1 vwCl ((g.2.2 100), .inl (g.2.1 1, 122, .inl (G_185.2.1 (g.2.2 100)))) H := o_c_206
                      refine hg_iald hx hb hK o_c_206 (rg_in (n := 122) rx_204 (by decide) (by decide)) dX12_sheet_161 ?_
                      rw [w_194]
                      refine lv_topi (fun x_207 ex_207 => ?_)
                      try rw [← ex_207] at hv
                      refine lv_iadd hx hb dX12_sheet_162 ?_
                      refine lv_topi (fun x_208 ex_208 => ?_)
                      try rw [← ex_208] at hv
                      refine lv_istore (lv' := [(7, .int x_208), (9, .int x_160), (0, .ref h0), (1, .int a0), (2, .int a1), (4, .int a3), (5, .int y5_46), (6, .int y6_46), (8, .int y8_46)]) hx hb dX12_sheet_163 hl (by decide) rfl (fun ls hl => ?_)
                      refine lv_iload hx hb dX12_sheet_165 (lv_at hl 6 rfl) ?_
                      refine lv_iload hx hb dX12_sheet_167 (lv_at hl 5 rfl) ?_
                      refine lv_iadd hx hb dX12_sheet_169 ?_
                      refine lv_topi (fun x_209 ex_209 => ?_)
                      try rw [← ex_209] at hv
                      refine lv_istore (lv' := [(5, .int x_209), (7, .int x_208), (9, .int x_160), (0, .ref h0), (1, .int a0), (2, .int a1), (4, .int a3), (6, .int y6_46), (8, .int y8_46)]) hx hb dX12_sheet_170 hl (by decide) rfl (fun ls hl => ?_)
                      obtain ⟨x_210, ex_210⟩ : ∃ y : Int32, y = y6_46 + 1 := ⟨_, rfl⟩
                      try rw [← ex_210] at hv
                      refine lv_iinc (v := x_210) (lv' := [(6, .int x_210), (5, .int x_209), (7, .int x_208), (9, .int x_160), (0, .ref h0), (1, .int a0), (2, .int a1), (4, .int a3), (8, .int y8_46)]) hx hb dX12_sheet_172 hl (k := 7) rfl (by rw [ex_210]; rfl) (by decide) rfl (fun ls hl => ?_)
                      obtain ⟨x_211, ex_211⟩ : ∃ y : Int32, y = y8_46 + 1 := ⟨_, rfl⟩
                      try rw [← ex_211] at hv
                      have rx_211 : rgI (1) (24) x_211 := by rw [ex_211]; exact rg_w (rg_add r_7 rl_1 (by decide) (by decide)) (by decide) (by decide)
                      have qx_211 : x_211.toInt = (y8_46 : Int32).toInt + 1 := by rw [ex_211]; exact rg_addE r_7 rl_1 (by decide) (by decide)
                      refine lv_iinc (v := x_211) (lv' := [(8, .int x_211), (6, .int x_210), (5, .int x_209), (7, .int x_208), (9, .int x_160), (0, .ref h0), (1, .int a0), (2, .int a1), (4, .int a3)]) hx hb dX12_sheet_175 hl (k := 8) rfl (by rw [ex_211]; rfl) (by decide) rfl (fun ls hl => ?_)
                      refine lv_goto (tgt := 46) hx hb dX12_sheet_178 (by decide) ?_
                      exact ih_46 H locs G_185 f_186 x_209 x_210 x_208 x_211 ls fr_187 w_194 (rg_w r_159 (by decide) (by decide)) ry2_46 (rg_w rx_211 (by decide) (by decide)) (sh_s hi0_46 hi1_46 r_7 ex_182 (Or.inl rfl) ef_186).1 (sh_s hi0_46 hi1_46 r_7 ex_182 (Or.inl rfl) ef_186).2 (by have h1 := qx_211; have h2 := r_7.1; have h3 := r_7.2; have h4 := hm_46; omega) (lv_sub hl [5, 6, 7, 8, 2, 1, 3, 0] rfl) hv hH hS
                    · rw [if_neg c_184] at hv
                      have r_212 : rgI (-2147483648) (23) y6_46 := rg_w (rg_ltL (rg_top y6_46) ry2_46 (nle_lt c_184)) (by decide) (by decide)
                      have r_213 : rgI (-2147483647) (24) a1 := rg_w (rg_ltR (rg_top y6_46) ry2_46 (nle_lt c_184)) (by decide) (by decide)
                      refine lv_iload hx hb dX12_sheet_139 (lv_at hl 0 rfl) ?_
                      refine lv_if_le (tgt := 148) hx hb dX12_sheet_141 (by decide) (fun c_214 => ?_) (fun c_214 => ?_)
                      · rw [if_pos c_214] at hv
                        have r_215 : rgI (-2147483648) (0) x_160 := rg_w (rg_leL (rg_top x_160) rl_0 c_214) (by decide) (by decide)
                        refine lv_iconst (v := 0) hx hb dX12_sheet_148 (by decide) ?_
                        refine hg_iast hx hb hK hS o_c_162 (AF.of hk_10.1) (rg_in (n := 122) rx_182 (by decide) (by decide)) dX12_sheet_149 (fun H locs o_c_162 hz oq hS => ?_)
                        obtain ⟨G_216, eG_216⟩ : ∃ z : Gh, z = aset G_46 (g.2.2 100) (upd (G_46.2.1 (g.2.2 100)) (x_182 : Int32).toNatClampNeg 0) := ⟨_, rfl⟩
                        have hH : HT g Ty G_216 H := by rw [eG_216]; exact HT.putA (upd (G_46.2.1 (g.2.2 100)) (x_182 : Int32).toNatClampNeg 0) hH hk_10.1 cf30 o_c_162 oq
                        obtain ⟨f_217, ef_217⟩ : ∃ z : Nat → Int32, z = (upd fl0_46 (x_182 : Int32).toNatClampNeg 0) := ⟨_, rfl⟩
                        have eaf_217 : G_216 = aset G_46 (g.2.2 100) f_217 := by rw [eG_216, ef_217, efl0_46]
                        try rw [← ef_217] at hv
                        have fr_218 : FR [105] [(g.2.2 100)] [] G G_216 := FR.a frL_46 eaf_217 (fun b h => h.1)
                        have u_219 : G_216.1 102 = (G.1 102) := by rw [eaf_217]; exact (frL_46.1 102 (by decide))
                        have u_220 : G_216.1 104 = (G.1 104) := by rw [eaf_217]; exact (frL_46.1 104 (by decide))
                        have u_221 : G_216.1 113 = (G.1 113) := by rw [eaf_217]; exact (frL_46.1 113 (by decide))
                        have u_222 : G_216.1 122 = (G.1 122) := by rw [eaf_217]; exact (frL_46.1 122 (by decide))
                        have u_223 : G_216.1 133 = (G.1 133) := by rw [eaf_217]; exact (frL_46.1 133 (by decide))
                        have u_224 : G_216.1 137 = (G.1 137) := by rw [eaf_217]; exact (frL_46.1 137 (by decide))
                        have w_225 : G_216.2.1 (g.2.2 100) = f_217 := by rw [eaf_217]; exact aset_eq
                        have w_226 : G_216.2.1 (g.2.2 121) = (G.2.1 (g.2.2 121)) := by rw [eaf_217]; exact (aset_ne (ne_kd hmk.2.2.2.2.2.1 hmk.1 (by decide))).trans (frL_46.2.1 (g.2.2 121) ⟨(ne_kd hmk.2.2.2.2.2.1 hmk.1 (by decide)), trivial⟩)
                        have w_227 : G_216.2.1 (g.2.2 140) = (G.2.1 (g.2.2 140)) := by rw [eaf_217]; exact (aset_ne (ne_kd hmk.2.2.2.2.2.2.2.2.2.2.2.2.2.2.2.2.2.2.1 hmk.1 (by decide))).trans (frL_46.2.1 (g.2.2 140) ⟨(ne_kd hmk.2.2.2.2.2.2.2.2.2.2.2.2.2.2.2.2.2.2.1 hmk.1 (by decide)), trivial⟩)
                        have w_228 : G_216.2.1 (g.2.2 141) = (G.2.1 (g.2.2 141)) := by rw [eaf_217]; exact (aset_ne (ne_kd hmk.2.2.2.2.2.2.2.2.2.2.2.2.2.2.2.2.2.2.2.1 hmk.1 (by decide))).trans (frL_46.2.1 (g.2.2 141) ⟨(ne_kd hmk.2.2.2.2.2.2.2.2.2.2.2.2.2.2.2.2.2.2.2.1 hmk.1 (by decide)), trivial⟩)
                        have w_229 : G_216.2.1 (g.2.2 111) = (G.2.1 (g.2.2 111)) := by rw [eaf_217]; exact (aset_ne (ne_kd hmk.2.2.2.2.2.2.2.2.2.2.2.2.2.2.2.2.2.2.2.2.1 hmk.1 (by decide))).trans (frL_46.2.1 (g.2.2 111) ⟨(ne_kd hmk.2.2.2.2.2.2.2.2.2.2.2.2.2.2.2.2.2.2.2.2.1 hmk.1 (by decide)), trivial⟩)
                        have u_230 : G_216.2.2 111 = some (g.2.2 111) := by rw [eaf_217]; exact ((frL_46.2.2 111 (by decide)).trans hI.r111)
                        have u_231 : G_216.2.2 112 = some (g.2.2 112) := by rw [eaf_217]; exact ((frL_46.2.2 112 (by decide)).trans hI.r112)
                        clear oq hz
                        refine lv_iload hx hb dX12_sheet_150 (lv_at hl 7 rfl) ?_
                        refine lv_aload_n hx hb dX12_sheet_152 rfl (lv_at hl 1 rfl) ?_
                        obtain ⟨_, ⟨rfl, t_233, hk_234⟩, o_c_232⟩ := hH h0 _ k_h0
                        refine hg_get hx hb hG igX12 hown hK o_c_232 rfl 0 (by decide) (hG _ mw_1284) rfl dX12_sheet_153 ?_
                        refine lv_bipush (v := 96) hx hb dX12_sheet_156 (by decide) ?_
                        refine lv_iload hx hb dX12_sheet_158 (lv_at hl 8 rfl) ?_
                        refine lv_iadd hx hb dX12_sheet_160 ?_
                        refine lv_topi (fun x_235 ex_235 => ?_)
                        try rw [← ex_235] at hv
                        have rx_235 : rgI (96) (119) x_235 := by rw [ex_235]; exact rg_w (rg_add rl_96 r_7 (by decide) (by decide)) (by decide) (by decide)
                        have q_236 : x_182 = x_235 := ex_182.trans ex_235.symm
                        subst q_236
                        obtain ⟨_, rfl, o_c_237⟩ := hH (g.2.2 100) _ hk_234.1
                        have o_c_237 : va_at g.1 vwCl ((g.2.2 100), .inl (g.2.1 1, 122, .inl (G_216.2.1 (g.2.2 100)))) H := o_c_237
                        refine hg_iald hx hb hK o_c_237 (rg_in (n := 122) rx_235 (by decide) (by decide)) dX12_sheet_161 ?_
                        rw [w_225]
                        refine lv_topi (fun x_238 ex_238 => ?_)
                        try rw [← ex_238] at hv
                        refine lv_iadd hx hb dX12_sheet_162 ?_
                        refine lv_topi (fun x_239 ex_239 => ?_)
                        try rw [← ex_239] at hv
                        refine lv_istore (lv' := [(7, .int x_239), (9, .int x_160), (0, .ref h0), (1, .int a0), (2, .int a1), (4, .int a3), (5, .int y5_46), (6, .int y6_46), (8, .int y8_46)]) hx hb dX12_sheet_163 hl (by decide) rfl (fun ls hl => ?_)
                        refine lv_iload hx hb dX12_sheet_165 (lv_at hl 6 rfl) ?_
                        refine lv_iload hx hb dX12_sheet_167 (lv_at hl 5 rfl) ?_
                        refine lv_iadd hx hb dX12_sheet_169 ?_
                        refine lv_topi (fun x_240 ex_240 => ?_)
                        try rw [← ex_240] at hv
                        refine lv_istore (lv' := [(5, .int x_240), (7, .int x_239), (9, .int x_160), (0, .ref h0), (1, .int a0), (2, .int a1), (4, .int a3), (6, .int y6_46), (8, .int y8_46)]) hx hb dX12_sheet_170 hl (by decide) rfl (fun ls hl => ?_)
                        obtain ⟨x_241, ex_241⟩ : ∃ y : Int32, y = y6_46 + 1 := ⟨_, rfl⟩
                        try rw [← ex_241] at hv
                        have rx_241 : rgI (-2147483647) (24) x_241 := by rw [ex_241]; exact rg_w (rg_add r_212 rl_1 (by decide) (by decide)) (by decide) (by decide)
                        have qx_241 : x_241.toInt = (y6_46 : Int32).toInt + 1 := by rw [ex_241]; exact rg_addE r_212 rl_1 (by decide) (by decide)
                        refine lv_iinc (v := x_241) (lv' := [(6, .int x_241), (5, .int x_240), (7, .int x_239), (9, .int x_160), (0, .ref h0), (1, .int a0), (2, .int a1), (4, .int a3), (8, .int y8_46)]) hx hb dX12_sheet_172 hl (k := 7) rfl (by rw [ex_241]; rfl) (by decide) rfl (fun ls hl => ?_)
                        obtain ⟨x_242, ex_242⟩ : ∃ y : Int32, y = y8_46 + 1 := ⟨_, rfl⟩
                        try rw [← ex_242] at hv
                        have rx_242 : rgI (1) (24) x_242 := by rw [ex_242]; exact rg_w (rg_add r_7 rl_1 (by decide) (by decide)) (by decide) (by decide)
                        have qx_242 : x_242.toInt = (y8_46 : Int32).toInt + 1 := by rw [ex_242]; exact rg_addE r_7 rl_1 (by decide) (by decide)
                        refine lv_iinc (v := x_242) (lv' := [(8, .int x_242), (6, .int x_241), (5, .int x_240), (7, .int x_239), (9, .int x_160), (0, .ref h0), (1, .int a0), (2, .int a1), (4, .int a3)]) hx hb dX12_sheet_175 hl (k := 8) rfl (by rw [ex_242]; rfl) (by decide) rfl (fun ls hl => ?_)
                        refine lv_goto (tgt := 46) hx hb dX12_sheet_178 (by decide) ?_
                        exact ih_46 H locs G_216 f_217 x_240 x_241 x_239 x_242 ls fr_218 w_225 (rg_w r_159 (by decide) (by decide)) (rg_w r_213 (by decide) (by decide)) (rg_w rx_242 (by decide) (by decide)) (sh_s hi0_46 hi1_46 r_7 ex_182 (Or.inl rfl) ef_217).1 (sh_s hi0_46 hi1_46 r_7 ex_182 (Or.inl rfl) ef_217).2 (by have h1 := qx_242; have h2 := r_7.1; have h3 := r_7.2; have h4 := hm_46; omega) (lv_sub hl [5, 6, 7, 8, 2, 1, 3, 0] rfl) hv hH hS
                      · rw [if_neg c_214] at hv
                        have r_243 : rgI (1) (2147483647) x_160 := rg_w (rg_ltR rl_0 (rg_top x_160) (nle_lt c_214)) (by decide) (by decide)
                        refine lv_iconst (v := 1) hx hb dX12_sheet_144 (by decide) ?_
                        refine lv_goto (tgt := 149) hx hb dX12_sheet_145 (by decide) ?_
                        refine hg_iast hx hb hK hS o_c_162 (AF.of hk_10.1) (rg_in (n := 122) rx_182 (by decide) (by decide)) dX12_sheet_149 (fun H locs o_c_162 hz oq hS => ?_)
                        obtain ⟨G_244, eG_244⟩ : ∃ z : Gh, z = aset G_46 (g.2.2 100) (upd (G_46.2.1 (g.2.2 100)) (x_182 : Int32).toNatClampNeg 1) := ⟨_, rfl⟩
                        have hH : HT g Ty G_244 H := by rw [eG_244]; exact HT.putA (upd (G_46.2.1 (g.2.2 100)) (x_182 : Int32).toNatClampNeg 1) hH hk_10.1 cf30 o_c_162 oq
                        obtain ⟨f_245, ef_245⟩ : ∃ z : Nat → Int32, z = (upd fl0_46 (x_182 : Int32).toNatClampNeg 1) := ⟨_, rfl⟩
                        have eaf_245 : G_244 = aset G_46 (g.2.2 100) f_245 := by rw [eG_244, ef_245, efl0_46]
                        try rw [← ef_245] at hv
                        have fr_246 : FR [105] [(g.2.2 100)] [] G G_244 := FR.a frL_46 eaf_245 (fun b h => h.1)
                        have u_247 : G_244.1 102 = (G.1 102) := by rw [eaf_245]; exact (frL_46.1 102 (by decide))
                        have u_248 : G_244.1 104 = (G.1 104) := by rw [eaf_245]; exact (frL_46.1 104 (by decide))
                        have u_249 : G_244.1 113 = (G.1 113) := by rw [eaf_245]; exact (frL_46.1 113 (by decide))
                        have u_250 : G_244.1 122 = (G.1 122) := by rw [eaf_245]; exact (frL_46.1 122 (by decide))
                        have u_251 : G_244.1 133 = (G.1 133) := by rw [eaf_245]; exact (frL_46.1 133 (by decide))
                        have u_252 : G_244.1 137 = (G.1 137) := by rw [eaf_245]; exact (frL_46.1 137 (by decide))
                        have w_253 : G_244.2.1 (g.2.2 100) = f_245 := by rw [eaf_245]; exact aset_eq
                        have w_254 : G_244.2.1 (g.2.2 121) = (G.2.1 (g.2.2 121)) := by rw [eaf_245]; exact (aset_ne (ne_kd hmk.2.2.2.2.2.1 hmk.1 (by decide))).trans (frL_46.2.1 (g.2.2 121) ⟨(ne_kd hmk.2.2.2.2.2.1 hmk.1 (by decide)), trivial⟩)
                        have w_255 : G_244.2.1 (g.2.2 140) = (G.2.1 (g.2.2 140)) := by rw [eaf_245]; exact (aset_ne (ne_kd hmk.2.2.2.2.2.2.2.2.2.2.2.2.2.2.2.2.2.2.1 hmk.1 (by decide))).trans (frL_46.2.1 (g.2.2 140) ⟨(ne_kd hmk.2.2.2.2.2.2.2.2.2.2.2.2.2.2.2.2.2.2.1 hmk.1 (by decide)), trivial⟩)
                        have w_256 : G_244.2.1 (g.2.2 141) = (G.2.1 (g.2.2 141)) := by rw [eaf_245]; exact (aset_ne (ne_kd hmk.2.2.2.2.2.2.2.2.2.2.2.2.2.2.2.2.2.2.2.1 hmk.1 (by decide))).trans (frL_46.2.1 (g.2.2 141) ⟨(ne_kd hmk.2.2.2.2.2.2.2.2.2.2.2.2.2.2.2.2.2.2.2.1 hmk.1 (by decide)), trivial⟩)
                        have w_257 : G_244.2.1 (g.2.2 111) = (G.2.1 (g.2.2 111)) := by rw [eaf_245]; exact (aset_ne (ne_kd hmk.2.2.2.2.2.2.2.2.2.2.2.2.2.2.2.2.2.2.2.2.1 hmk.1 (by decide))).trans (frL_46.2.1 (g.2.2 111) ⟨(ne_kd hmk.2.2.2.2.2.2.2.2.2.2.2.2.2.2.2.2.2.2.2.2.1 hmk.1 (by decide)), trivial⟩)
                        have u_258 : G_244.2.2 111 = some (g.2.2 111) := by rw [eaf_245]; exact ((frL_46.2.2 111 (by decide)).trans hI.r111)
                        have u_259 : G_244.2.2 112 = some (g.2.2 112) := by rw [eaf_245]; exact ((frL_46.2.2 112 (by decide)).trans hI.r112)
                        clear oq hz
                        refine lv_iload hx hb dX12_sheet_150 (lv_at hl 7 rfl) ?_
                        refine lv_aload_n hx hb dX12_sheet_152 rfl (lv_at hl 1 rfl) ?_
                        obtain ⟨_, ⟨rfl, t_261, hk_262⟩, o_c_260⟩ := hH h0 _ k_h0
                        refine hg_get hx hb hG igX12 hown hK o_c_260 rfl 0 (by decide) (hG _ mw_1284) rfl dX12_sheet_153 ?_
                        refine lv_bipush (v := 96) hx hb dX12_sheet_156 (by decide) ?_
                        refine lv_iload hx hb dX12_sheet_158 (lv_at hl 8 rfl) ?_
                        refine lv_iadd hx hb dX12_sheet_160 ?_
                        refine lv_topi (fun x_263 ex_263 => ?_)
                        try rw [← ex_263] at hv
                        have rx_263 : rgI (96) (119) x_263 := by rw [ex_263]; exact rg_w (rg_add rl_96 r_7 (by decide) (by decide)) (by decide) (by decide)
                        have q_264 : x_182 = x_263 := ex_182.trans ex_263.symm
                        subst q_264
                        obtain ⟨_, rfl, o_c_265⟩ := hH (g.2.2 100) _ hk_262.1
                        have o_c_265 : va_at g.1 vwCl ((g.2.2 100), .inl (g.2.1 1, 122, .inl (G_244.2.1 (g.2.2 100)))) H := o_c_265
                        refine hg_iald hx hb hK o_c_265 (rg_in (n := 122) rx_263 (by decide) (by decide)) dX12_sheet_161 ?_
                        rw [w_253]
                        refine lv_topi (fun x_266 ex_266 => ?_)
                        try rw [← ex_266] at hv
                        refine lv_iadd hx hb dX12_sheet_162 ?_
                        refine lv_topi (fun x_267 ex_267 => ?_)
                        try rw [← ex_267] at hv
                        refine lv_istore (lv' := [(7, .int x_267), (9, .int x_160), (0, .ref h0), (1, .int a0), (2, .int a1), (4, .int a3), (5, .int y5_46), (6, .int y6_46), (8, .int y8_46)]) hx hb dX12_sheet_163 hl (by decide) rfl (fun ls hl => ?_)
                        refine lv_iload hx hb dX12_sheet_165 (lv_at hl 6 rfl) ?_
                        refine lv_iload hx hb dX12_sheet_167 (lv_at hl 5 rfl) ?_
                        refine lv_iadd hx hb dX12_sheet_169 ?_
                        refine lv_topi (fun x_268 ex_268 => ?_)
                        try rw [← ex_268] at hv
                        refine lv_istore (lv' := [(5, .int x_268), (7, .int x_267), (9, .int x_160), (0, .ref h0), (1, .int a0), (2, .int a1), (4, .int a3), (6, .int y6_46), (8, .int y8_46)]) hx hb dX12_sheet_170 hl (by decide) rfl (fun ls hl => ?_)
                        obtain ⟨x_269, ex_269⟩ : ∃ y : Int32, y = y6_46 + 1 := ⟨_, rfl⟩
                        try rw [← ex_269] at hv
                        have rx_269 : rgI (-2147483647) (24) x_269 := by rw [ex_269]; exact rg_w (rg_add r_212 rl_1 (by decide) (by decide)) (by decide) (by decide)
                        have qx_269 : x_269.toInt = (y6_46 : Int32).toInt + 1 := by rw [ex_269]; exact rg_addE r_212 rl_1 (by decide) (by decide)
                        refine lv_iinc (v := x_269) (lv' := [(6, .int x_269), (5, .int x_268), (7, .int x_267), (9, .int x_160), (0, .ref h0), (1, .int a0), (2, .int a1), (4, .int a3), (8, .int y8_46)]) hx hb dX12_sheet_172 hl (k := 7) rfl (by rw [ex_269]; rfl) (by decide) rfl (fun ls hl => ?_)
                        obtain ⟨x_270, ex_270⟩ : ∃ y : Int32, y = y8_46 + 1 := ⟨_, rfl⟩
                        try rw [← ex_270] at hv
                        have rx_270 : rgI (1) (24) x_270 := by rw [ex_270]; exact rg_w (rg_add r_7 rl_1 (by decide) (by decide)) (by decide) (by decide)
                        have qx_270 : x_270.toInt = (y8_46 : Int32).toInt + 1 := by rw [ex_270]; exact rg_addE r_7 rl_1 (by decide) (by decide)
                        refine lv_iinc (v := x_270) (lv' := [(8, .int x_270), (6, .int x_269), (5, .int x_268), (7, .int x_267), (9, .int x_160), (0, .ref h0), (1, .int a0), (2, .int a1), (4, .int a3)]) hx hb dX12_sheet_175 hl (k := 8) rfl (by rw [ex_270]; rfl) (by decide) rfl (fun ls hl => ?_)
                        refine lv_goto (tgt := 46) hx hb dX12_sheet_178 (by decide) ?_
                        exact ih_46 H locs G_244 f_245 x_268 x_269 x_267 x_270 ls fr_246 w_253 (rg_w r_159 (by decide) (by decide)) (rg_w r_213 (by decide) (by decide)) (rg_w rx_270 (by decide) (by decide)) (sh_s hi0_46 hi1_46 r_7 ex_182 (Or.inr rfl) ef_245).1 (sh_s hi0_46 hi1_46 r_7 ex_182 (Or.inr rfl) ef_245).2 (by have h1 := qx_270; have h2 := r_7.1; have h3 := r_7.2; have h4 := hm_46; omega) (lv_sub hl [5, 6, 7, 8, 2, 1, 3, 0] rfl) hv hH hS
          · rw [if_pos c_16] at hv
            have r_271 : rgI (0) (0) a0 := rg_w (rg_eq rl_0 c_16) (by decide) (by decide)
            refine lv_iload hx hb dX12_sheet_72 (lv_at hl 4 rfl) ?_
            refine lv_i2b hx hb dX12_sheet_74 rfl ?_
            refine lv_topi (fun x_272 ex_272 => ?_)
            try rw [← ex_272] at hv
            refine lv_goto (tgt := 91) hx hb dX12_sheet_75 (by decide) ?_
            refine lv_istore (lv' := [(9, .int x_272), (0, .ref h0), (1, .int a0), (2, .int a1), (4, .int a3), (5, .int y5_46), (6, .int y6_46), (7, .int y7_46), (8, .int y8_46)]) hx hb dX12_sheet_91 hl (by decide) rfl (fun ls hl => ?_)
            refine lv_aload_n hx hb dX12_sheet_93 rfl (lv_at hl 1 rfl) ?_
            refine hg_get hx hb hG igX12 hown hK o_c_8 rfl 0 (by decide) (hG _ mw_1284) rfl dX12_sheet_94 ?_
            refine lv_bipush (v := 48) hx hb dX12_sheet_97 (by decide) ?_
            refine lv_iload hx hb dX12_sheet_99 (lv_at hl 8 rfl) ?_
            refine lv_iadd hx hb dX12_sheet_101 ?_
            refine lv_topi (fun x_273 ex_273 => ?_)
            try rw [← ex_273] at hv
            have rx_273 : rgI (48) (71) x_273 := by rw [ex_273]; exact rg_w (rg_add rl_48 r_7 (by decide) (by decide)) (by decide) (by decide)
            obtain ⟨_, rfl, o_c_274⟩ := hH (g.2.2 100) _ hk_10.1
            have o_c_274 : va_at g.1 vwCl ((g.2.2 100), .inl (g.2.1 1, 122, .inl (G_46.2.1 (g.2.2 100)))) H := o_c_274
            refine hg_iald hx hb hK o_c_274 (rg_in (n := 122) rx_273 (by decide) (by decide)) dX12_sheet_102 ?_
            rw [efl0_46]
            refine lv_topi (fun x_275 ex_275 => ?_)
            try rw [← ex_275] at hv
            refine lv_if_ne (tgt := 150) hx hb dX12_sheet_103 (by decide) (fun c_276 => ?_) (fun c_276 => ?_)
            · rw [if_neg c_276] at hv
              refine lv_iload hx hb dX12_sheet_150 (lv_at hl 7 rfl) ?_
              refine lv_aload_n hx hb dX12_sheet_152 rfl (lv_at hl 1 rfl) ?_
              refine hg_get hx hb hG igX12 hown hK o_c_8 rfl 0 (by decide) (hG _ mw_1284) rfl dX12_sheet_153 ?_
              refine lv_bipush (v := 96) hx hb dX12_sheet_156 (by decide) ?_
              refine lv_iload hx hb dX12_sheet_158 (lv_at hl 8 rfl) ?_
              refine lv_iadd hx hb dX12_sheet_160 ?_
              refine lv_topi (fun x_277 ex_277 => ?_)
              try rw [← ex_277] at hv
              have rx_277 : rgI (96) (119) x_277 := by rw [ex_277]; exact rg_w (rg_add rl_96 r_7 (by decide) (by decide)) (by decide) (by decide)
              refine hg_iald hx hb hK o_c_274 (rg_in (n := 122) rx_277 (by decide) (by decide)) dX12_sheet_161 ?_
              rw [efl0_46]
              refine lv_topi (fun x_278 ex_278 => ?_)
              try rw [← ex_278] at hv
              refine lv_iadd hx hb dX12_sheet_162 ?_
              refine lv_topi (fun x_279 ex_279 => ?_)
              try rw [← ex_279] at hv
              refine lv_istore (lv' := [(7, .int x_279), (9, .int x_272), (0, .ref h0), (1, .int a0), (2, .int a1), (4, .int a3), (5, .int y5_46), (6, .int y6_46), (8, .int y8_46)]) hx hb dX12_sheet_163 hl (by decide) rfl (fun ls hl => ?_)
              refine lv_iload hx hb dX12_sheet_165 (lv_at hl 6 rfl) ?_
              refine lv_iload hx hb dX12_sheet_167 (lv_at hl 5 rfl) ?_
              refine lv_iadd hx hb dX12_sheet_169 ?_
              refine lv_topi (fun x_280 ex_280 => ?_)
              try rw [← ex_280] at hv
              refine lv_istore (lv' := [(5, .int x_280), (7, .int x_279), (9, .int x_272), (0, .ref h0), (1, .int a0), (2, .int a1), (4, .int a3), (6, .int y6_46), (8, .int y8_46)]) hx hb dX12_sheet_170 hl (by decide) rfl (fun ls hl => ?_)
              obtain ⟨x_281, ex_281⟩ : ∃ y : Int32, y = y6_46 + 1 := ⟨_, rfl⟩
              try rw [← ex_281] at hv
              refine lv_iinc (v := x_281) (lv' := [(6, .int x_281), (5, .int x_280), (7, .int x_279), (9, .int x_272), (0, .ref h0), (1, .int a0), (2, .int a1), (4, .int a3), (8, .int y8_46)]) hx hb dX12_sheet_172 hl (k := 7) rfl (by rw [ex_281]; rfl) (by decide) rfl (fun ls hl => ?_)
              obtain ⟨x_282, ex_282⟩ : ∃ y : Int32, y = y8_46 + 1 := ⟨_, rfl⟩
              try rw [← ex_282] at hv
              have rx_282 : rgI (1) (24) x_282 := by rw [ex_282]; exact rg_w (rg_add r_7 rl_1 (by decide) (by decide)) (by decide) (by decide)
              have qx_282 : x_282.toInt = (y8_46 : Int32).toInt + 1 := by rw [ex_282]; exact rg_addE r_7 rl_1 (by decide) (by decide)
              refine lv_iinc (v := x_282) (lv' := [(8, .int x_282), (6, .int x_281), (5, .int x_280), (7, .int x_279), (9, .int x_272), (0, .ref h0), (1, .int a0), (2, .int a1), (4, .int a3)]) hx hb dX12_sheet_175 hl (k := 8) rfl (by rw [ex_282]; rfl) (by decide) rfl (fun ls hl => ?_)
              refine lv_goto (tgt := 46) hx hb dX12_sheet_178 (by decide) ?_
              exact ih_46 H locs G_46 fl0_46 x_280 x_281 x_279 x_282 ls frL_46 efl0_46 (rg_w r_271 (by decide) (by decide)) ry2_46 (rg_w rx_282 (by decide) (by decide)) hi0_46 hi1_46 (by have h1 := qx_282; have h2 := r_7.1; have h3 := r_7.2; have h4 := hm_46; omega) (lv_sub hl [5, 6, 7, 8, 2, 1, 3, 0] rfl) hv hH hS
            · rw [if_pos c_276] at hv
              have r_283 : rgI (0) (0) x_275 := rg_w (rg_eq rl_0 c_276) (by decide) (by decide)
              refine lv_aload_n hx hb dX12_sheet_106 rfl (lv_at hl 1 rfl) ?_
              refine hg_get hx hb hG igX12 hown hK o_c_8 rfl 0 (by decide) (hG _ mw_1284) rfl dX12_sheet_107 ?_
              refine lv_bipush (v := 72) hx hb dX12_sheet_110 (by decide) ?_
              refine lv_iload hx hb dX12_sheet_112 (lv_at hl 8 rfl) ?_
              refine lv_iadd hx hb dX12_sheet_114 ?_
              refine lv_topi (fun x_284 ex_284 => ?_)
              try rw [← ex_284] at hv
              have rx_284 : rgI (72) (95) x_284 := by rw [ex_284]; exact rg_w (rg_add rl_72 r_7 (by decide) (by decide)) (by decide) (by decide)
              refine hg_iald hx hb hK o_c_274 (rg_in (n := 122) rx_284 (by decide) (by decide)) dX12_sheet_115 ?_
              rw [efl0_46]
              refine lv_topi (fun x_285 ex_285 => ?_)
              try rw [← ex_285] at hv
              refine lv_if_ne (tgt := 150) hx hb dX12_sheet_116 (by decide) (fun c_286 => ?_) (fun c_286 => ?_)
              · rw [if_neg c_286] at hv
                refine lv_iload hx hb dX12_sheet_150 (lv_at hl 7 rfl) ?_
                refine lv_aload_n hx hb dX12_sheet_152 rfl (lv_at hl 1 rfl) ?_
                refine hg_get hx hb hG igX12 hown hK o_c_8 rfl 0 (by decide) (hG _ mw_1284) rfl dX12_sheet_153 ?_
                refine lv_bipush (v := 96) hx hb dX12_sheet_156 (by decide) ?_
                refine lv_iload hx hb dX12_sheet_158 (lv_at hl 8 rfl) ?_
                refine lv_iadd hx hb dX12_sheet_160 ?_
                refine lv_topi (fun x_287 ex_287 => ?_)
                try rw [← ex_287] at hv
                have rx_287 : rgI (96) (119) x_287 := by rw [ex_287]; exact rg_w (rg_add rl_96 r_7 (by decide) (by decide)) (by decide) (by decide)
                refine hg_iald hx hb hK o_c_274 (rg_in (n := 122) rx_287 (by decide) (by decide)) dX12_sheet_161 ?_
                rw [efl0_46]
                refine lv_topi (fun x_288 ex_288 => ?_)
                try rw [← ex_288] at hv
                refine lv_iadd hx hb dX12_sheet_162 ?_
                refine lv_topi (fun x_289 ex_289 => ?_)
                try rw [← ex_289] at hv
                refine lv_istore (lv' := [(7, .int x_289), (9, .int x_272), (0, .ref h0), (1, .int a0), (2, .int a1), (4, .int a3), (5, .int y5_46), (6, .int y6_46), (8, .int y8_46)]) hx hb dX12_sheet_163 hl (by decide) rfl (fun ls hl => ?_)
                refine lv_iload hx hb dX12_sheet_165 (lv_at hl 6 rfl) ?_
                refine lv_iload hx hb dX12_sheet_167 (lv_at hl 5 rfl) ?_
                refine lv_iadd hx hb dX12_sheet_169 ?_
                refine lv_topi (fun x_290 ex_290 => ?_)
                try rw [← ex_290] at hv
                refine lv_istore (lv' := [(5, .int x_290), (7, .int x_289), (9, .int x_272), (0, .ref h0), (1, .int a0), (2, .int a1), (4, .int a3), (6, .int y6_46), (8, .int y8_46)]) hx hb dX12_sheet_170 hl (by decide) rfl (fun ls hl => ?_)
                obtain ⟨x_291, ex_291⟩ : ∃ y : Int32, y = y6_46 + 1 := ⟨_, rfl⟩
                try rw [← ex_291] at hv
                refine lv_iinc (v := x_291) (lv' := [(6, .int x_291), (5, .int x_290), (7, .int x_289), (9, .int x_272), (0, .ref h0), (1, .int a0), (2, .int a1), (4, .int a3), (8, .int y8_46)]) hx hb dX12_sheet_172 hl (k := 7) rfl (by rw [ex_291]; rfl) (by decide) rfl (fun ls hl => ?_)
                obtain ⟨x_292, ex_292⟩ : ∃ y : Int32, y = y8_46 + 1 := ⟨_, rfl⟩
                try rw [← ex_292] at hv
                have rx_292 : rgI (1) (24) x_292 := by rw [ex_292]; exact rg_w (rg_add r_7 rl_1 (by decide) (by decide)) (by decide) (by decide)
                have qx_292 : x_292.toInt = (y8_46 : Int32).toInt + 1 := by rw [ex_292]; exact rg_addE r_7 rl_1 (by decide) (by decide)
                refine lv_iinc (v := x_292) (lv' := [(8, .int x_292), (6, .int x_291), (5, .int x_290), (7, .int x_289), (9, .int x_272), (0, .ref h0), (1, .int a0), (2, .int a1), (4, .int a3)]) hx hb dX12_sheet_175 hl (k := 8) rfl (by rw [ex_292]; rfl) (by decide) rfl (fun ls hl => ?_)
                refine lv_goto (tgt := 46) hx hb dX12_sheet_178 (by decide) ?_
                exact ih_46 H locs G_46 fl0_46 x_290 x_291 x_289 x_292 ls frL_46 efl0_46 (rg_w r_271 (by decide) (by decide)) ry2_46 (rg_w rx_292 (by decide) (by decide)) hi0_46 hi1_46 (by have h1 := qx_292; have h2 := r_7.1; have h3 := r_7.2; have h4 := hm_46; omega) (lv_sub hl [5, 6, 7, 8, 2, 1, 3, 0] rfl) hv hH hS
              · rw [if_pos c_286] at hv
                have r_293 : rgI (0) (0) x_285 := rg_w (rg_eq rl_0 c_286) (by decide) (by decide)
                refine lv_aload_n hx hb dX12_sheet_119 rfl (lv_at hl 1 rfl) ?_
                refine hg_get hx hb hG igX12 hown hK o_c_8 rfl 0 (by decide) (hG _ mw_1284) rfl dX12_sheet_120 ?_
                refine lv_bipush (v := 96) hx hb dX12_sheet_123 (by decide) ?_
                refine lv_iload hx hb dX12_sheet_125 (lv_at hl 8 rfl) ?_
                refine lv_iadd hx hb dX12_sheet_127 ?_
                refine lv_topi (fun x_294 ex_294 => ?_)
                try rw [← ex_294] at hv
                have rx_294 : rgI (96) (119) x_294 := by rw [ex_294]; exact rg_w (rg_add rl_96 r_7 (by decide) (by decide)) (by decide) (by decide)
                refine lv_iload_n hx hb dX12_sheet_128 rfl (lv_at hl 2 rfl) ?_
                refine lv_iconst (v := 3) hx hb dX12_sheet_129 (by decide) ?_
                refine lv_icmp_ge (tgt := 148) hx hb dX12_sheet_130 (by decide) (fun c_295 => ?_) (fun c_295 => ?_)
                · rw [if_pos c_295] at hv
                  exact rg_no2 rl_3 r_271 c_295 (by decide)
                · rw [if_neg c_295] at hv
                  refine lv_iload hx hb dX12_sheet_133 (lv_at hl 6 rfl) ?_
                  refine lv_iload_n hx hb dX12_sheet_135 rfl (lv_at hl 3 rfl) ?_
                  refine lv_icmp_ge (tgt := 148) hx hb dX12_sheet_136 (by decide) (fun c_296 => ?_) (fun c_296 => ?_)
                  · rw [if_pos c_296] at hv
                    refine lv_iconst (v := 0) hx hb dX12_sheet_148 (by decide) ?_
                    refine hg_iast hx hb hK hS o_c_274 (AF.of hk_10.1) (rg_in (n := 122) rx_294 (by decide) (by decide)) dX12_sheet_149 (fun H locs o_c_274 hz oq hS => ?_)
                    obtain ⟨G_297, eG_297⟩ : ∃ z : Gh, z = aset G_46 (g.2.2 100) (upd (G_46.2.1 (g.2.2 100)) (x_294 : Int32).toNatClampNeg 0) := ⟨_, rfl⟩
                    have hH : HT g Ty G_297 H := by rw [eG_297]; exact HT.putA (upd (G_46.2.1 (g.2.2 100)) (x_294 : Int32).toNatClampNeg 0) hH hk_10.1 cf30 o_c_274 oq
                    obtain ⟨f_298, ef_298⟩ : ∃ z : Nat → Int32, z = (upd fl0_46 (x_294 : Int32).toNatClampNeg 0) := ⟨_, rfl⟩
                    have eaf_298 : G_297 = aset G_46 (g.2.2 100) f_298 := by rw [eG_297, ef_298, efl0_46]
                    try rw [← ef_298] at hv
                    have fr_299 : FR [105] [(g.2.2 100)] [] G G_297 := FR.a frL_46 eaf_298 (fun b h => h.1)
                    have u_300 : G_297.1 102 = (G.1 102) := by rw [eaf_298]; exact (frL_46.1 102 (by decide))
                    have u_301 : G_297.1 104 = (G.1 104) := by rw [eaf_298]; exact (frL_46.1 104 (by decide))
                    have u_302 : G_297.1 113 = (G.1 113) := by rw [eaf_298]; exact (frL_46.1 113 (by decide))
                    have u_303 : G_297.1 122 = (G.1 122) := by rw [eaf_298]; exact (frL_46.1 122 (by decide))
                    have u_304 : G_297.1 133 = (G.1 133) := by rw [eaf_298]; exact (frL_46.1 133 (by decide))
                    have u_305 : G_297.1 137 = (G.1 137) := by rw [eaf_298]; exact (frL_46.1 137 (by decide))
                    have w_306 : G_297.2.1 (g.2.2 100) = f_298 := by rw [eaf_298]; exact aset_eq
                    have w_307 : G_297.2.1 (g.2.2 121) = (G.2.1 (g.2.2 121)) := by rw [eaf_298]; exact (aset_ne (ne_kd hmk.2.2.2.2.2.1 hmk.1 (by decide))).trans (frL_46.2.1 (g.2.2 121) ⟨(ne_kd hmk.2.2.2.2.2.1 hmk.1 (by decide)), trivial⟩)
                    have w_308 : G_297.2.1 (g.2.2 140) = (G.2.1 (g.2.2 140)) := by rw [eaf_298]; exact (aset_ne (ne_kd hmk.2.2.2.2.2.2.2.2.2.2.2.2.2.2.2.2.2.2.1 hmk.1 (by decide))).trans (frL_46.2.1 (g.2.2 140) ⟨(ne_kd hmk.2.2.2.2.2.2.2.2.2.2.2.2.2.2.2.2.2.2.1 hmk.1 (by decide)), trivial⟩)
                    have w_309 : G_297.2.1 (g.2.2 141) = (G.2.1 (g.2.2 141)) := by rw [eaf_298]; exact (aset_ne (ne_kd hmk.2.2.2.2.2.2.2.2.2.2.2.2.2.2.2.2.2.2.2.1 hmk.1 (by decide))).trans (frL_46.2.1 (g.2.2 141) ⟨(ne_kd hmk.2.2.2.2.2.2.2.2.2.2.2.2.2.2.2.2.2.2.2.1 hmk.1 (by decide)), trivial⟩)
                    have w_310 : G_297.2.1 (g.2.2 111) = (G.2.1 (g.2.2 111)) := by rw [eaf_298]; exact (aset_ne (ne_kd hmk.2.2.2.2.2.2.2.2.2.2.2.2.2.2.2.2.2.2.2.2.1 hmk.1 (by decide))).trans (frL_46.2.1 (g.2.2 111) ⟨(ne_kd hmk.2.2.2.2.2.2.2.2.2.2.2.2.2.2.2.2.2.2.2.2.1 hmk.1 (by decide)), trivial⟩)
                    have u_311 : G_297.2.2 111 = some (g.2.2 111) := by rw [eaf_298]; exact ((frL_46.2.2 111 (by decide)).trans hI.r111)
                    have u_312 : G_297.2.2 112 = some (g.2.2 112) := by rw [eaf_298]; exact ((frL_46.2.2 112 (by decide)).trans hI.r112)
                    clear oq hz
                    refine lv_iload hx hb dX12_sheet_150 (lv_at hl 7 rfl) ?_
                    refine lv_aload_n hx hb dX12_sheet_152 rfl (lv_at hl 1 rfl) ?_
                    obtain ⟨_, ⟨rfl, t_314, hk_315⟩, o_c_313⟩ := hH h0 _ k_h0
                    refine hg_get hx hb hG igX12 hown hK o_c_313 rfl 0 (by decide) (hG _ mw_1284) rfl dX12_sheet_153 ?_
                    refine lv_bipush (v := 96) hx hb dX12_sheet_156 (by decide) ?_
                    refine lv_iload hx hb dX12_sheet_158 (lv_at hl 8 rfl) ?_
                    refine lv_iadd hx hb dX12_sheet_160 ?_
                    refine lv_topi (fun x_316 ex_316 => ?_)
                    try rw [← ex_316] at hv
                    have rx_316 : rgI (96) (119) x_316 := by rw [ex_316]; exact rg_w (rg_add rl_96 r_7 (by decide) (by decide)) (by decide) (by decide)
                    have q_317 : x_294 = x_316 := ex_294.trans ex_316.symm
                    subst q_317
                    obtain ⟨_, rfl, o_c_318⟩ := hH (g.2.2 100) _ hk_315.1
                    have o_c_318 : va_at g.1 vwCl ((g.2.2 100), .inl (g.2.1 1, 122, .inl (G_297.2.1 (g.2.2 100)))) H := o_c_318
                    refine hg_iald hx hb hK o_c_318 (rg_in (n := 122) rx_316 (by decide) (by decide)) dX12_sheet_161 ?_
                    rw [w_306]
                    refine lv_topi (fun x_319 ex_319 => ?_)
                    try rw [← ex_319] at hv
                    refine lv_iadd hx hb dX12_sheet_162 ?_
                    refine lv_topi (fun x_320 ex_320 => ?_)
                    try rw [← ex_320] at hv
                    refine lv_istore (lv' := [(7, .int x_320), (9, .int x_272), (0, .ref h0), (1, .int a0), (2, .int a1), (4, .int a3), (5, .int y5_46), (6, .int y6_46), (8, .int y8_46)]) hx hb dX12_sheet_163 hl (by decide) rfl (fun ls hl => ?_)
                    refine lv_iload hx hb dX12_sheet_165 (lv_at hl 6 rfl) ?_
                    refine lv_iload hx hb dX12_sheet_167 (lv_at hl 5 rfl) ?_
                    refine lv_iadd hx hb dX12_sheet_169 ?_
                    refine lv_topi (fun x_321 ex_321 => ?_)
                    try rw [← ex_321] at hv
                    refine lv_istore (lv' := [(5, .int x_321), (7, .int x_320), (9, .int x_272), (0, .ref h0), (1, .int a0), (2, .int a1), (4, .int a3), (6, .int y6_46), (8, .int y8_46)]) hx hb dX12_sheet_170 hl (by decide) rfl (fun ls hl => ?_)
                    obtain ⟨x_322, ex_322⟩ : ∃ y : Int32, y = y6_46 + 1 := ⟨_, rfl⟩
                    try rw [← ex_322] at hv
                    refine lv_iinc (v := x_322) (lv' := [(6, .int x_322), (5, .int x_321), (7, .int x_320), (9, .int x_272), (0, .ref h0), (1, .int a0), (2, .int a1), (4, .int a3), (8, .int y8_46)]) hx hb dX12_sheet_172 hl (k := 7) rfl (by rw [ex_322]; rfl) (by decide) rfl (fun ls hl => ?_)
                    obtain ⟨x_323, ex_323⟩ : ∃ y : Int32, y = y8_46 + 1 := ⟨_, rfl⟩
                    try rw [← ex_323] at hv
                    have rx_323 : rgI (1) (24) x_323 := by rw [ex_323]; exact rg_w (rg_add r_7 rl_1 (by decide) (by decide)) (by decide) (by decide)
                    have qx_323 : x_323.toInt = (y8_46 : Int32).toInt + 1 := by rw [ex_323]; exact rg_addE r_7 rl_1 (by decide) (by decide)
                    refine lv_iinc (v := x_323) (lv' := [(8, .int x_323), (6, .int x_322), (5, .int x_321), (7, .int x_320), (9, .int x_272), (0, .ref h0), (1, .int a0), (2, .int a1), (4, .int a3)]) hx hb dX12_sheet_175 hl (k := 8) rfl (by rw [ex_323]; rfl) (by decide) rfl (fun ls hl => ?_)
                    refine lv_goto (tgt := 46) hx hb dX12_sheet_178 (by decide) ?_
                    exact ih_46 H locs G_297 f_298 x_321 x_322 x_320 x_323 ls fr_299 w_306 (rg_w r_271 (by decide) (by decide)) ry2_46 (rg_w rx_323 (by decide) (by decide)) (sh_s hi0_46 hi1_46 r_7 ex_294 (Or.inl rfl) ef_298).1 (sh_s hi0_46 hi1_46 r_7 ex_294 (Or.inl rfl) ef_298).2 (by have h1 := qx_323; have h2 := r_7.1; have h3 := r_7.2; have h4 := hm_46; omega) (lv_sub hl [5, 6, 7, 8, 2, 1, 3, 0] rfl) hv hH hS
                  · rw [if_neg c_296] at hv
                    have r_324 : rgI (-2147483648) (23) y6_46 := rg_w (rg_ltL (rg_top y6_46) ry2_46 (nle_lt c_296)) (by decide) (by decide)
                    have r_325 : rgI (-2147483647) (24) a1 := rg_w (rg_ltR (rg_top y6_46) ry2_46 (nle_lt c_296)) (by decide) (by decide)
                    refine lv_iload hx hb dX12_sheet_139 (lv_at hl 0 rfl) ?_
                    refine lv_if_le (tgt := 148) hx hb dX12_sheet_141 (by decide) (fun c_326 => ?_) (fun c_326 => ?_)
                    · rw [if_pos c_326] at hv
                      have r_327 : rgI (-2147483648) (0) x_272 := rg_w (rg_leL (rg_top x_272) rl_0 c_326) (by decide) (by decide)
                      refine lv_iconst (v := 0) hx hb dX12_sheet_148 (by decide) ?_
                      refine hg_iast hx hb hK hS o_c_274 (AF.of hk_10.1) (rg_in (n := 122) rx_294 (by decide) (by decide)) dX12_sheet_149 (fun H locs o_c_274 hz oq hS => ?_)
                      obtain ⟨G_328, eG_328⟩ : ∃ z : Gh, z = aset G_46 (g.2.2 100) (upd (G_46.2.1 (g.2.2 100)) (x_294 : Int32).toNatClampNeg 0) := ⟨_, rfl⟩
                      have hH : HT g Ty G_328 H := by rw [eG_328]; exact HT.putA (upd (G_46.2.1 (g.2.2 100)) (x_294 : Int32).toNatClampNeg 0) hH hk_10.1 cf30 o_c_274 oq
                      obtain ⟨f_329, ef_329⟩ : ∃ z : Nat → Int32, z = (upd fl0_46 (x_294 : Int32).toNatClampNeg 0) := ⟨_, rfl⟩
                      have eaf_329 : G_328 = aset G_46 (g.2.2 100) f_329 := by rw [eG_328, ef_329, efl0_46]
                      try rw [← ef_329] at hv
                      have fr_330 : FR [105] [(g.2.2 100)] [] G G_328 := FR.a frL_46 eaf_329 (fun b h => h.1)
                      have u_331 : G_328.1 102 = (G.1 102) := by rw [eaf_329]; exact (frL_46.1 102 (by decide))
                      have u_332 : G_328.1 104 = (G.1 104) := by rw [eaf_329]; exact (frL_46.1 104 (by decide))
                      have u_333 : G_328.1 113 = (G.1 113) := by rw [eaf_329]; exact (frL_46.1 113 (by decide))
                      have u_334 : G_328.1 122 = (G.1 122) := by rw [eaf_329]; exact (frL_46.1 122 (by decide))
                      have u_335 : G_328.1 133 = (G.1 133) := by rw [eaf_329]; exact (frL_46.1 133 (by decide))
                      have u_336 : G_328.1 137 = (G.1 137) := by rw [eaf_329]; exact (frL_46.1 137 (by decide))
                      have w_337 : G_328.2.1 (g.2.2 100) = f_329 := by rw [eaf_329]; exact aset_eq
                      have w_338 : G_328.2.1 (g.2.2 121) = (G.2.1 (g.2.2 121)) := by rw [eaf_329]; exact (aset_ne (ne_kd hmk.2.2.2.2.2.1 hmk.1 (by decide))).trans (frL_46.2.1 (g.2.2 121) ⟨(ne_kd hmk.2.2.2.2.2.1 hmk.1 (by decide)), trivial⟩)
                      have w_339 : G_328.2.1 (g.2.2 140) = (G.2.1 (g.2.2 140)) := by rw [eaf_329]; exact (aset_ne (ne_kd hmk.2.2.2.2.2.2.2.2.2.2.2.2.2.2.2.2.2.2.1 hmk.1 (by decide))).trans (frL_46.2.1 (g.2.2 140) ⟨(ne_kd hmk.2.2.2.2.2.2.2.2.2.2.2.2.2.2.2.2.2.2.1 hmk.1 (by decide)), trivial⟩)
                      have w_340 : G_328.2.1 (g.2.2 141) = (G.2.1 (g.2.2 141)) := by rw [eaf_329]; exact (aset_ne (ne_kd hmk.2.2.2.2.2.2.2.2.2.2.2.2.2.2.2.2.2.2.2.1 hmk.1 (by decide))).trans (frL_46.2.1 (g.2.2 141) ⟨(ne_kd hmk.2.2.2.2.2.2.2.2.2.2.2.2.2.2.2.2.2.2.2.1 hmk.1 (by decide)), trivial⟩)
                      have w_341 : G_328.2.1 (g.2.2 111) = (G.2.1 (g.2.2 111)) := by rw [eaf_329]; exact (aset_ne (ne_kd hmk.2.2.2.2.2.2.2.2.2.2.2.2.2.2.2.2.2.2.2.2.1 hmk.1 (by decide))).trans (frL_46.2.1 (g.2.2 111) ⟨(ne_kd hmk.2.2.2.2.2.2.2.2.2.2.2.2.2.2.2.2.2.2.2.2.1 hmk.1 (by decide)), trivial⟩)
                      have u_342 : G_328.2.2 111 = some (g.2.2 111) := by rw [eaf_329]; exact ((frL_46.2.2 111 (by decide)).trans hI.r111)
                      have u_343 : G_328.2.2 112 = some (g.2.2 112) := by rw [eaf_329]; exact ((frL_46.2.2 112 (by decide)).trans hI.r112)
                      clear oq hz
                      refine lv_iload hx hb dX12_sheet_150 (lv_at hl 7 rfl) ?_
                      refine lv_aload_n hx hb dX12_sheet_152 rfl (lv_at hl 1 rfl) ?_
                      obtain ⟨_, ⟨rfl, t_345, hk_346⟩, o_c_344⟩ := hH h0 _ k_h0
                      refine hg_get hx hb hG igX12 hown hK o_c_344 rfl 0 (by decide) (hG _ mw_1284) rfl dX12_sheet_153 ?_
                      refine lv_bipush (v := 96) hx hb dX12_sheet_156 (by decide) ?_
                      refine lv_iload hx hb dX12_sheet_158 (lv_at hl 8 rfl) ?_
                      refine lv_iadd hx hb dX12_sheet_160 ?_
                      refine lv_topi (fun x_347 ex_347 => ?_)
                      try rw [← ex_347] at hv
                      have rx_347 : rgI (96) (119) x_347 := by rw [ex_347]; exact rg_w (rg_add rl_96 r_7 (by decide) (by decide)) (by decide) (by decide)
                      have q_348 : x_294 = x_347 := ex_294.trans ex_347.symm
                      subst q_348
                      obtain ⟨_, rfl, o_c_349⟩ := hH (g.2.2 100) _ hk_346.1
                      have o_c_349 : va_at g.1 vwCl ((g.2.2 100), .inl (g.2.1 1, 122, .inl (G_328.2.1 (g.2.2 100)))) H := o_c_349
                      refine hg_iald hx hb hK o_c_349 (rg_in (n := 122) rx_347 (by decide) (by decide)) dX12_sheet_161 ?_
                      rw [w_337]
                      refine lv_topi (fun x_350 ex_350 => ?_)
                      try rw [← ex_350] at hv
                      refine lv_iadd hx hb dX12_sheet_162 ?_
                      refine lv_topi (fun x_351 ex_351 => ?_)
                      try rw [← ex_351] at hv
                      refine lv_istore (lv' := [(7, .int x_351), (9, .int x_272), (0, .ref h0), (1, .int a0), (2, .int a1), (4, .int a3), (5, .int y5_46), (6, .int y6_46), (8, .int y8_46)]) hx hb dX12_sheet_163 hl (by decide) rfl (fun ls hl => ?_)
                      refine lv_iload hx hb dX12_sheet_165 (lv_at hl 6 rfl) ?_
                      refine lv_iload hx hb dX12_sheet_167 (lv_at hl 5 rfl) ?_
                      refine lv_iadd hx hb dX12_sheet_169 ?_
                      refine lv_topi (fun x_352 ex_352 => ?_)
                      try rw [← ex_352] at hv
                      refine lv_istore (lv' := [(5, .int x_352), (7, .int x_351), (9, .int x_272), (0, .ref h0), (1, .int a0), (2, .int a1), (4, .int a3), (6, .int y6_46), (8, .int y8_46)]) hx hb dX12_sheet_170 hl (by decide) rfl (fun ls hl => ?_)
                      obtain ⟨x_353, ex_353⟩ : ∃ y : Int32, y = y6_46 + 1 := ⟨_, rfl⟩
                      try rw [← ex_353] at hv
                      have rx_353 : rgI (-2147483647) (24) x_353 := by rw [ex_353]; exact rg_w (rg_add r_324 rl_1 (by decide) (by decide)) (by decide) (by decide)
                      have qx_353 : x_353.toInt = (y6_46 : Int32).toInt + 1 := by rw [ex_353]; exact rg_addE r_324 rl_1 (by decide) (by decide)
                      refine lv_iinc (v := x_353) (lv' := [(6, .int x_353), (5, .int x_352), (7, .int x_351), (9, .int x_272), (0, .ref h0), (1, .int a0), (2, .int a1), (4, .int a3), (8, .int y8_46)]) hx hb dX12_sheet_172 hl (k := 7) rfl (by rw [ex_353]; rfl) (by decide) rfl (fun ls hl => ?_)
                      obtain ⟨x_354, ex_354⟩ : ∃ y : Int32, y = y8_46 + 1 := ⟨_, rfl⟩
                      try rw [← ex_354] at hv
                      have rx_354 : rgI (1) (24) x_354 := by rw [ex_354]; exact rg_w (rg_add r_7 rl_1 (by decide) (by decide)) (by decide) (by decide)
                      have qx_354 : x_354.toInt = (y8_46 : Int32).toInt + 1 := by rw [ex_354]; exact rg_addE r_7 rl_1 (by decide) (by decide)
                      refine lv_iinc (v := x_354) (lv' := [(8, .int x_354), (6, .int x_353), (5, .int x_352), (7, .int x_351), (9, .int x_272), (0, .ref h0), (1, .int a0), (2, .int a1), (4, .int a3)]) hx hb dX12_sheet_175 hl (k := 8) rfl (by rw [ex_354]; rfl) (by decide) rfl (fun ls hl => ?_)
                      refine lv_goto (tgt := 46) hx hb dX12_sheet_178 (by decide) ?_
                      exact ih_46 H locs G_328 f_329 x_352 x_353 x_351 x_354 ls fr_330 w_337 (rg_w r_271 (by decide) (by decide)) (rg_w r_325 (by decide) (by decide)) (rg_w rx_354 (by decide) (by decide)) (sh_s hi0_46 hi1_46 r_7 ex_294 (Or.inl rfl) ef_329).1 (sh_s hi0_46 hi1_46 r_7 ex_294 (Or.inl rfl) ef_329).2 (by have h1 := qx_354; have h2 := r_7.1; have h3 := r_7.2; have h4 := hm_46; omega) (lv_sub hl [5, 6, 7, 8, 2, 1, 3, 0] rfl) hv hH hS
                    · rw [if_neg c_326] at hv
                      have r_355 : rgI (1) (2147483647) x_272 := rg_w (rg_ltR rl_0 (rg_top x_272) (nle_lt c_326)) (by decide) (by decide)
                      refine lv_iconst (v := 1) hx hb dX12_sheet_144 (by decide) ?_
                      refine lv_goto (tgt := 149) hx hb dX12_sheet_145 (by decide) ?_
                      refine hg_iast hx hb hK hS o_c_274 (AF.of hk_10.1) (rg_in (n := 122) rx_294 (by decide) (by decide)) dX12_sheet_149 (fun H locs o_c_274 hz oq hS => ?_)
                      obtain ⟨G_356, eG_356⟩ : ∃ z : Gh, z = aset G_46 (g.2.2 100) (upd (G_46.2.1 (g.2.2 100)) (x_294 : Int32).toNatClampNeg 1) := ⟨_, rfl⟩
                      have hH : HT g Ty G_356 H := by rw [eG_356]; exact HT.putA (upd (G_46.2.1 (g.2.2 100)) (x_294 : Int32).toNatClampNeg 1) hH hk_10.1 cf30 o_c_274 oq
                      obtain ⟨f_357, ef_357⟩ : ∃ z : Nat → Int32, z = (upd fl0_46 (x_294 : Int32).toNatClampNeg 1) := ⟨_, rfl⟩
                      have eaf_357 : G_356 = aset G_46 (g.2.2 100) f_357 := by rw [eG_356, ef_357, efl0_46]
                      try rw [← ef_357] at hv
                      have fr_358 : FR [105] [(g.2.2 100)] [] G G_356 := FR.a frL_46 eaf_357 (fun b h => h.1)
                      have u_359 : G_356.1 102 = (G.1 102) := by rw [eaf_357]; exact (frL_46.1 102 (by decide))
                      have u_360 : G_356.1 104 = (G.1 104) := by rw [eaf_357]; exact (frL_46.1 104 (by decide))
                      have u_361 : G_356.1 113 = (G.1 113) := by rw [eaf_357]; exact (frL_46.1 113 (by decide))
                      have u_362 : G_356.1 122 = (G.1 122) := by rw [eaf_357]; exact (frL_46.1 122 (by decide))
                      have u_363 : G_356.1 133 = (G.1 133) := by rw [eaf_357]; exact (frL_46.1 133 (by decide))
                      have u_364 : G_356.1 137 = (G.1 137) := by rw [eaf_357]; exact (frL_46.1 137 (by decide))
                      have w_365 : G_356.2.1 (g.2.2 100) = f_357 := by rw [eaf_357]; exact aset_eq
                      have w_366 : G_356.2.1 (g.2.2 121) = (G.2.1 (g.2.2 121)) := by rw [eaf_357]; exact (aset_ne (ne_kd hmk.2.2.2.2.2.1 hmk.1 (by decide))).trans (frL_46.2.1 (g.2.2 121) ⟨(ne_kd hmk.2.2.2.2.2.1 hmk.1 (by decide)), trivial⟩)
                      have w_367 : G_356.2.1 (g.2.2 140) = (G.2.1 (g.2.2 140)) := by rw [eaf_357]; exact (aset_ne (ne_kd hmk.2.2.2.2.2.2.2.2.2.2.2.2.2.2.2.2.2.2.1 hmk.1 (by decide))).trans (frL_46.2.1 (g.2.2 140) ⟨(ne_kd hmk.2.2.2.2.2.2.2.2.2.2.2.2.2.2.2.2.2.2.1 hmk.1 (by decide)), trivial⟩)
                      have w_368 : G_356.2.1 (g.2.2 141) = (G.2.1 (g.2.2 141)) := by rw [eaf_357]; exact (aset_ne (ne_kd hmk.2.2.2.2.2.2.2.2.2.2.2.2.2.2.2.2.2.2.2.1 hmk.1 (by decide))).trans (frL_46.2.1 (g.2.2 141) ⟨(ne_kd hmk.2.2.2.2.2.2.2.2.2.2.2.2.2.2.2.2.2.2.2.1 hmk.1 (by decide)), trivial⟩)
                      have w_369 : G_356.2.1 (g.2.2 111) = (G.2.1 (g.2.2 111)) := by rw [eaf_357]; exact (aset_ne (ne_kd hmk.2.2.2.2.2.2.2.2.2.2.2.2.2.2.2.2.2.2.2.2.1 hmk.1 (by decide))).trans (frL_46.2.1 (g.2.2 111) ⟨(ne_kd hmk.2.2.2.2.2.2.2.2.2.2.2.2.2.2.2.2.2.2.2.2.1 hmk.1 (by decide)), trivial⟩)
                      have u_370 : G_356.2.2 111 = some (g.2.2 111) := by rw [eaf_357]; exact ((frL_46.2.2 111 (by decide)).trans hI.r111)
                      have u_371 : G_356.2.2 112 = some (g.2.2 112) := by rw [eaf_357]; exact ((frL_46.2.2 112 (by decide)).trans hI.r112)
                      clear oq hz
                      refine lv_iload hx hb dX12_sheet_150 (lv_at hl 7 rfl) ?_
                      refine lv_aload_n hx hb dX12_sheet_152 rfl (lv_at hl 1 rfl) ?_
                      obtain ⟨_, ⟨rfl, t_373, hk_374⟩, o_c_372⟩ := hH h0 _ k_h0
                      refine hg_get hx hb hG igX12 hown hK o_c_372 rfl 0 (by decide) (hG _ mw_1284) rfl dX12_sheet_153 ?_
                      refine lv_bipush (v := 96) hx hb dX12_sheet_156 (by decide) ?_
                      refine lv_iload hx hb dX12_sheet_158 (lv_at hl 8 rfl) ?_
                      refine lv_iadd hx hb dX12_sheet_160 ?_
                      refine lv_topi (fun x_375 ex_375 => ?_)
                      try rw [← ex_375] at hv
                      have rx_375 : rgI (96) (119) x_375 := by rw [ex_375]; exact rg_w (rg_add rl_96 r_7 (by decide) (by decide)) (by decide) (by decide)
                      have q_376 : x_294 = x_375 := ex_294.trans ex_375.symm
                      subst q_376
                      obtain ⟨_, rfl, o_c_377⟩ := hH (g.2.2 100) _ hk_374.1
                      have o_c_377 : va_at g.1 vwCl ((g.2.2 100), .inl (g.2.1 1, 122, .inl (G_356.2.1 (g.2.2 100)))) H := o_c_377
                      refine hg_iald hx hb hK o_c_377 (rg_in (n := 122) rx_375 (by decide) (by decide)) dX12_sheet_161 ?_
                      rw [w_365]
                      refine lv_topi (fun x_378 ex_378 => ?_)
                      try rw [← ex_378] at hv
                      refine lv_iadd hx hb dX12_sheet_162 ?_
                      refine lv_topi (fun x_379 ex_379 => ?_)
                      try rw [← ex_379] at hv
                      refine lv_istore (lv' := [(7, .int x_379), (9, .int x_272), (0, .ref h0), (1, .int a0), (2, .int a1), (4, .int a3), (5, .int y5_46), (6, .int y6_46), (8, .int y8_46)]) hx hb dX12_sheet_163 hl (by decide) rfl (fun ls hl => ?_)
                      refine lv_iload hx hb dX12_sheet_165 (lv_at hl 6 rfl) ?_
                      refine lv_iload hx hb dX12_sheet_167 (lv_at hl 5 rfl) ?_
                      refine lv_iadd hx hb dX12_sheet_169 ?_
                      refine lv_topi (fun x_380 ex_380 => ?_)
                      try rw [← ex_380] at hv
                      refine lv_istore (lv' := [(5, .int x_380), (7, .int x_379), (9, .int x_272), (0, .ref h0), (1, .int a0), (2, .int a1), (4, .int a3), (6, .int y6_46), (8, .int y8_46)]) hx hb dX12_sheet_170 hl (by decide) rfl (fun ls hl => ?_)
                      obtain ⟨x_381, ex_381⟩ : ∃ y : Int32, y = y6_46 + 1 := ⟨_, rfl⟩
                      try rw [← ex_381] at hv
                      have rx_381 : rgI (-2147483647) (24) x_381 := by rw [ex_381]; exact rg_w (rg_add r_324 rl_1 (by decide) (by decide)) (by decide) (by decide)
                      have qx_381 : x_381.toInt = (y6_46 : Int32).toInt + 1 := by rw [ex_381]; exact rg_addE r_324 rl_1 (by decide) (by decide)
                      refine lv_iinc (v := x_381) (lv' := [(6, .int x_381), (5, .int x_380), (7, .int x_379), (9, .int x_272), (0, .ref h0), (1, .int a0), (2, .int a1), (4, .int a3), (8, .int y8_46)]) hx hb dX12_sheet_172 hl (k := 7) rfl (by rw [ex_381]; rfl) (by decide) rfl (fun ls hl => ?_)
                      obtain ⟨x_382, ex_382⟩ : ∃ y : Int32, y = y8_46 + 1 := ⟨_, rfl⟩
                      try rw [← ex_382] at hv
                      have rx_382 : rgI (1) (24) x_382 := by rw [ex_382]; exact rg_w (rg_add r_7 rl_1 (by decide) (by decide)) (by decide) (by decide)
                      have qx_382 : x_382.toInt = (y8_46 : Int32).toInt + 1 := by rw [ex_382]; exact rg_addE r_7 rl_1 (by decide) (by decide)
                      refine lv_iinc (v := x_382) (lv' := [(8, .int x_382), (6, .int x_381), (5, .int x_380), (7, .int x_379), (9, .int x_272), (0, .ref h0), (1, .int a0), (2, .int a1), (4, .int a3)]) hx hb dX12_sheet_175 hl (k := 8) rfl (by rw [ex_382]; rfl) (by decide) rfl (fun ls hl => ?_)
                      refine lv_goto (tgt := 46) hx hb dX12_sheet_178 (by decide) ?_
                      exact ih_46 H locs G_356 f_357 x_380 x_381 x_379 x_382 ls fr_358 w_365 (rg_w r_271 (by decide) (by decide)) (rg_w r_325 (by decide) (by decide)) (rg_w rx_382 (by decide) (by decide)) (sh_s hi0_46 hi1_46 r_7 ex_294 (Or.inr rfl) ef_357).1 (sh_s hi0_46 hi1_46 r_7 ex_294 (Or.inr rfl) ef_357).2 (by have h1 := qx_382; have h2 := r_7.1; have h3 := r_7.2; have h4 := hm_46; omega) (lv_sub hl [5, 6, 7, 8, 2, 1, 3, 0] rfl) hv hH hS
        · rw [if_pos c_13] at hv
          have r_383 : rgI (0) (0) x_11 := rg_w (rg_eq rl_0 c_13) (by decide) (by decide)
          refine lv_goto (tgt := 175) hx hb dX12_sheet_65 (by decide) ?_
          obtain ⟨x_384, ex_384⟩ : ∃ y : Int32, y = y8_46 + 1 := ⟨_, rfl⟩
          try rw [← ex_384] at hv
          have rx_384 : rgI (1) (24) x_384 := by rw [ex_384]; exact rg_w (rg_add r_7 rl_1 (by decide) (by decide)) (by decide) (by decide)
          have qx_384 : x_384.toInt = (y8_46 : Int32).toInt + 1 := by rw [ex_384]; exact rg_addE r_7 rl_1 (by decide) (by decide)
          refine lv_iinc (v := x_384) (lv' := [(8, .int x_384), (0, .ref h0), (1, .int a0), (2, .int a1), (4, .int a3), (5, .int y5_46), (6, .int y6_46), (7, .int y7_46)]) hx hb dX12_sheet_175 hl (k := 7) rfl (by rw [ex_384]; rfl) (by decide) rfl (fun ls hl => ?_)
          refine lv_goto (tgt := 46) hx hb dX12_sheet_178 (by decide) ?_
          exact ih_46 H locs G_46 fl0_46 y5_46 y6_46 y7_46 x_384 ls frL_46 efl0_46 ry1_46 ry2_46 (rg_w rx_384 (by decide) (by decide)) hi0_46 hi1_46 (by have h1 := qx_384; have h2 := r_7.1; have h3 := r_7.2; have h4 := hm_46; omega) (lv_sub hl [1, 2, 3, 4, 5, 6, 7, 0] rfl) hv hH hS
  refine lv_aload_n hx hb dX12_sheet_0 rfl (lv_at hl 0 rfl) ?_
  refine lv_iconst (v := 0) hx hb dX12_sheet_1 (by decide) ?_
  obtain ⟨_, ⟨rfl, t_386, hk_387⟩, o_c_385⟩ := hH h0 _ k_h0
  refine hg_put (ty := .int) hx hb hG igX12 tyX12 tyX12_ok nmX12 hown hK hS o_c_385 (AF.of k_h0) rfl 5 (by decide) (hG _ mw_1289) rfl (by decide +kernel) rfl rfl (Nat.le_of_ble_eq_true rfl) dX12_sheet_2 (fun H locs o_c_385 hz oq hS => ?_)
  obtain ⟨G_388, eG_388⟩ : ∃ z : Gh, z = gset G 105 0 := ⟨_, rfl⟩
  have hH : HT g Ty G_388 H := by rw [eG_388]; exact HT.putN 105 0 hH k_h0 ⟨rfl, t_386, hk_387⟩ o_c_385 oq (Or.inr (Or.inr (Or.inr (Or.inr (Or.inr ⟨by decide, t_386⟩)))))
  have fr_389 : FR [105] [(g.2.2 100)] [] G G_388 := FR.n FR.rf eG_388 (by decide)
  have u_390 : G_388.1 102 = (G.1 102) := by rw [eG_388]; exact (gs_ne (by decide))
  have u_391 : G_388.1 104 = (G.1 104) := by rw [eG_388]; exact (gs_ne (by decide))
  have u_392 : G_388.1 113 = (G.1 113) := by rw [eG_388]; exact (gs_ne (by decide))
  have u_393 : G_388.1 122 = (G.1 122) := by rw [eG_388]; exact (gs_ne (by decide))
  have u_394 : G_388.1 133 = (G.1 133) := by rw [eG_388]; exact (gs_ne (by decide))
  have u_395 : G_388.1 137 = (G.1 137) := by rw [eG_388]; exact (gs_ne (by decide))
  have u_396 : G_388.1 105 = 0 := by rw [eG_388]; exact gs_eq
  have w_397 : G_388.2.1 (g.2.2 100) = (G.2.1 (g.2.2 100)) := by rw [eG_388]; exact rfl
  have w_398 : G_388.2.1 (g.2.2 121) = (G.2.1 (g.2.2 121)) := by rw [eG_388]; exact rfl
  have w_399 : G_388.2.1 (g.2.2 140) = (G.2.1 (g.2.2 140)) := by rw [eG_388]; exact rfl
  have w_400 : G_388.2.1 (g.2.2 141) = (G.2.1 (g.2.2 141)) := by rw [eG_388]; exact rfl
  have w_401 : G_388.2.1 (g.2.2 111) = (G.2.1 (g.2.2 111)) := by rw [eG_388]; exact rfl
  have u_402 : G_388.2.2 111 = some (g.2.2 111) := by rw [eG_388]; exact hI.r111
  have u_403 : G_388.2.2 112 = some (g.2.2 112) := by rw [eG_388]; exact hI.r112
  clear oq hz
  refine lv_iload_n hx hb dX12_sheet_5 rfl (lv_at hl 1 rfl) ?_
  refine lv_iconst (v := 0) hx hb dX12_sheet_6 (by decide) ?_
  refine lv_iconst (v := 3) hx hb dX12_sheet_7 (by decide) ?_
  refine vp_callSi (W.runS (As := [.int a0, .int 0, .int 3]) (rest := []) ⟨hx, hb, hml, hown, hts⟩ (c_X12_in l g Ty G_388 a0 0 3 ) (cwSx 3 hts hG (gwC mw_1426) mw_88 mw_1424 mw_1425 rfl rfl rfl hd_X12_in ⟨Nat.le_of_ble_eq_true rfl, Nat.le_of_ble_eq_true rfl⟩) ⟨PcH_blind, PcH_pre hK hH⟩ rfl rfl hl.1 rfl (lv_room (Nat.le_of_ble_eq_true rfl)) dX12_sheet_8 ⟨Nat.zero_le _, Nat.zero_le _⟩) (fun x_404 hx_404 => ?_)
  have rx_404 : rgI (0) (1) x_404 := hx_404.1
  try rw [← hx_404.2.2] at hv
  try rw [← hx_404.2.2] at hv
  refine lv_if_eq (tgt := 20) hx hb dX12_sheet_11 (by decide) (fun c_405 => ?_) (fun c_405 => ?_)
  · rw [if_pos c_405] at hv
    have r_406 : rgI (0) (0) x_404 := rg_w (rg_eq rl_0 c_405) (by decide) (by decide)
    refine lv_iconst (v := (-1)) hx hb dX12_sheet_20 (by decide) ?_
    exact W.iret hx hb hr (fun t ht hWm => ⟨⟨(-1), (Ty, G_388), rfl, ⟨rfl, ⟨fr_389, ⟨⟨(by rw [u_390]; exact (rg_w hI.a102 (by decide) (by decide))), (by rw [u_391]; exact (rg_w hI.a104 (by decide) (by decide))), (by rw [u_392]; exact (rg_w hI.a113 (by decide) (by decide))), (by rw [u_393]; exact (rg_w hI.a122 (by decide) (by decide))), (by rw [u_394]; exact (rg_w hI.a133 (by decide) (by decide))), (by rw [u_395]; exact (rg_w hI.a137 (by decide) (by decide))), u_402, u_403, (by rw [w_397]; exact (hI.ti.hi (show Bd ≤ Bd + 1000 by omega))), (hI.un2 (show Bd ≤ Bd + 1000 by omega) w_398 u_393), (hI.ke2 (show Bd ≤ Bd + 1000 by omega) w_399 w_400)⟩, hv.symm.trans (by rw [w_397])⟩⟩⟩, by show HT g Ty G_388 t.heap; rw [ht]; exact hH⟩, hS.F ht⟩) hS.2.2 dX12_sheet_21
  · rw [if_neg c_405] at hv
    have r_407 : rgI (1) (1) x_404 := rg_w (rg_neL rx_404 rl_0 c_405) (by decide) (by decide)
    have r_408 : rgI (0) (3) a0 := rg_w (in_rng hx_404.2.1 c_405 rl_0 rl_3) (by decide) (by decide)
    refine lv_iload_n hx hb dX12_sheet_14 rfl (lv_at hl 2 rfl) ?_
    refine lv_bipush (v := 24) hx hb dX12_sheet_15 (by decide) ?_
    refine lv_icmp_le (tgt := 22) hx hb dX12_sheet_17 (by decide) (fun c_409 => ?_) (fun c_409 => ?_)
    · rw [if_pos c_409] at hv
      have r_410 : rgI (-2147483648) (24) a1 := rg_w (rg_leL (rg_top a1) rl_24 c_409) (by decide) (by decide)
      refine lv_iload_n hx hb dX12_sheet_22 rfl (lv_at hl 1 rfl) ?_
      refine lv_iconst (v := 3) hx hb dX12_sheet_23 (by decide) ?_
      refine lv_icmp_ge (tgt := 34) hx hb dX12_sheet_24 (by decide) (fun c_411 => ?_) (fun c_411 => ?_)
      · rw [if_pos c_411] at hv
        have r_412 : rgI (3) (3) a0 := rg_w (rg_leR rl_3 r_408 c_411) (by decide) (by decide)
        refine lv_iload_n hx hb dX12_sheet_34 rfl (lv_at hl 3 rfl) ?_
        refine lv_istore (lv' := [(5, .int a2), (0, .ref h0), (1, .int a0), (2, .int a1), (3, .int a2), (4, .int a3)]) hx hb dX12_sheet_35 hl (by decide) rfl (fun ls hl => ?_)
        refine lv_iconst (v := 0) hx hb dX12_sheet_37 (by decide) ?_
        refine lv_istore (lv' := [(6, .int 0), (5, .int a2), (0, .ref h0), (1, .int a0), (2, .int a1), (3, .int a2), (4, .int a3)]) hx hb dX12_sheet_38 hl (by decide) rfl (fun ls hl => ?_)
        refine lv_iconst (v := 0) hx hb dX12_sheet_40 (by decide) ?_
        refine lv_istore (lv' := [(7, .int 0), (6, .int 0), (5, .int a2), (0, .ref h0), (1, .int a0), (2, .int a1), (3, .int a2), (4, .int a3)]) hx hb dX12_sheet_41 hl (by decide) rfl (fun ls hl => ?_)
        refine lv_iconst (v := 0) hx hb dX12_sheet_43 (by decide) ?_
        refine lv_istore (lv' := [(8, .int 0), (7, .int 0), (6, .int 0), (5, .int a2), (0, .ref h0), (1, .int a0), (2, .int a1), (3, .int a2), (4, .int a3)]) hx hb dX12_sheet_44 hl (by decide) rfl (fun ls hl => ?_)
        exact L_46 26 H locs G_388 (G.2.1 (g.2.2 100)) a2 0 0 0 ls fr_389 w_397 (rg_w r_412 (by decide) (by decide)) r_410 (rg_w rl_0 (by decide) (by decide)) (fun _ _ => rfl) hTS0.2.2.2.1 (by decide) (lv_sub hl [4, 5, 6, 8, 3, 2, 1, 0] rfl) hv hH hS
      · rw [if_neg c_411] at hv
        have r_413 : rgI (0) (2) a0 := rg_w (rg_ltL r_408 rl_3 (nle_lt c_411)) (by decide) (by decide)
        refine lv_iload_n hx hb dX12_sheet_27 rfl (lv_at hl 2 rfl) ?_
        refine lv_if_ge (tgt := 34) hx hb dX12_sheet_28 (by decide) (fun c_414 => ?_) (fun c_414 => ?_)
        · rw [if_pos c_414] at hv
          have r_415 : rgI (0) (24) a1 := rg_w (rg_leR rl_0 r_410 c_414) (by decide) (by decide)
          refine lv_iload_n hx hb dX12_sheet_34 rfl (lv_at hl 3 rfl) ?_
          refine lv_istore (lv' := [(5, .int a2), (0, .ref h0), (1, .int a0), (2, .int a1), (3, .int a2), (4, .int a3)]) hx hb dX12_sheet_35 hl (by decide) rfl (fun ls hl => ?_)
          refine lv_iconst (v := 0) hx hb dX12_sheet_37 (by decide) ?_
          refine lv_istore (lv' := [(6, .int 0), (5, .int a2), (0, .ref h0), (1, .int a0), (2, .int a1), (3, .int a2), (4, .int a3)]) hx hb dX12_sheet_38 hl (by decide) rfl (fun ls hl => ?_)
          refine lv_iconst (v := 0) hx hb dX12_sheet_40 (by decide) ?_
          refine lv_istore (lv' := [(7, .int 0), (6, .int 0), (5, .int a2), (0, .ref h0), (1, .int a0), (2, .int a1), (3, .int a2), (4, .int a3)]) hx hb dX12_sheet_41 hl (by decide) rfl (fun ls hl => ?_)
          refine lv_iconst (v := 0) hx hb dX12_sheet_43 (by decide) ?_
          refine lv_istore (lv' := [(8, .int 0), (7, .int 0), (6, .int 0), (5, .int a2), (0, .ref h0), (1, .int a0), (2, .int a1), (3, .int a2), (4, .int a3)]) hx hb dX12_sheet_44 hl (by decide) rfl (fun ls hl => ?_)
          exact L_46 26 H locs G_388 (G.2.1 (g.2.2 100)) a2 0 0 0 ls fr_389 w_397 (rg_w r_413 (by decide) (by decide)) (rg_w r_415 (by decide) (by decide)) (rg_w rl_0 (by decide) (by decide)) (fun _ _ => rfl) hTS0.2.2.2.1 (by decide) (lv_sub hl [4, 5, 6, 8, 3, 2, 1, 0] rfl) hv hH hS
        · rw [if_neg c_414] at hv
          have r_416 : rgI (-2147483648) (-1) a1 := rg_w (rg_ltL r_410 rl_0 (nle_lt c_414)) (by decide) (by decide)
          refine lv_bipush (v := (-2)) hx hb dX12_sheet_31 (by decide) ?_
          exact W.iret hx hb hr (fun t ht hWm => ⟨⟨(-2), (Ty, G_388), rfl, ⟨rfl, ⟨fr_389, ⟨⟨(by rw [u_390]; exact (rg_w hI.a102 (by decide) (by decide))), (by rw [u_391]; exact (rg_w hI.a104 (by decide) (by decide))), (by rw [u_392]; exact (rg_w hI.a113 (by decide) (by decide))), (by rw [u_393]; exact (rg_w hI.a122 (by decide) (by decide))), (by rw [u_394]; exact (rg_w hI.a133 (by decide) (by decide))), (by rw [u_395]; exact (rg_w hI.a137 (by decide) (by decide))), u_402, u_403, (by rw [w_397]; exact (hI.ti.hi (show Bd ≤ Bd + 1000 by omega))), (hI.un2 (show Bd ≤ Bd + 1000 by omega) w_398 u_393), (hI.ke2 (show Bd ≤ Bd + 1000 by omega) w_399 w_400)⟩, hv.symm.trans (by rw [w_397])⟩⟩⟩, by show HT g Ty G_388 t.heap; rw [ht]; exact hH⟩, hS.F ht⟩) hS.2.2 dX12_sheet_33
    · rw [if_neg c_409] at hv
      have r_417 : rgI (25) (2147483647) a1 := rg_w (rg_ltR rl_24 (rg_top a1) (nle_lt c_409)) (by decide) (by decide)
      refine lv_iconst (v := (-1)) hx hb dX12_sheet_20 (by decide) ?_
      exact W.iret hx hb hr (fun t ht hWm => ⟨⟨(-1), (Ty, G_388), rfl, ⟨rfl, ⟨fr_389, ⟨⟨(by rw [u_390]; exact (rg_w hI.a102 (by decide) (by decide))), (by rw [u_391]; exact (rg_w hI.a104 (by decide) (by decide))), (by rw [u_392]; exact (rg_w hI.a113 (by decide) (by decide))), (by rw [u_393]; exact (rg_w hI.a122 (by decide) (by decide))), (by rw [u_394]; exact (rg_w hI.a133 (by decide) (by decide))), (by rw [u_395]; exact (rg_w hI.a137 (by decide) (by decide))), u_402, u_403, (by rw [w_397]; exact (hI.ti.hi (show Bd ≤ Bd + 1000 by omega))), (hI.un2 (show Bd ≤ Bd + 1000 by omega) w_398 u_393), (hI.ke2 (show Bd ≤ Bd + 1000 by omega) w_399 w_400)⟩, hv.symm.trans (by rw [w_397])⟩⟩⟩, by show HT g Ty G_388 t.heap; rw [ht]; exact hH⟩, hS.F ht⟩) hS.2.2 dX12_sheet_21

def F_X12_undo_x_26 : Nat → Int32 → Int32 → Int32
  | 0, _, yn122 => yn122
  | n + 1, y1, yn122 => (if (122 : Int32) ≤ y1 then yn122 else (F_X12_undo_x_26 n (y1 + (1 : Int32)) yn122))
def F_X12_undo_x (m122 : Int32) : Int32 × Int32 := (if m122 = (0 : Int32) then ((-1 : Int32), m122) else ((F_X12_undo_x_26 124 (0 : Int32) (m122 - (1 : Int32))), (F_X12_undo_x_26 124 (0 : Int32) (m122 - (1 : Int32)))))
set_option maxHeartbeats 4000000 in
set_option maxRecDepth 100000 in
theorem c_X12_undo_x (l : Launch) (g : Gx) (Ty : TyM) (G : Gh) (sz : Nat) (h0 : Nat) (k_h0 : Ty h0 = some (22, 0)) (Bd : Int) (hI : OI g Bd G) (hBd : Bd ≤ 1900000) (hLD : LD g) : Met l yX12_undo (wsG yX12_undo cX12_undo 2 (some .int)) ({ frames := 0, cells := 0, slots := 0, locals := 0 }) (PcT g Ty G sz [.ref h0]) (QwI g Ty sz (fun r u => u.1 = Ty ∧ FR [105, 122] [(g.2.2 100)] [] G u.2 ∧ OI g (Bd + 1000) u.2 ∧ F_X12_undo_x (G.1 122) = (r, (u.2.1 122)))) 0 0 (AF Ty sz) := by
  refine Met.ofW (cc := cX12_undo) (maxL := 2) (ret := (some .int)) (by decide) rfl ?_
  intro p e s m args below meth c s₁ B hml hv
  obtain ⟨rfl, hsz, hK, hH⟩ := hv
  subst hsz
  have hx := B.exec
  have hb := B.bytes
  have hr := B.returns
  have hts := atoms_spec (ws := (wsG yX12_undo cX12_undo 2 (some .int))) B.pre
  have hG : ∀ w ∈ GW, w.before ([.ref h0] : List Value).toArray s = true := fun w h => hts w (List.mem_cons_of_mem _ h)
  have hown : s.vm.findClass RX12 = some m.cls := findClass_of_methodNamed B.named
  have hlocks := B.notSynchronized
  have hl := lv_entry [.ref h0] (n := 2) (Nat.le_of_ble_eq_true rfl)
  rw [lg_entry_eq]
  generalize (lg_sl [.ref h0] ++ List.replicate (2 - (lg_sl [.ref h0]).length) Slot.unset).toArray = ls at hl ⊢
  have hl : lv_has ls 2 [(0, .ref h0)] := hl
  have hmk : mdK g Ty := mdk_of hH k_h0
  have hv : (if (G.1 122) = (0 : Int32) then ((-1 : Int32), (G.1 122)) else ((F_X12_undo_x_26 124 (0 : Int32) ((G.1 122) - (1 : Int32))), (F_X12_undo_x_26 124 (0 : Int32) ((G.1 122) - (1 : Int32))))) = F_X12_undo_x (G.1 122) := rfl
  have hS : va_S (AF Ty s.heap.size) s.heap s.heap [] := va_S.rf
  obtain ⟨⟨σ0, hTS0⟩, h10, hBB0⟩ := id hI.ti
  obtain ⟨ρ, hT⟩ := hTS0.1
  have L_26 : ∀ (n_26 : Nat) (H : Heap) (locs : List Loc) (G_26 : Gh) (fl0_26 : Nat → Int32) (y1_26 : Int32) (ls : Array Slot), rgI (0) (11) (G_26.1 122) → FR [105, 122] [(g.2.2 100)] [] G G_26 → G_26.2.1 (g.2.2 100) = fl0_26 → rgI (0) (122) y1_26 → BK (sl (G.2.1 (g.2.2 121)) ((G_26.1 122) : Int32).toNatClampNeg) (G.2.1 (g.2.2 100)) fl0_26 (y1_26 : Int32).toNatClampNeg → ((G_26.1 122) : Int32).toInt + 1 = (G.1 122).toInt → (122 - (y1_26).toInt).toNat < n_26 → lv_has ls 2 [(0, .ref h0), (1, .int y1_26)] → ((F_X12_undo_x_26 n_26 y1_26 (G_26.1 122)), (F_X12_undo_x_26 n_26 y1_26 (G_26.1 122))) = F_X12_undo_x (G.1 122) → HT g Ty G_26 H → va_S (AF Ty s.heap.size) s.heap H locs → Wm p l e (wsG yX12_undo cX12_undo 2 (some .int)) ({ frames := 0, cells := 0, slots := 0, locals := 0 }) s m [.ref h0] below meth c H locs (0) (0) (QwI g Ty s.heap.size (fun r u => u.1 = Ty ∧ FR [105, 122] [(g.2.2 100)] [] G u.2 ∧ OI g (Bd + 1000) u.2 ∧ F_X12_undo_x (G.1 122) = (r, (u.2.1 122)))) 0 0 (AF Ty s.heap.size) (F0 m 26 ls []) := by
    intro n_26
    induction n_26 with
    | zero => intro H locs G_26 fl0_26 y1_26 ls rg122_26 frL_26 efl0_26 ry1_26 hi0_26 hi1_26 hm; exact absurd hm (Nat.not_lt_zero _)
    | succ n_26 ih_26 =>
      intro H locs G_26 fl0_26 y1_26 ls rg122_26 frL_26 efl0_26 ry1_26 hi0_26 hi1_26 hm_26 hl hv hH hS
      rw [F_X12_undo_x_26] at hv
      refine lv_iload_n hx hb dX12_undo_26 rfl (lv_at hl 1 rfl) ?_
      refine lv_bipush (v := 122) hx hb dX12_undo_27 (by decide) ?_
      refine lv_icmp_ge (tgt := 58) hx hb dX12_undo_29 (by decide) (fun c_1 => ?_) (fun c_1 => ?_)
      · rw [if_pos c_1] at hv
        have r_2 : rgI (122) (122) y1_26 := rg_w (rg_leR rl_122 ry1_26 c_1) (by decide) (by decide)
        have tu_3 : TI Bd fl0_26 := BK_e hi0_26 r_2 (hI.un _ (by have a := cl_nat (rg122_26).1; have b := hi1_26; omega))
        refine lv_aload_n hx hb dX12_undo_58 rfl (lv_at hl 0 rfl) ?_
        obtain ⟨_, ⟨rfl, t_5, hk_6⟩, o_c_4⟩ := hH h0 _ k_h0
        refine hg_get hx hb hG igX12 hown hK o_c_4 rfl 22 (by decide) (hG _ mw_1306) rfl dX12_undo_59 ?_
        exact W.iret hx hb hr (fun t ht hWm => ⟨⟨(G_26.1 122), (Ty, G_26), rfl, ⟨rfl, ⟨frL_26, ⟨⟨(by rw [(frL_26.1 102 (by decide))]; exact (rg_w hI.a102 (by decide) (by decide))), (by rw [(frL_26.1 104 (by decide))]; exact (rg_w hI.a104 (by decide) (by decide))), (by rw [(frL_26.1 113 (by decide))]; exact (rg_w hI.a113 (by decide) (by decide))), (rg_w rg122_26 (by decide) (by decide)), (by rw [(frL_26.1 133 (by decide))]; exact (rg_w hI.a133 (by decide) (by decide))), (by rw [(frL_26.1 137 (by decide))]; exact (rg_w hI.a137 (by decide) (by decide))), ((frL_26.2.2 111 (by decide)).trans hI.r111), ((frL_26.2.2 112 (by decide)).trans hI.r112), (by rw [efl0_26]; exact (TI.hi tu_3 (by omega))), (fun i hi => by rw [(frL_26.2.1 (g.2.2 121) ⟨(ne_kd hmk.2.2.2.2.2.1 hmk.1 (by decide)), trivial⟩)]; exact (hI.un i (by have b := hi1_26; have c : (i : Int) < (G_26.1 122).toInt := hi; omega)).hi (by omega)), (hI.ke2 (show Bd ≤ Bd + 1000 by omega) (frL_26.2.1 (g.2.2 140) ⟨(ne_kd hmk.2.2.2.2.2.2.2.2.2.2.2.2.2.2.2.2.2.2.1 hmk.1 (by decide)), trivial⟩) (frL_26.2.1 (g.2.2 141) ⟨(ne_kd hmk.2.2.2.2.2.2.2.2.2.2.2.2.2.2.2.2.2.2.2.1 hmk.1 (by decide)), trivial⟩))⟩, hv.symm⟩⟩⟩, by show HT g Ty G_26 t.heap; rw [ht]; exact hH⟩, hS.F ht⟩) hS.2.2 dX12_undo_62
      · rw [if_neg c_1] at hv
        have r_7 : rgI (0) (121) y1_26 := rg_w (rg_ltL ry1_26 rl_122 (nle_lt c_1)) (by decide) (by decide)
        refine lv_aload_n hx hb dX12_undo_32 rfl (lv_at hl 0 rfl) ?_
        obtain ⟨_, ⟨rfl, t_9, hk_10⟩, o_c_8⟩ := hH h0 _ k_h0
        refine hg_get hx hb hG igX12 hown hK o_c_8 rfl 0 (by decide) (hG _ mw_1284) rfl dX12_undo_33 ?_
        refine lv_iload_n hx hb dX12_undo_36 rfl (lv_at hl 1 rfl) ?_
        refine lv_aload_n hx hb dX12_undo_37 rfl (lv_at hl 0 rfl) ?_
        refine hg_get hx hb hG igX12 hown hK o_c_8 rfl 21 (by decide) (hG _ mw_1305) rfl dX12_undo_38 ?_
        refine lv_bipush (v := 122) hx hb dX12_undo_41 (by decide) ?_
        refine lv_aload_n hx hb dX12_undo_43 rfl (lv_at hl 0 rfl) ?_
        refine hg_get hx hb hG igX12 hown hK o_c_8 rfl 22 (by decide) (hG _ mw_1306) rfl dX12_undo_44 ?_
        refine lv_imul hx hb dX12_undo_47 ?_
        refine lv_topi (fun x_11 ex_11 => ?_)
        try rw [← ex_11] at hv
        have rx_11 : rgI (0) (1342) x_11 := by rw [ex_11]; exact rg_w (rg_mul rl_122 rg122_26 (by decide) (by decide) (by decide)) (by decide) (by decide)
        refine lv_iload_n hx hb dX12_undo_48 rfl (lv_at hl 1 rfl) ?_
        refine lv_iadd hx hb dX12_undo_49 ?_
        refine lv_topi (fun x_12 ex_12 => ?_)
        try rw [← ex_12] at hv
        have rx_12 : rgI (0) (1463) x_12 := by rw [ex_12]; exact rg_w (rg_add rx_11 r_7 (by decide) (by decide)) (by decide) (by decide)
        obtain ⟨_, rfl, o_c_13⟩ := hH (g.2.2 121) _ hk_10.2.2.2.2.2.1
        have o_c_13 : va_at g.1 vwCl ((g.2.2 121), .inl (g.2.1 1, 1464, .inl (G_26.2.1 (g.2.2 121)))) H := o_c_13
        refine hg_iald hx hb hK o_c_13 (rg_in (n := 1464) rx_12 (by decide) (by decide)) dX12_undo_50 ?_
        rw [(frL_26.2.1 (g.2.2 121) ⟨(ne_kd hmk.2.2.2.2.2.1 hmk.1 (by decide)), trivial⟩)]
        refine lv_topi (fun x_14 ex_14 => ?_)
        try rw [← ex_14] at hv
        obtain ⟨_, rfl, o_c_15⟩ := hH (g.2.2 100) _ hk_10.1
        have o_c_15 : va_at g.1 vwCl ((g.2.2 100), .inl (g.2.1 1, 122, .inl (G_26.2.1 (g.2.2 100)))) H := o_c_15
        refine hg_iast hx hb hK hS o_c_15 (AF.of hk_10.1) (rg_in (n := 122) r_7 (by decide) (by decide)) dX12_undo_51 (fun H locs o_c_15 hz oq hS => ?_)
        obtain ⟨G_16, eG_16⟩ : ∃ z : Gh, z = aset G_26 (g.2.2 100) (upd (G_26.2.1 (g.2.2 100)) (y1_26 : Int32).toNatClampNeg x_14) := ⟨_, rfl⟩
        have hH : HT g Ty G_16 H := by rw [eG_16]; exact HT.putA (upd (G_26.2.1 (g.2.2 100)) (y1_26 : Int32).toNatClampNeg x_14) hH hk_10.1 cf30 o_c_15 oq
        obtain ⟨f_17, ef_17⟩ : ∃ z : Nat → Int32, z = (upd fl0_26 (y1_26 : Int32).toNatClampNeg x_14) := ⟨_, rfl⟩
        have eaf_17 : G_16 = aset G_26 (g.2.2 100) f_17 := by rw [eG_16, ef_17, efl0_26]
        try rw [← ef_17] at hv
        have fr_18 : FR [105, 122] [(g.2.2 100)] [] G G_16 := FR.a frL_26 eaf_17 (fun b h => h.1)
        have u_19 : G_16.1 122 = (G_26.1 122) := by rw [eaf_17]; exact rfl
        have u_20 : G_16.1 102 = (G.1 102) := by rw [eaf_17]; exact (frL_26.1 102 (by decide))
        have u_21 : G_16.1 104 = (G.1 104) := by rw [eaf_17]; exact (frL_26.1 104 (by decide))
        have u_22 : G_16.1 113 = (G.1 113) := by rw [eaf_17]; exact (frL_26.1 113 (by decide))
        have u_23 : G_16.1 133 = (G.1 133) := by rw [eaf_17]; exact (frL_26.1 133 (by decide))
        have u_24 : G_16.1 137 = (G.1 137) := by rw [eaf_17]; exact (frL_26.1 137 (by decide))
        have w_25 : G_16.2.1 (g.2.2 100) = f_17 := by rw [eaf_17]; exact aset_eq
        have w_26 : G_16.2.1 (g.2.2 121) = (G.2.1 (g.2.2 121)) := by rw [eaf_17]; exact (aset_ne (ne_kd hmk.2.2.2.2.2.1 hmk.1 (by decide))).trans (frL_26.2.1 (g.2.2 121) ⟨(ne_kd hmk.2.2.2.2.2.1 hmk.1 (by decide)), trivial⟩)
        have w_27 : G_16.2.1 (g.2.2 140) = (G.2.1 (g.2.2 140)) := by rw [eaf_17]; exact (aset_ne (ne_kd hmk.2.2.2.2.2.2.2.2.2.2.2.2.2.2.2.2.2.2.1 hmk.1 (by decide))).trans (frL_26.2.1 (g.2.2 140) ⟨(ne_kd hmk.2.2.2.2.2.2.2.2.2.2.2.2.2.2.2.2.2.2.1 hmk.1 (by decide)), trivial⟩)
        have w_28 : G_16.2.1 (g.2.2 141) = (G.2.1 (g.2.2 141)) := by rw [eaf_17]; exact (aset_ne (ne_kd hmk.2.2.2.2.2.2.2.2.2.2.2.2.2.2.2.2.2.2.2.1 hmk.1 (by decide))).trans (frL_26.2.1 (g.2.2 141) ⟨(ne_kd hmk.2.2.2.2.2.2.2.2.2.2.2.2.2.2.2.2.2.2.2.1 hmk.1 (by decide)), trivial⟩)
        have w_29 : G_16.2.1 (g.2.2 111) = (G.2.1 (g.2.2 111)) := by rw [eaf_17]; exact (aset_ne (ne_kd hmk.2.2.2.2.2.2.2.2.2.2.2.2.2.2.2.2.2.2.2.2.1 hmk.1 (by decide))).trans (frL_26.2.1 (g.2.2 111) ⟨(ne_kd hmk.2.2.2.2.2.2.2.2.2.2.2.2.2.2.2.2.2.2.2.2.1 hmk.1 (by decide)), trivial⟩)
        have u_30 : G_16.2.2 111 = some (g.2.2 111) := by rw [eaf_17]; exact ((frL_26.2.2 111 (by decide)).trans hI.r111)
        have u_31 : G_16.2.2 112 = some (g.2.2 112) := by rw [eaf_17]; exact ((frL_26.2.2 112 (by decide)).trans hI.r112)
        clear oq hz
        obtain ⟨x_32, ex_32⟩ : ∃ y : Int32, y = y1_26 + 1 := ⟨_, rfl⟩
        try rw [← ex_32] at hv
        have rx_32 : rgI (1) (122) x_32 := by rw [ex_32]; exact rg_w (rg_add r_7 rl_1 (by decide) (by decide)) (by decide) (by decide)
        have qx_32 : x_32.toInt = (y1_26 : Int32).toInt + 1 := by rw [ex_32]; exact rg_addE r_7 rl_1 (by decide) (by decide)
        refine lv_iinc (v := x_32) (lv' := [(1, .int x_32), (0, .ref h0)]) hx hb dX12_undo_52 hl (k := 1) rfl (by rw [ex_32]; rfl) (by decide) rfl (fun ls hl => ?_)
        refine lv_goto (tgt := 26) hx hb dX12_undo_55 (by decide) ?_
        exact ih_26 H locs G_16 f_17 x_32 ls (by rw [u_19]; exact rg_w rg122_26 (by decide) (by decide)) fr_18 w_25 (rg_w rx_32 (by decide) (by decide)) (by rw [u_19]; exact (BK_s hi0_26 r_7 qx_32 (bk_i rg122_26 r_7 ex_11 ex_12 ex_14) ef_17)) (by rw [u_19]; exact hi1_26) (by have h1 := qx_32; have h2 := r_7.1; have h3 := r_7.2; have h4 := hm_26; omega) (lv_sub hl [1, 0] rfl) (by rw [u_19]; exact hv) hH hS
  refine lv_aload_n hx hb dX12_undo_0 rfl (lv_at hl 0 rfl) ?_
  refine lv_iconst (v := 0) hx hb dX12_undo_1 (by decide) ?_
  obtain ⟨_, ⟨rfl, t_34, hk_35⟩, o_c_33⟩ := hH h0 _ k_h0
  refine hg_put (ty := .int) hx hb hG igX12 tyX12 tyX12_ok nmX12 hown hK hS o_c_33 (AF.of k_h0) rfl 5 (by decide) (hG _ mw_1289) rfl (by decide +kernel) rfl rfl (Nat.le_of_ble_eq_true rfl) dX12_undo_2 (fun H locs o_c_33 hz oq hS => ?_)
  obtain ⟨G_36, eG_36⟩ : ∃ z : Gh, z = gset G 105 0 := ⟨_, rfl⟩
  have hH : HT g Ty G_36 H := by rw [eG_36]; exact HT.putN 105 0 hH k_h0 ⟨rfl, t_34, hk_35⟩ o_c_33 oq (Or.inr (Or.inr (Or.inr (Or.inr (Or.inr ⟨by decide, t_34⟩)))))
  have fr_37 : FR [105, 122] [(g.2.2 100)] [] G G_36 := FR.n FR.rf eG_36 (by decide)
  have u_38 : G_36.1 102 = (G.1 102) := by rw [eG_36]; exact (gs_ne (by decide))
  have u_39 : G_36.1 104 = (G.1 104) := by rw [eG_36]; exact (gs_ne (by decide))
  have u_40 : G_36.1 113 = (G.1 113) := by rw [eG_36]; exact (gs_ne (by decide))
  have u_41 : G_36.1 122 = (G.1 122) := by rw [eG_36]; exact (gs_ne (by decide))
  have u_42 : G_36.1 133 = (G.1 133) := by rw [eG_36]; exact (gs_ne (by decide))
  have u_43 : G_36.1 137 = (G.1 137) := by rw [eG_36]; exact (gs_ne (by decide))
  have u_44 : G_36.1 105 = 0 := by rw [eG_36]; exact gs_eq
  have w_45 : G_36.2.1 (g.2.2 100) = (G.2.1 (g.2.2 100)) := by rw [eG_36]; exact rfl
  have w_46 : G_36.2.1 (g.2.2 121) = (G.2.1 (g.2.2 121)) := by rw [eG_36]; exact rfl
  have w_47 : G_36.2.1 (g.2.2 140) = (G.2.1 (g.2.2 140)) := by rw [eG_36]; exact rfl
  have w_48 : G_36.2.1 (g.2.2 141) = (G.2.1 (g.2.2 141)) := by rw [eG_36]; exact rfl
  have w_49 : G_36.2.1 (g.2.2 111) = (G.2.1 (g.2.2 111)) := by rw [eG_36]; exact rfl
  have u_50 : G_36.2.2 111 = some (g.2.2 111) := by rw [eG_36]; exact hI.r111
  have u_51 : G_36.2.2 112 = some (g.2.2 112) := by rw [eG_36]; exact hI.r112
  clear oq hz
  refine lv_aload_n hx hb dX12_undo_5 rfl (lv_at hl 0 rfl) ?_
  obtain ⟨_, ⟨rfl, t_53, hk_54⟩, o_c_52⟩ := hH h0 _ k_h0
  refine hg_get hx hb hG igX12 hown hK o_c_52 rfl 22 (by decide) (hG _ mw_1306) rfl dX12_undo_6 ?_
  rw [u_41]
  refine lv_if_ne (tgt := 14) hx hb dX12_undo_9 (by decide) (fun c_55 => ?_) (fun c_55 => ?_)
  · rw [if_neg c_55] at hv
    have r_56 : rgI (1) (12) (G.1 122) := rg_w (rg_neL hI.a122 rl_0 c_55) (by decide) (by decide)
    refine lv_aload_n hx hb dX12_undo_14 rfl (lv_at hl 0 rfl) ?_
    refine lv_dup hx hb dX12_undo_15 rfl ?_
    refine hg_get hx hb hG igX12 hown hK o_c_52 rfl 22 (by decide) (hG _ mw_1306) rfl dX12_undo_16 ?_
    rw [u_41]
    refine lv_iconst (v := 1) hx hb dX12_undo_19 (by decide) ?_
    refine lv_isub hx hb dX12_undo_20 ?_
    refine lv_topi (fun x_57 ex_57 => ?_)
    try rw [← ex_57] at hv
    have rx_57 : rgI (0) (11) x_57 := by rw [ex_57]; exact rg_w (rg_sub r_56 rl_1 (by decide) (by decide)) (by decide) (by decide)
    refine hg_put (ty := .int) hx hb hG igX12 tyX12 tyX12_ok nmX12 hown hK hS o_c_52 (AF.of k_h0) rfl 22 (by decide) (hG _ mw_1306) rfl (by decide +kernel) rfl rfl (Nat.le_of_ble_eq_true rfl) dX12_undo_21 (fun H locs o_c_52 hz oq hS => ?_)
    obtain ⟨G_58, eG_58⟩ : ∃ z : Gh, z = gset G_36 122 x_57 := ⟨_, rfl⟩
    have hH : HT g Ty G_58 H := by rw [eG_58]; exact HT.putN 122 x_57 hH k_h0 ⟨rfl, t_53, hk_54⟩ o_c_52 oq (Or.inr (Or.inr (Or.inr (Or.inr (Or.inr ⟨by decide, t_53⟩)))))
    have fr_59 : FR [105, 122] [(g.2.2 100)] [] G G_58 := FR.n fr_37 eG_58 (by decide)
    have u_60 : G_58.1 102 = (G.1 102) := by rw [eG_58]; exact (gs_ne (by decide)).trans u_38
    have u_61 : G_58.1 104 = (G.1 104) := by rw [eG_58]; exact (gs_ne (by decide)).trans u_39
    have u_62 : G_58.1 113 = (G.1 113) := by rw [eG_58]; exact (gs_ne (by decide)).trans u_40
    have u_63 : G_58.1 133 = (G.1 133) := by rw [eG_58]; exact (gs_ne (by decide)).trans u_42
    have u_64 : G_58.1 137 = (G.1 137) := by rw [eG_58]; exact (gs_ne (by decide)).trans u_43
    have u_65 : G_58.1 105 = 0 := by rw [eG_58]; exact (gs_ne (by decide)).trans u_44
    have u_66 : G_58.1 122 = x_57 := by rw [eG_58]; exact gs_eq
    have w_67 : G_58.2.1 (g.2.2 100) = (G.2.1 (g.2.2 100)) := by rw [eG_58]; exact w_45
    have w_68 : G_58.2.1 (g.2.2 121) = (G.2.1 (g.2.2 121)) := by rw [eG_58]; exact w_46
    have w_69 : G_58.2.1 (g.2.2 140) = (G.2.1 (g.2.2 140)) := by rw [eG_58]; exact w_47
    have w_70 : G_58.2.1 (g.2.2 141) = (G.2.1 (g.2.2 141)) := by rw [eG_58]; exact w_48
    have w_71 : G_58.2.1 (g.2.2 111) = (G.2.1 (g.2.2 111)) := by rw [eG_58]; exact w_49
    have u_72 : G_58.2.2 111 = some (g.2.2 111) := by rw [eG_58]; exact u_50
    have u_73 : G_58.2.2 112 = some (g.2.2 112) := by rw [eG_58]; exact u_51
    clear oq hz
    refine lv_iconst (v := 0) hx hb dX12_undo_24 (by decide) ?_
    refine lv_istore_n (lv' := [(1, .int 0), (0, .ref h0)]) hx hb dX12_undo_25 rfl hl (by decide) rfl (fun ls hl => ?_)
    exact L_26 124 H locs G_58 (G.2.1 (g.2.2 100)) 0 ls (by rw [u_66]; exact rg_w rx_57 (by decide) (by decide)) fr_59 w_67 (rg_w rl_0 (by decide) (by decide)) (by rw [u_66]; exact BK_0) (by rw [u_66]; exact (ud_1 hI.a122 c_55 ex_57)) (by decide) (lv_sub hl [1, 0] rfl) (by rw [u_66]; exact hv) hH hS
  · rw [if_pos c_55] at hv
    have r_74 : rgI (0) (0) (G.1 122) := rg_w (rg_eq rl_0 c_55) (by decide) (by decide)
    refine lv_iconst (v := (-1)) hx hb dX12_undo_12 (by decide) ?_
    exact W.iret hx hb hr (fun t ht hWm => ⟨⟨(-1), (Ty, G_36), rfl, ⟨rfl, ⟨fr_37, ⟨⟨(by rw [u_38]; exact (rg_w hI.a102 (by decide) (by decide))), (by rw [u_39]; exact (rg_w hI.a104 (by decide) (by decide))), (by rw [u_40]; exact (rg_w hI.a113 (by decide) (by decide))), (by rw [u_41]; exact (rg_w r_74 (by decide) (by decide))), (by rw [u_42]; exact (rg_w hI.a133 (by decide) (by decide))), (by rw [u_43]; exact (rg_w hI.a137 (by decide) (by decide))), u_50, u_51, (by rw [w_45]; exact (hI.ti.hi (show Bd ≤ Bd + 1000 by omega))), (hI.un2 (show Bd ≤ Bd + 1000 by omega) w_46 u_41), (hI.ke2 (show Bd ≤ Bd + 1000 by omega) w_47 w_48)⟩, hv.symm.trans (by rw [u_41])⟩⟩⟩, by show HT g Ty G_36 t.heap; rw [ht]; exact hH⟩, hS.F ht⟩) hS.2.2 dX12_undo_13

def F_X12_masters_x_27 : Nat → Int32 → Int32 → (Nat → Int32) → Int32 → Int32
  | 0, _, _, _, yn104 => yn104
  | n + 1, y2, y3, yr0, yn104 => (if y3 = (0 : Int32) then yn104 else (if (yr0 (Int32.toNatClampNeg ((72 : Int32) + y2))) = (0 : Int32) then (F_X12_masters_x_27 n y2 (0 : Int32) yr0 yn104) else (if (F_X12_inGroup yr0 (yr0 (Int32.toNatClampNeg ((72 : Int32) + y2)))) = (0 : Int32) then (F_X12_masters_x_27 n y2 (0 : Int32) yr0 yn104) else (F_X12_masters_x_27 n (F_J6_numberOfTrailingZeros_0f7a4 (F_X12_inGroup yr0 (yr0 (Int32.toNatClampNeg ((72 : Int32) + y2))))) (1 : Int32) yr0 (yn104 + (1 : Int32))))))
def F_X12_masters_x (r0 : Nat → Int32) (m104 : Int32) (a0 : Int32) : Int32 × Int32 := (if (F_X12_isThere r0 a0) = (0 : Int32) then ((-1 : Int32), m104) else ((F_X12_masters_x_27 51 a0 (1 : Int32) r0 (0 : Int32)), (F_X12_masters_x_27 51 a0 (1 : Int32) r0 (0 : Int32))))
set_option maxHeartbeats 4000000 in
set_option maxRecDepth 100000 in
theorem c_X12_masters_x (l : Launch) (g : Gx) (Ty : TyM) (G : Gh) (sz : Nat) (h0 : Nat) (a0 : Int32) (k_h0 : Ty h0 = some (22, 0)) (Bd : Int) (hI : OI g Bd G) (hBd : Bd ≤ 1900000) (hLD : LD g) : Met l yX12_masters (wsG yX12_masters cX12_masters 5 (some .int)) ({ frames := 3, cells := 0, slots := 0, locals := 66 }) (PcT g Ty G sz [.ref h0, .int a0]) (QwI g Ty sz (fun r u => u.1 = Ty ∧ FR [104, 105] [] [] G u.2 ∧ OI g (Bd + 1000) u.2 ∧ F_X12_masters_x (G.2.1 (g.2.2 100)) (G.1 104) a0 = (r, (u.2.1 104)))) 0 0 (AF Ty sz) := by
  refine Met.ofW (cc := cX12_masters) (maxL := 5) (ret := (some .int)) (by decide) rfl ?_
  intro p e s m args below meth c s₁ B hml hv
  obtain ⟨rfl, hsz, hK, hH⟩ := hv
  subst hsz
  have hx := B.exec
  have hb := B.bytes
  have hr := B.returns
  have hts := atoms_spec (ws := (wsG yX12_masters cX12_masters 5 (some .int))) B.pre
  have hG : ∀ w ∈ GW, w.before ([.ref h0, .int a0] : List Value).toArray s = true := fun w h => hts w (List.mem_cons_of_mem _ h)
  have hown : s.vm.findClass RX12 = some m.cls := findClass_of_methodNamed B.named
  have hlocks := B.notSynchronized
  have hl := lv_entry [.ref h0, .int a0] (n := 5) (Nat.le_of_ble_eq_true rfl)
  rw [lg_entry_eq]
  generalize (lg_sl [.ref h0, .int a0] ++ List.replicate (5 - (lg_sl [.ref h0, .int a0]).length) Slot.unset).toArray = ls at hl ⊢
  have hl : lv_has ls 5 [(0, .ref h0), (1, .int a0)] := hl
  have hmk : mdK g Ty := mdk_of hH k_h0
  have hv : (if (F_X12_isThere (G.2.1 (g.2.2 100)) a0) = (0 : Int32) then ((-1 : Int32), (G.1 104)) else ((F_X12_masters_x_27 51 a0 (1 : Int32) (G.2.1 (g.2.2 100)) (0 : Int32)), (F_X12_masters_x_27 51 a0 (1 : Int32) (G.2.1 (g.2.2 100)) (0 : Int32)))) = F_X12_masters_x (G.2.1 (g.2.2 100)) (G.1 104) a0 := rfl
  have hS : va_S (AF Ty s.heap.size) s.heap s.heap [] := va_S.rf
  obtain ⟨⟨σ0, hTS0⟩, h10, hBB0⟩ := id hI.ti
  obtain ⟨ρ, hT⟩ := hTS0.1
  have L_27 : ∀ (n_27 : Nat) (H : Heap) (locs : List Loc) (G_27 : Gh) (y2_27 : Int32) (y3_27 : Int32) (ls : Array Slot), rgI (0) (24) (G_27.1 104) → FR [104, 105] [] [] G G_27 → rgI (0) (1) y3_27 → thr (G.2.1 (g.2.2 100)) y2_27 → (G_27.1 104).toInt + (pm (G.2.1 (g.2.2 100)) σ0 (y2_27 : Int32).toNatClampNeg : Int) ≤ 24 → 2 * pm (G.2.1 (g.2.2 100)) σ0 (y2_27 : Int32).toNatClampNeg + (y3_27 : Int32).toInt.toNat < n_27 → lv_has ls 5 [(0, .ref h0), (2, .int y2_27), (3, .int y3_27)] → ((F_X12_masters_x_27 n_27 y2_27 y3_27 (G.2.1 (g.2.2 100)) (G_27.1 104)), (F_X12_masters_x_27 n_27 y2_27 y3_27 (G.2.1 (g.2.2 100)) (G_27.1 104))) = F_X12_masters_x (G.2.1 (g.2.2 100)) (G.1 104) a0 → HT g Ty G_27 H → va_S (AF Ty s.heap.size) s.heap H locs → Wm p l e (wsG yX12_masters cX12_masters 5 (some .int)) ({ frames := 3, cells := 0, slots := 0, locals := 66 }) s m [.ref h0, .int a0] below meth c H locs (0) (0) (QwI g Ty s.heap.size (fun r u => u.1 = Ty ∧ FR [104, 105] [] [] G u.2 ∧ OI g (Bd + 1000) u.2 ∧ F_X12_masters_x (G.2.1 (g.2.2 100)) (G.1 104) a0 = (r, (u.2.1 104)))) 0 0 (AF Ty s.heap.size) (F0 m 27 ls []) := by
    intro n_27
    induction n_27 with
    | zero => intro H locs G_27 y2_27 y3_27 ls rg104_27 frL_27 ry3_27 hi0_27 hi1_27 hm; exact absurd hm (Nat.not_lt_zero _)
    | succ n_27 ih_27 =>
      intro H locs G_27 y2_27 y3_27 ls rg104_27 frL_27 ry3_27 hi0_27 hi1_27 hm_27 hl hv hH hS
      rw [F_X12_masters_x_27] at hv
      refine lv_iload_n hx hb dX12_masters_27 rfl (lv_at hl 2 rfl) ?_
      refine lv_if_eq (tgt := 98) hx hb dX12_masters_28 (by decide) (fun c_1 => ?_) (fun c_1 => ?_)
      · rw [if_pos c_1] at hv
        have r_2 : rgI (0) (0) y3_27 := rg_w (rg_eq rl_0 c_1) (by decide) (by decide)
        refine lv_aload_n hx hb dX12_masters_98 rfl (lv_at hl 0 rfl) ?_
        obtain ⟨_, ⟨rfl, t_4, hk_5⟩, o_c_3⟩ := hH h0 _ k_h0
        refine hg_get hx hb hG igX12 hown hK o_c_3 rfl 4 (by decide) (hG _ mw_1288) rfl dX12_masters_99 ?_
        exact W.iret hx hb hr (fun t ht hWm => ⟨⟨(G_27.1 104), (Ty, G_27), rfl, ⟨rfl, ⟨frL_27, ⟨⟨(by rw [(frL_27.1 102 (by decide))]; exact (rg_w hI.a102 (by decide) (by decide))), (rg_w rg104_27 (by decide) (by decide)), (by rw [(frL_27.1 113 (by decide))]; exact (rg_w hI.a113 (by decide) (by decide))), (by rw [(frL_27.1 122 (by decide))]; exact (rg_w hI.a122 (by decide) (by decide))), (by rw [(frL_27.1 133 (by decide))]; exact (rg_w hI.a133 (by decide) (by decide))), (by rw [(frL_27.1 137 (by decide))]; exact (rg_w hI.a137 (by decide) (by decide))), ((frL_27.2.2 111 (by decide)).trans hI.r111), ((frL_27.2.2 112 (by decide)).trans hI.r112), (by rw [(frL_27.2.1 (g.2.2 100) trivial)]; exact (hI.ti.hi (show Bd ≤ Bd + 1000 by omega))), (hI.un2 (show Bd ≤ Bd + 1000 by omega) (frL_27.2.1 (g.2.2 121) trivial) (frL_27.1 122 (by decide))), (hI.ke2 (show Bd ≤ Bd + 1000 by omega) (frL_27.2.1 (g.2.2 140) trivial) (frL_27.2.1 (g.2.2 141) trivial))⟩, hv.symm⟩⟩⟩, by show HT g Ty G_27 t.heap; rw [ht]; exact hH⟩, hS.F ht⟩) hS.2.2 dX12_masters_102
      · rw [if_neg c_1] at hv
        have r_6 : rgI (1) (1) y3_27 := rg_w (rg_neL ry3_27 rl_0 c_1) (by decide) (by decide)
        refine lv_aload_n hx hb dX12_masters_31 rfl (lv_at hl 0 rfl) ?_
        obtain ⟨_, ⟨rfl, t_8, hk_9⟩, o_c_7⟩ := hH h0 _ k_h0
        refine hg_get hx hb hG igX12 hown hK o_c_7 rfl 0 (by decide) (hG _ mw_1284) rfl dX12_masters_32 ?_
        refine lv_bipush (v := 72) hx hb dX12_masters_35 (by decide) ?_
        refine lv_iload_n hx hb dX12_masters_37 rfl (lv_at hl 1 rfl) ?_
        refine lv_iadd hx hb dX12_masters_38 ?_
        refine lv_topi (fun x_10 ex_10 => ?_)
        try rw [← ex_10] at hv
        obtain ⟨_, rfl, o_c_11⟩ := hH (g.2.2 100) _ hk_9.1
        have o_c_11 : va_at g.1 vwCl ((g.2.2 100), .inl (g.2.1 1, 122, .inl (G_27.2.1 (g.2.2 100)))) H := o_c_11
        have in_12 : vp_in x_10 122 := (ix72 hi0_27 ex_10).1
        refine hg_iald hx hb hK o_c_11 in_12 dX12_masters_39 ?_
        rw [(frL_27.2.1 (g.2.2 100) trivial)]
        refine lv_topi (fun x_13 ex_13 => ?_)
        try rw [← ex_13] at hv
        refine lv_if_ne (tgt := 47) hx hb dX12_masters_40 (by decide) (fun c_14 => ?_) (fun c_14 => ?_)
        · rw [if_neg c_14] at hv
          refine lv_aload_n hx hb dX12_masters_47 rfl (lv_at hl 0 rfl) ?_
          refine hg_get hx hb hG igX12 hown hK o_c_7 rfl 0 (by decide) (hG _ mw_1284) rfl dX12_masters_48 ?_
          refine lv_aload_n hx hb dX12_masters_51 rfl (lv_at hl 0 rfl) ?_
          refine hg_get hx hb hG igX12 hown hK o_c_7 rfl 0 (by decide) (hG _ mw_1284) rfl dX12_masters_52 ?_
          refine lv_bipush (v := 72) hx hb dX12_masters_55 (by decide) ?_
          refine lv_iload_n hx hb dX12_masters_57 rfl (lv_at hl 1 rfl) ?_
          refine lv_iadd hx hb dX12_masters_58 ?_
          refine lv_topi (fun x_15 ex_15 => ?_)
          try rw [← ex_15] at hv
          have q_16 : x_10 = x_15 := ex_10.trans ex_15.symm
          subst q_16
          have in_17 : vp_in x_10 122 := (ix72 hi0_27 ex_10).1
          refine hg_iald hx hb hK o_c_11 in_17 dX12_masters_59 ?_
          rw [(frL_27.2.1 (g.2.2 100) trivial)]
          refine lv_topi (fun x_18 ex_18 => ?_)
          try rw [← ex_18] at hv
          have q_19 : x_13 = x_18 := ex_13.trans ex_18.symm
          subst q_19
          refine vp_callSi (W.runS (As := [.ref (g.2.2 100), .int x_13]) (rest := []) ⟨hx, hb, hml, hown, hts⟩ (c_X12_inGroup l g Ty G_27 (g.2.2 100) x_13 (hk_9.1)) (cwSx 2 hts hG (gwC mw_1566) mw_88 mw_1564 mw_1565 rfl rfl rfl hd_X12_inGroup ⟨Nat.le_of_ble_eq_true rfl, Nat.le_of_ble_eq_true rfl⟩) ⟨PcH_blind, PcH_pre hK hH⟩ rfl rfl hl.1 rfl (lv_room (Nat.le_of_ble_eq_true rfl)) dX12_masters_60 ⟨Nat.zero_le _, Nat.zero_le _⟩) (fun x_20 hx_20 => ?_)
          try rw [← hx_20] at hv
          have ex_21 : x_20 = F_X12_inGroup (G.2.1 (g.2.2 100)) x_13 := by rw [← (frL_27.2.1 (g.2.2 100) trivial)]; exact hx_20
          try rw [← ex_21] at hv
          refine lv_istore (lv' := [(4, .int x_20), (0, .ref h0), (2, .int y2_27), (3, .int y3_27)]) hx hb dX12_masters_63 hl (by decide) rfl (fun ls hl => ?_)
          refine lv_iload hx hb dX12_masters_65 (lv_at hl 0 rfl) ?_
          refine lv_if_eq (tgt := 74) hx hb dX12_masters_67 (by decide) (fun c_22 => ?_) (fun c_22 => ?_)
          · rw [if_pos c_22] at hv
            have r_23 : rgI (0) (0) x_20 := rg_w (rg_eq rl_0 c_22) (by decide) (by decide)
            refine lv_iconst (v := 0) hx hb dX12_masters_74 (by decide) ?_
            refine lv_istore_n (lv' := [(3, .int 0), (4, .int x_20), (0, .ref h0), (2, .int y2_27)]) hx hb dX12_masters_75 rfl hl (by decide) rfl (fun ls hl => ?_)
            refine lv_iload_n hx hb dX12_masters_76 rfl (lv_at hl 0 rfl) ?_
            refine lv_if_ne (tgt := 83) hx hb dX12_masters_77 (by decide) (fun c_24 => ?_) (fun c_24 => ?_)
            · exact absurd rfl c_24
            · refine lv_goto (tgt := 27) hx hb dX12_masters_80 (by decide) ?_
              exact ih_27 H locs G_27 y2_27 0 ls (rg_w rg104_27 (by decide) (by decide)) frL_27 (rg_w rl_0 (by decide) (by decide)) hi0_27 hi1_27 (by have q1 := hm_27; have q2 := r_6.1; have q3 : (0 : Int32).toInt.toNat = 0 := rfl; show 2 * _ + (0 : Int32).toInt.toNat < _; omega) (lv_sub hl [2, 3, 0] rfl) hv hH hS
          · rw [if_neg c_22] at hv
            refine lv_iconst (v := 1) hx hb dX12_masters_70 (by decide) ?_
            refine lv_goto (tgt := 75) hx hb dX12_masters_71 (by decide) ?_
            refine lv_istore_n (lv' := [(3, .int 1), (4, .int x_20), (0, .ref h0), (2, .int y2_27)]) hx hb dX12_masters_75 rfl hl (by decide) rfl (fun ls hl => ?_)
            refine lv_iload_n hx hb dX12_masters_76 rfl (lv_at hl 0 rfl) ?_
            refine lv_if_ne (tgt := 83) hx hb dX12_masters_77 (by decide) (fun c_25 => ?_) (fun c_25 => ?_)
            · refine lv_iload hx hb dX12_masters_83 (lv_at hl 1 rfl) ?_
              refine vp_callSi (W.runS (As := [.int x_20]) (rest := []) ⟨hx, hb, hml, hown, hts⟩ (c_J6_ntz_x l g Ty G_27 x_20 ) (cwSx 1 hts hG (gwC mw_1718) mw_99 mw_1716 mw_1717 rfl rfl rfl hd_J6_numberOfTrailingZeros_0f7a4 ⟨Nat.le_of_ble_eq_true rfl, Nat.le_of_ble_eq_true rfl⟩) ⟨PcH_blind, PcH_pre hK hH⟩ rfl rfl hl.1 rfl (lv_room (Nat.le_of_ble_eq_true rfl)) dX12_masters_85 ⟨Nat.zero_le _, Nat.zero_le _⟩) (fun x_26 hx_26 => ?_)
              try rw [← hx_26] at hv
              try rw [← hx_26] at hv
              refine lv_istore_n (lv' := [(2, .int x_26), (3, .int 1), (4, .int x_20), (0, .ref h0)]) hx hb dX12_masters_88 rfl hl (by decide) rfl (fun ls hl => ?_)
              have pm_27 := pm_s hTS0.2.1 hi0_27 (by rw [ex_18, (ix72 hi0_27 ex_10).2]) (by rw [ex_18, ex_10, ← ex_10, ← ex_13]; exact c_14) ex_21 c_22 hx_26
              have r4_28 : rgI 0 23 (G_27.1 104) := ⟨(rg104_27).1, by have q := hi1_27; have q2 := pm_27.2; omega⟩
              refine lv_aload_n hx hb dX12_masters_89 rfl (lv_at hl 3 rfl) ?_
              refine lv_iload_n hx hb dX12_masters_90 rfl (lv_at hl 0 rfl) ?_
              refine lv_i2l hx hb dX12_masters_91 rfl ?_
              refine lv_topl (fun u_29 eu_29 => ?_)
              refine va_callv (va_runV (As := [.long u_29]) (rest := []) ⟨hx, hb, hml, hown, hts⟩ (c_X12_tell l g Ty G_27 H.size h0 u_29 k_h0 (rg_w r4_28 (by decide) (by decide))) (cwV 1 hts (gwV mw_1510 mw_1512 mw_48 mw_88 mw_1513) rfl rfl rfl hv_X12_tell ⟨Nat.le_of_ble_eq_true rfl, Nat.le_of_ble_eq_true rfl⟩) ⟨PcT_blind, hg_recv hK o_c_7 rfl, PcT_pre hK hH⟩ rfl rfl hl.1 rfl (lv_room (Nat.le_of_ble_eq_true rfl)) dX12_masters_92 ⟨Nat.zero_le _, Nat.zero_le _⟩) hS (fun q _ h => AF.mono hS.1 h) (fun q h => AF.mono hS.1 h) (fun ux_30 t H locs ht hvm hx_30 hB hz hk hS => ?_)
              obtain ⟨eTx_30, eGx_30⟩ := hx_30
              obtain ⟨G_31, eG_31⟩ : ∃ z, z = ux_30.2 := ⟨_, rfl⟩
              rw [← eG_31] at eGx_30
              obtain ⟨x_32, ex_32⟩ : ∃ z : Int32, z = (G_27.1 104) + 1 := ⟨_, rfl⟩
              have e_33 : G_31 = gset G_27 104 x_32 := by rw [ex_32]; exact eGx_30
              have rx_32 : rgI (1) (24) x_32 := by rw [ex_32]; exact rg_w (rg_add r4_28 rl_1 (by decide) (by decide)) (by decide) (by decide)
              have fr_34 : FR [104, 105] [] [] G G_31 := FR.n frL_27 e_33 (by decide)
              have u_35 : G_31.1 102 = (G.1 102) := by rw [e_33]; exact (gs_ne (by decide)).trans (frL_27.1 102 (by decide))
              have u_36 : G_31.1 113 = (G.1 113) := by rw [e_33]; exact (gs_ne (by decide)).trans (frL_27.1 113 (by decide))
              have u_37 : G_31.1 122 = (G.1 122) := by rw [e_33]; exact (gs_ne (by decide)).trans (frL_27.1 122 (by decide))
              have u_38 : G_31.1 133 = (G.1 133) := by rw [e_33]; exact (gs_ne (by decide)).trans (frL_27.1 133 (by decide))
              have u_39 : G_31.1 137 = (G.1 137) := by rw [e_33]; exact (gs_ne (by decide)).trans (frL_27.1 137 (by decide))
              have u_40 : G_31.1 104 = x_32 := by rw [e_33]; exact gs_eq
              have w_41 : G_31.2.1 (g.2.2 100) = (G.2.1 (g.2.2 100)) := by rw [e_33]; exact (frL_27.2.1 (g.2.2 100) trivial)
              have w_42 : G_31.2.1 (g.2.2 121) = (G.2.1 (g.2.2 121)) := by rw [e_33]; exact (frL_27.2.1 (g.2.2 121) trivial)
              have w_43 : G_31.2.1 (g.2.2 140) = (G.2.1 (g.2.2 140)) := by rw [e_33]; exact (frL_27.2.1 (g.2.2 140) trivial)
              have w_44 : G_31.2.1 (g.2.2 141) = (G.2.1 (g.2.2 141)) := by rw [e_33]; exact (frL_27.2.1 (g.2.2 141) trivial)
              have w_45 : G_31.2.1 (g.2.2 111) = (G.2.1 (g.2.2 111)) := by rw [e_33]; exact (frL_27.2.1 (g.2.2 111) trivial)
              have u_46 : G_31.2.2 111 = some (g.2.2 111) := by rw [e_33]; exact ((frL_27.2.2 111 (by decide)).trans hI.r111)
              have u_47 : G_31.2.2 112 = some (g.2.2 112) := by rw [e_33]; exact ((frL_27.2.2 112 (by decide)).trans hI.r112)
              try rw [← ex_32] at hv
              have hH : HT g Ty G_31 H := by rw [← ht, ← eTx_30, eG_31]; exact hB
              refine lv_goto (tgt := 27) hx hb dX12_masters_95 (by decide) ?_
              exact ih_27 H locs G_31 x_26 1 ls (by rw [u_40]; exact rg_w rx_32 (by decide) (by decide)) fr_34 (rg_w rl_1 (by decide) (by decide)) pm_27.1 (by rw [u_40]; exact ma_r hi1_27 (rg104_27).1 pm_27.2 ex_32) (by have q1 := hm_27; have q2 := pm_27.2; have q3 : (1 : Int32).toInt.toNat = 1 := rfl; show 2 * _ + (1 : Int32).toInt.toNat < _; omega) (lv_sub hl [3, 0, 1] rfl) (by rw [u_40]; exact hv) hH hS
            · exact rg_noE rl_1 rl_0 c_25 (by decide)
        · rw [if_pos c_14] at hv
          have r_48 : rgI (0) (0) x_13 := rg_w (rg_eq rl_0 c_14) (by decide) (by decide)
          refine lv_iconst (v := 0) hx hb dX12_masters_43 (by decide) ?_
          refine lv_goto (tgt := 63) hx hb dX12_masters_44 (by decide) ?_
          refine lv_istore (lv' := [(4, .int 0), (0, .ref h0), (2, .int y2_27), (3, .int y3_27)]) hx hb dX12_masters_63 hl (by decide) rfl (fun ls hl => ?_)
          refine lv_iload hx hb dX12_masters_65 (lv_at hl 0 rfl) ?_
          refine lv_if_eq (tgt := 74) hx hb dX12_masters_67 (by decide) (fun c_49 => ?_) (fun c_49 => ?_)
          · refine lv_iconst (v := 0) hx hb dX12_masters_74 (by decide) ?_
            refine lv_istore_n (lv' := [(3, .int 0), (4, .int 0), (0, .ref h0), (2, .int y2_27)]) hx hb dX12_masters_75 rfl hl (by decide) rfl (fun ls hl => ?_)
            refine lv_iload_n hx hb dX12_masters_76 rfl (lv_at hl 0 rfl) ?_
            refine lv_if_ne (tgt := 83) hx hb dX12_masters_77 (by decide) (fun c_50 => ?_) (fun c_50 => ?_)
            · exact absurd rfl c_50
            · refine lv_goto (tgt := 27) hx hb dX12_masters_80 (by decide) ?_
              exact ih_27 H locs G_27 y2_27 0 ls (rg_w rg104_27 (by decide) (by decide)) frL_27 (rg_w rl_0 (by decide) (by decide)) hi0_27 hi1_27 (by have q1 := hm_27; have q2 := r_6.1; have q3 : (0 : Int32).toInt.toNat = 0 := rfl; show 2 * _ + (0 : Int32).toInt.toNat < _; omega) (lv_sub hl [2, 3, 0] rfl) hv hH hS
          · exact absurd rfl c_49
  refine lv_aload_n hx hb dX12_masters_0 rfl (lv_at hl 0 rfl) ?_
  refine lv_iconst (v := 0) hx hb dX12_masters_1 (by decide) ?_
  obtain ⟨_, ⟨rfl, t_52, hk_53⟩, o_c_51⟩ := hH h0 _ k_h0
  refine hg_put (ty := .int) hx hb hG igX12 tyX12 tyX12_ok nmX12 hown hK hS o_c_51 (AF.of k_h0) rfl 5 (by decide) (hG _ mw_1289) rfl (by decide +kernel) rfl rfl (Nat.le_of_ble_eq_true rfl) dX12_masters_2 (fun H locs o_c_51 hz oq hS => ?_)
  obtain ⟨G_54, eG_54⟩ : ∃ z : Gh, z = gset G 105 0 := ⟨_, rfl⟩
  have hH : HT g Ty G_54 H := by rw [eG_54]; exact HT.putN 105 0 hH k_h0 ⟨rfl, t_52, hk_53⟩ o_c_51 oq (Or.inr (Or.inr (Or.inr (Or.inr (Or.inr ⟨by decide, t_52⟩)))))
  have fr_55 : FR [104, 105] [] [] G G_54 := FR.n FR.rf eG_54 (by decide)
  have u_56 : G_54.1 102 = (G.1 102) := by rw [eG_54]; exact (gs_ne (by decide))
  have u_57 : G_54.1 104 = (G.1 104) := by rw [eG_54]; exact (gs_ne (by decide))
  have u_58 : G_54.1 113 = (G.1 113) := by rw [eG_54]; exact (gs_ne (by decide))
  have u_59 : G_54.1 122 = (G.1 122) := by rw [eG_54]; exact (gs_ne (by decide))
  have u_60 : G_54.1 133 = (G.1 133) := by rw [eG_54]; exact (gs_ne (by decide))
  have u_61 : G_54.1 137 = (G.1 137) := by rw [eG_54]; exact (gs_ne (by decide))
  have u_62 : G_54.1 105 = 0 := by rw [eG_54]; exact gs_eq
  have w_63 : G_54.2.1 (g.2.2 100) = (G.2.1 (g.2.2 100)) := by rw [eG_54]; exact rfl
  have w_64 : G_54.2.1 (g.2.2 121) = (G.2.1 (g.2.2 121)) := by rw [eG_54]; exact rfl
  have w_65 : G_54.2.1 (g.2.2 140) = (G.2.1 (g.2.2 140)) := by rw [eG_54]; exact rfl
  have w_66 : G_54.2.1 (g.2.2 141) = (G.2.1 (g.2.2 141)) := by rw [eG_54]; exact rfl
  have w_67 : G_54.2.1 (g.2.2 111) = (G.2.1 (g.2.2 111)) := by rw [eG_54]; exact rfl
  have u_68 : G_54.2.2 111 = some (g.2.2 111) := by rw [eG_54]; exact hI.r111
  have u_69 : G_54.2.2 112 = some (g.2.2 112) := by rw [eG_54]; exact hI.r112
  clear oq hz
  refine lv_aload_n hx hb dX12_masters_5 rfl (lv_at hl 0 rfl) ?_
  obtain ⟨_, ⟨rfl, t_71, hk_72⟩, o_c_70⟩ := hH h0 _ k_h0
  refine hg_get hx hb hG igX12 hown hK o_c_70 rfl 0 (by decide) (hG _ mw_1284) rfl dX12_masters_6 ?_
  refine lv_iload_n hx hb dX12_masters_9 rfl (lv_at hl 1 rfl) ?_
  refine vp_callSi (W.runS (As := [.ref (g.2.2 100), .int a0]) (rest := []) ⟨hx, hb, hml, hown, hts⟩ (c_X12_isThere l g Ty G_54 (g.2.2 100) a0 (hk_72.1)) (cwSx 2 hts hG (gwC mw_1520) mw_88 mw_1518 mw_1519 rfl rfl rfl hd_X12_isThere ⟨Nat.le_of_ble_eq_true rfl, Nat.le_of_ble_eq_true rfl⟩) ⟨PcH_blind, PcH_pre hK hH⟩ rfl rfl hl.1 rfl (lv_room (Nat.le_of_ble_eq_true rfl)) dX12_masters_10 ⟨Nat.zero_le _, Nat.zero_le _⟩) (fun x_73 hx_73 => ?_)
  have rx_73 : rgI (0) (1) x_73 := hx_73.1
  try rw [← hx_73.2.2] at hv
  have ex_74 : x_73 = F_X12_isThere (G.2.1 (g.2.2 100)) a0 := by rw [← w_63]; exact hx_73.2.2
  try rw [← ex_74] at hv
  refine lv_if_ne (tgt := 18) hx hb dX12_masters_13 (by decide) (fun c_75 => ?_) (fun c_75 => ?_)
  · rw [if_neg c_75] at hv
    have th_76 : thr (G.2.1 (g.2.2 100)) a0 := F_isThere_thr (by rw [← ex_74]; exact c_75)
    have r_77 : rgI (1) (1) x_73 := rg_w (rg_neL rx_73 rl_0 c_75) (by decide) (by decide)
    have r_78 : rgI (0) (23) a0 := rg_w (hx_73.2.1.resolve_left c_75) (by decide) (by decide)
    refine lv_aload_n hx hb dX12_masters_18 rfl (lv_at hl 0 rfl) ?_
    refine lv_iconst (v := 0) hx hb dX12_masters_19 (by decide) ?_
    refine hg_put (ty := .int) hx hb hG igX12 tyX12 tyX12_ok nmX12 hown hK hS o_c_70 (AF.of k_h0) rfl 4 (by decide) (hG _ mw_1288) rfl (by decide +kernel) rfl rfl (Nat.le_of_ble_eq_true rfl) dX12_masters_20 (fun H locs o_c_70 hz oq hS => ?_)
    obtain ⟨G_79, eG_79⟩ : ∃ z : Gh, z = gset G_54 104 0 := ⟨_, rfl⟩
    have hH : HT g Ty G_79 H := by rw [eG_79]; exact HT.putN 104 0 hH k_h0 ⟨rfl, t_71, hk_72⟩ o_c_70 oq (Or.inr (Or.inr (Or.inr (Or.inr (Or.inr ⟨by decide, t_71⟩)))))
    have fr_80 : FR [104, 105] [] [] G G_79 := FR.n fr_55 eG_79 (by decide)
    have u_81 : G_79.1 102 = (G.1 102) := by rw [eG_79]; exact (gs_ne (by decide)).trans u_56
    have u_82 : G_79.1 113 = (G.1 113) := by rw [eG_79]; exact (gs_ne (by decide)).trans u_58
    have u_83 : G_79.1 122 = (G.1 122) := by rw [eG_79]; exact (gs_ne (by decide)).trans u_59
    have u_84 : G_79.1 133 = (G.1 133) := by rw [eG_79]; exact (gs_ne (by decide)).trans u_60
    have u_85 : G_79.1 137 = (G.1 137) := by rw [eG_79]; exact (gs_ne (by decide)).trans u_61
    have u_86 : G_79.1 105 = 0 := by rw [eG_79]; exact (gs_ne (by decide)).trans u_62
    have u_87 : G_79.1 104 = 0 := by rw [eG_79]; exact gs_eq
    have w_88 : G_79.2.1 (g.2.2 100) = (G.2.1 (g.2.2 100)) := by rw [eG_79]; exact w_63
    have w_89 : G_79.2.1 (g.2.2 121) = (G.2.1 (g.2.2 121)) := by rw [eG_79]; exact w_64
    have w_90 : G_79.2.1 (g.2.2 140) = (G.2.1 (g.2.2 140)) := by rw [eG_79]; exact w_65
    have w_91 : G_79.2.1 (g.2.2 141) = (G.2.1 (g.2.2 141)) := by rw [eG_79]; exact w_66
    have w_92 : G_79.2.1 (g.2.2 111) = (G.2.1 (g.2.2 111)) := by rw [eG_79]; exact w_67
    have u_93 : G_79.2.2 111 = some (g.2.2 111) := by rw [eG_79]; exact u_68
    have u_94 : G_79.2.2 112 = some (g.2.2 112) := by rw [eG_79]; exact u_69
    clear oq hz
    refine lv_iload_n hx hb dX12_masters_23 rfl (lv_at hl 1 rfl) ?_
    refine lv_istore_n (lv' := [(2, .int a0), (0, .ref h0), (1, .int a0)]) hx hb dX12_masters_24 rfl hl (by decide) rfl (fun ls hl => ?_)
    refine lv_iconst (v := 1) hx hb dX12_masters_25 (by decide) ?_
    refine lv_istore_n (lv' := [(3, .int 1), (2, .int a0), (0, .ref h0), (1, .int a0)]) hx hb dX12_masters_26 rfl hl (by decide) rfl (fun ls hl => ?_)
    exact L_27 51 H locs G_79 a0 1 ls (by rw [u_87]; exact rg_w rl_0 (by decide) (by decide)) fr_80 (rg_w rl_1 (by decide) (by decide)) th_76 (by rw [u_87]; have q := pm_24 (f := (G.2.1 (g.2.2 100))) (σ := σ0) (a := a0.toNatClampNeg); show (0 : Int) + _ ≤ 24; omega) (by have q := pm_24 (f := (G.2.1 (g.2.2 100))) (σ := σ0) (a := a0.toNatClampNeg); have q3 : (1 : Int32).toInt.toNat = 1 := rfl; show 2 * _ + (1 : Int32).toInt.toNat < _; omega) (lv_sub hl [2, 1, 0] rfl) (by rw [u_87]; exact hv) hH hS
  · rw [if_pos c_75] at hv
    have r_95 : rgI (0) (0) x_73 := rg_w (rg_eq rl_0 c_75) (by decide) (by decide)
    refine lv_iconst (v := (-1)) hx hb dX12_masters_16 (by decide) ?_
    exact W.iret hx hb hr (fun t ht hWm => ⟨⟨(-1), (Ty, G_54), rfl, ⟨rfl, ⟨fr_55, ⟨⟨(by rw [u_56]; exact (rg_w hI.a102 (by decide) (by decide))), (by rw [u_57]; exact (rg_w hI.a104 (by decide) (by decide))), (by rw [u_58]; exact (rg_w hI.a113 (by decide) (by decide))), (by rw [u_59]; exact (rg_w hI.a122 (by decide) (by decide))), (by rw [u_60]; exact (rg_w hI.a133 (by decide) (by decide))), (by rw [u_61]; exact (rg_w hI.a137 (by decide) (by decide))), u_68, u_69, (by rw [w_63]; exact (hI.ti.hi (show Bd ≤ Bd + 1000 by omega))), (hI.un2 (show Bd ≤ Bd + 1000 by omega) w_64 u_59), (hI.ke2 (show Bd ≤ Bd + 1000 by omega) w_65 w_66)⟩, hv.symm.trans (by rw [u_57])⟩⟩⟩, by show HT g Ty G_54 t.heap; rw [ht]; exact hH⟩, hS.F ht⟩) hS.2.2 dX12_masters_17

def F_X12_mount_x (r0 : Nat → Int32) (m105 : Int32) (a0 : Int32) (a1 : Int32) : Int32 × Int32 := (if (F_X12_isThere r0 a0) = (0 : Int32) then (tu2 (F_X12_lost_x (0 : Int32)) (fun z5 z6 => (z5, z6))) else (if (F_X12_in a1 (0 : Int32) (5 : Int32)) = (0 : Int32) then (tu2 (F_X12_lost_x (0 : Int32)) (fun z7 z8 => (z7, z8))) else (if a1 = (0 : Int32) then ((r0 (Int32.toNatClampNeg a0)), (0 : Int32)) else (if a1 = (1 : Int32) then ((r0 (Int32.toNatClampNeg ((24 : Int32) + a0))), (0 : Int32)) else (if a1 = (2 : Int32) then ((r0 (Int32.toNatClampNeg ((48 : Int32) + a0))), (0 : Int32)) else (if a1 = (3 : Int32) then ((r0 (Int32.toNatClampNeg ((72 : Int32) + a0))), (0 : Int32)) else (if a1 = (4 : Int32) then ((F_X12_kindOf r0 a0), (0 : Int32)) else ((F_X12_stepsOf r0 a0), (0 : Int32)))))))))
set_option maxHeartbeats 4000000 in
set_option maxRecDepth 100000 in
theorem c_X12_mount_x (l : Launch) (g : Gx) (Ty : TyM) (G : Gh) (sz : Nat) (h0 : Nat) (a0 : Int32) (a1 : Int32) (k_h0 : Ty h0 = some (22, 0)) (Bd : Int) (hI : OI g Bd G) (hBd : Bd ≤ 1900000) (hLD : LD g) : Met l yX12_mount (wsG yX12_mount cX12_mount 3 (some .int)) ({ frames := 2, cells := 0, slots := 0, locals := 43 }) (PcT g Ty G sz [.ref h0, .int a0, .int a1]) (QwI g Ty sz (fun r u => u.1 = Ty ∧ FR [105] [] [] G u.2 ∧ OI g (Bd + 1000) u.2 ∧ F_X12_mount_x (G.2.1 (g.2.2 100)) (G.1 105) a0 a1 = (r, (u.2.1 105)))) 0 0 (AF Ty sz) := by
  refine Met.ofW (cc := cX12_mount) (maxL := 3) (ret := (some .int)) (by decide) rfl ?_
  intro p e s m args below meth c s₁ B hml hv
  obtain ⟨rfl, hsz, hK, hH⟩ := hv
  subst hsz
  have hx := B.exec
  have hb := B.bytes
  have hr := B.returns
  have hts := atoms_spec (ws := (wsG yX12_mount cX12_mount 3 (some .int))) B.pre
  have hG : ∀ w ∈ GW, w.before ([.ref h0, .int a0, .int a1] : List Value).toArray s = true := fun w h => hts w (List.mem_cons_of_mem _ h)
  have hown : s.vm.findClass RX12 = some m.cls := findClass_of_methodNamed B.named
  have hlocks := B.notSynchronized
  have hl := lv_entry [.ref h0, .int a0, .int a1] (n := 3) (Nat.le_of_ble_eq_true rfl)
  rw [lg_entry_eq]
  generalize (lg_sl [.ref h0, .int a0, .int a1] ++ List.replicate (3 - (lg_sl [.ref h0, .int a0, .int a1]).length) Slot.unset).toArray = ls at hl ⊢
  have hl : lv_has ls 3 [(0, .ref h0), (1, .int a0), (2, .int a1)] := hl
  have hmk : mdK g Ty := mdk_of hH k_h0
  have hv : (if (F_X12_isThere (G.2.1 (g.2.2 100)) a0) = (0 : Int32) then (tu2 (F_X12_lost_x (0 : Int32)) (fun z1 z2 => (z1, z2))) else (if (F_X12_in a1 (0 : Int32) (5 : Int32)) = (0 : Int32) then (tu2 (F_X12_lost_x (0 : Int32)) (fun z3 z4 => (z3, z4))) else (if a1 = (0 : Int32) then (((G.2.1 (g.2.2 100)) (Int32.toNatClampNeg a0)), (0 : Int32)) else (if a1 = (1 : Int32) then (((G.2.1 (g.2.2 100)) (Int32.toNatClampNeg ((24 : Int32) + a0))), (0 : Int32)) else (if a1 = (2 : Int32) then (((G.2.1 (g.2.2 100)) (Int32.toNatClampNeg ((48 : Int32) + a0))), (0 : Int32)) else (if a1 = (3 : Int32) then (((G.2.1 (g.2.2 100)) (Int32.toNatClampNeg ((72 : Int32) + a0))), (0 : Int32)) else (if a1 = (4 : Int32) then ((F_X12_kindOf (G.2.1 (g.2.2 100)) a0), (0 : Int32)) else ((F_X12_stepsOf (G.2.1 (g.2.2 100)) a0), (0 : Int32))))))))) = F_X12_mount_x (G.2.1 (g.2.2 100)) (G.1 105) a0 a1 := rfl
  have hS : va_S (AF Ty s.heap.size) s.heap s.heap [] := va_S.rf
  obtain ⟨⟨σ0, hTS0⟩, h10, hBB0⟩ := id hI.ti
  obtain ⟨ρ, hT⟩ := hTS0.1
  refine lv_aload_n hx hb dX12_mount_0 rfl (lv_at hl 0 rfl) ?_
  refine lv_iconst (v := 0) hx hb dX12_mount_1 (by decide) ?_
  obtain ⟨_, ⟨rfl, t_2, hk_3⟩, o_c_1⟩ := hH h0 _ k_h0
  refine hg_put (ty := .int) hx hb hG igX12 tyX12 tyX12_ok nmX12 hown hK hS o_c_1 (AF.of k_h0) rfl 5 (by decide) (hG _ mw_1289) rfl (by decide +kernel) rfl rfl (Nat.le_of_ble_eq_true rfl) dX12_mount_2 (fun H locs o_c_1 hz oq hS => ?_)
  obtain ⟨G_4, eG_4⟩ : ∃ z : Gh, z = gset G 105 0 := ⟨_, rfl⟩
  have hH : HT g Ty G_4 H := by rw [eG_4]; exact HT.putN 105 0 hH k_h0 ⟨rfl, t_2, hk_3⟩ o_c_1 oq (Or.inr (Or.inr (Or.inr (Or.inr (Or.inr ⟨by decide, t_2⟩)))))
  have fr_5 : FR [105] [] [] G G_4 := FR.n FR.rf eG_4 (by decide)
  have u_6 : G_4.1 102 = (G.1 102) := by rw [eG_4]; exact (gs_ne (by decide))
  have u_7 : G_4.1 104 = (G.1 104) := by rw [eG_4]; exact (gs_ne (by decide))
  have u_8 : G_4.1 113 = (G.1 113) := by rw [eG_4]; exact (gs_ne (by decide))
  have u_9 : G_4.1 122 = (G.1 122) := by rw [eG_4]; exact (gs_ne (by decide))
  have u_10 : G_4.1 133 = (G.1 133) := by rw [eG_4]; exact (gs_ne (by decide))
  have u_11 : G_4.1 137 = (G.1 137) := by rw [eG_4]; exact (gs_ne (by decide))
  have u_12 : G_4.1 105 = 0 := by rw [eG_4]; exact gs_eq
  have w_13 : G_4.2.1 (g.2.2 100) = (G.2.1 (g.2.2 100)) := by rw [eG_4]; exact rfl
  have w_14 : G_4.2.1 (g.2.2 121) = (G.2.1 (g.2.2 121)) := by rw [eG_4]; exact rfl
  have w_15 : G_4.2.1 (g.2.2 140) = (G.2.1 (g.2.2 140)) := by rw [eG_4]; exact rfl
  have w_16 : G_4.2.1 (g.2.2 141) = (G.2.1 (g.2.2 141)) := by rw [eG_4]; exact rfl
  have w_17 : G_4.2.1 (g.2.2 111) = (G.2.1 (g.2.2 111)) := by rw [eG_4]; exact rfl
  have u_18 : G_4.2.2 111 = some (g.2.2 111) := by rw [eG_4]; exact hI.r111
  have u_19 : G_4.2.2 112 = some (g.2.2 112) := by rw [eG_4]; exact hI.r112
  clear oq hz
  refine lv_aload_n hx hb dX12_mount_5 rfl (lv_at hl 0 rfl) ?_
  obtain ⟨_, ⟨rfl, t_21, hk_22⟩, o_c_20⟩ := hH h0 _ k_h0
  refine hg_get hx hb hG igX12 hown hK o_c_20 rfl 0 (by decide) (hG _ mw_1284) rfl dX12_mount_6 ?_
  refine lv_iload_n hx hb dX12_mount_9 rfl (lv_at hl 1 rfl) ?_
  refine vp_callSi (W.runS (As := [.ref (g.2.2 100), .int a0]) (rest := []) ⟨hx, hb, hml, hown, hts⟩ (c_X12_isThere l g Ty G_4 (g.2.2 100) a0 (hk_22.1)) (cwSx 2 hts hG (gwC mw_1520) mw_88 mw_1518 mw_1519 rfl rfl rfl hd_X12_isThere ⟨Nat.le_of_ble_eq_true rfl, Nat.le_of_ble_eq_true rfl⟩) ⟨PcH_blind, PcH_pre hK hH⟩ rfl rfl hl.1 rfl (lv_room (Nat.le_of_ble_eq_true rfl)) dX12_mount_10 ⟨Nat.zero_le _, Nat.zero_le _⟩) (fun x_23 hx_23 => ?_)
  have rx_23 : rgI (0) (1) x_23 := hx_23.1
  try rw [← hx_23.2.2] at hv
  have ex_24 : x_23 = F_X12_isThere (G.2.1 (g.2.2 100)) a0 := by rw [← w_13]; exact hx_23.2.2
  try rw [← ex_24] at hv
  refine lv_if_eq (tgt := 25) hx hb dX12_mount_13 (by decide) (fun c_25 => ?_) (fun c_25 => ?_)
  · rw [if_pos c_25] at hv
    have r_26 : rgI (0) (0) x_23 := rg_w (rg_eq rl_0 c_25) (by decide) (by decide)
    refine lv_aload_n hx hb dX12_mount_25 rfl (lv_at hl 0 rfl) ?_
    refine va_calli (va_runV (As := []) (rest := []) ⟨hx, hb, hml, hown, hts⟩ (c_X12_lost_x l g Ty G_4 H.size h0 k_h0) (cwV 0 hts (gwV mw_1521 mw_1523 mw_49 mw_88 mw_1524) rfl rfl rfl hv_X12_lost ⟨Nat.le_of_ble_eq_true rfl, Nat.le_of_ble_eq_true rfl⟩) ⟨PcT_blind, hg_recv hK o_c_20 rfl, PcT_pre hK hH⟩ rfl rfl hl.1 rfl (lv_room (Nat.le_of_ble_eq_true rfl)) dX12_mount_26 ⟨Nat.zero_le _, Nat.zero_le _⟩) hS (fun q _ h => AF.mono hS.1 h) (fun q h => AF.mono hS.1 h) (fun x_27 ux_27 t H locs ht hvm hx_27 hB hz hk hS => ?_)
    obtain ⟨eTx_27, eGx_27⟩ := hx_27
    obtain ⟨G_28, eG_28⟩ : ∃ z, z = ux_27.2 := ⟨_, rfl⟩
    rw [← eG_28] at eGx_27
    obtain ⟨hfr_29, hex_30⟩ := eGx_27
    have fr_31 : FR [105] [] [] G G_28 := FR.tr fr_5 hfr_29 (by decide) (fun _ _ => trivial) (by decide)
    have u_32 : G_28.1 102 = (G.1 102) := (hfr_29.1 102 (by decide)).trans u_6
    have u_33 : G_28.1 104 = (G.1 104) := (hfr_29.1 104 (by decide)).trans u_7
    have u_34 : G_28.1 113 = (G.1 113) := (hfr_29.1 113 (by decide)).trans u_8
    have u_35 : G_28.1 122 = (G.1 122) := (hfr_29.1 122 (by decide)).trans u_9
    have u_36 : G_28.1 133 = (G.1 133) := (hfr_29.1 133 (by decide)).trans u_10
    have u_37 : G_28.1 137 = (G.1 137) := (hfr_29.1 137 (by decide)).trans u_11
    have w_38 : G_28.2.1 (g.2.2 100) = (G.2.1 (g.2.2 100)) := (hfr_29.2.1 (g.2.2 100) trivial).trans w_13
    have w_39 : G_28.2.1 (g.2.2 121) = (G.2.1 (g.2.2 121)) := (hfr_29.2.1 (g.2.2 121) trivial).trans w_14
    have w_40 : G_28.2.1 (g.2.2 140) = (G.2.1 (g.2.2 140)) := (hfr_29.2.1 (g.2.2 140) trivial).trans w_15
    have w_41 : G_28.2.1 (g.2.2 141) = (G.2.1 (g.2.2 141)) := (hfr_29.2.1 (g.2.2 141) trivial).trans w_16
    have w_42 : G_28.2.1 (g.2.2 111) = (G.2.1 (g.2.2 111)) := (hfr_29.2.1 (g.2.2 111) trivial).trans w_17
    have u_43 : G_28.2.2 111 = some (g.2.2 111) := (hfr_29.2.2 111 (by decide)).trans u_18
    have u_44 : G_28.2.2 112 = some (g.2.2 112) := (hfr_29.2.2 112 (by decide)).trans u_19
    obtain ⟨n_45, en_45⟩ : ∃ z : Int32, G_28.1 105 = z := ⟨_, rfl⟩
    have hq_46 : F_X12_lost_x 0 = (x_27, n_45) := by have q := hex_30; rw [u_12, en_45] at q; exact q
    rw [hq_46, tu2_eq] at hv
    have hH : HT g Ty G_28 H := by rw [← ht, ← eTx_27, eG_28]; exact hB
    exact W.iret hx hb hr (fun t ht hWm => ⟨⟨x_27, (Ty, G_28), rfl, ⟨rfl, ⟨fr_31, ⟨⟨(by rw [u_32]; exact (rg_w hI.a102 (by decide) (by decide))), (by rw [u_33]; exact (rg_w hI.a104 (by decide) (by decide))), (by rw [u_34]; exact (rg_w hI.a113 (by decide) (by decide))), (by rw [u_35]; exact (rg_w hI.a122 (by decide) (by decide))), (by rw [u_36]; exact (rg_w hI.a133 (by decide) (by decide))), (by rw [u_37]; exact (rg_w hI.a137 (by decide) (by decide))), u_43, u_44, (by rw [w_38]; exact (hI.ti.hi (show Bd ≤ Bd + 1000 by omega))), (hI.un2 (show Bd ≤ Bd + 1000 by omega) w_39 u_35), (hI.ke2 (show Bd ≤ Bd + 1000 by omega) w_40 w_41)⟩, hv.symm.trans (by rw [en_45])⟩⟩⟩, by show HT g Ty G_28 t.heap; rw [ht]; exact hH⟩, hS.F ht⟩) hS.2.2 dX12_mount_29
  · rw [if_neg c_25] at hv
    have th_47 : thr (G.2.1 (g.2.2 100)) a0 := F_isThere_thr (by rw [← ex_24]; exact c_25)
    have r_48 : rgI (1) (1) x_23 := rg_w (rg_neL rx_23 rl_0 c_25) (by decide) (by decide)
    have r_49 : rgI (0) (23) a0 := rg_w (hx_23.2.1.resolve_left c_25) (by decide) (by decide)
    refine lv_iload_n hx hb dX12_mount_16 rfl (lv_at hl 2 rfl) ?_
    refine lv_iconst (v := 0) hx hb dX12_mount_17 (by decide) ?_
    refine lv_iconst (v := 5) hx hb dX12_mount_18 (by decide) ?_
    refine vp_callSi (W.runS (As := [.int a1, .int 0, .int 5]) (rest := []) ⟨hx, hb, hml, hown, hts⟩ (c_X12_in l g Ty G_4 a1 0 5 ) (cwSx 3 hts hG (gwC mw_1426) mw_88 mw_1424 mw_1425 rfl rfl rfl hd_X12_in ⟨Nat.le_of_ble_eq_true rfl, Nat.le_of_ble_eq_true rfl⟩) ⟨PcH_blind, PcH_pre hK hH⟩ rfl rfl hl.1 rfl (lv_room (Nat.le_of_ble_eq_true rfl)) dX12_mount_19 ⟨Nat.zero_le _, Nat.zero_le _⟩) (fun x_50 hx_50 => ?_)
    have rx_50 : rgI (0) (1) x_50 := hx_50.1
    try rw [← hx_50.2.2] at hv
    try rw [← hx_50.2.2] at hv
    refine lv_if_ne (tgt := 30) hx hb dX12_mount_22 (by decide) (fun c_51 => ?_) (fun c_51 => ?_)
    · rw [if_neg c_51] at hv
      have r_52 : rgI (1) (1) x_50 := rg_w (rg_neL rx_50 rl_0 c_51) (by decide) (by decide)
      have r_53 : rgI (0) (5) a1 := rg_w (in_rng hx_50.2.1 c_51 rl_0 rl_5) (by decide) (by decide)
      refine lv_iload_n hx hb dX12_mount_30 rfl (lv_at hl 2 rfl) ?_
      by_cases c_54 : a1 = 0
      · refine lv_tableIn (tgt := 64) hx hb dX12_mount_31 (by rw [c_54]; decide) (by rw [c_54]; decide) (off := 33) (by rw [c_54]; rfl) (by decide) ?_
        rw [if_pos c_54] at hv
        have r_55 : rgI (0) (0) a1 := rg_w (rg_eq rl_0 c_54) (by decide) (by decide)
        refine lv_aload_n hx hb dX12_mount_64 rfl (lv_at hl 0 rfl) ?_
        refine hg_get hx hb hG igX12 hown hK o_c_20 rfl 0 (by decide) (hG _ mw_1284) rfl dX12_mount_65 ?_
        refine lv_iload_n hx hb dX12_mount_68 rfl (lv_at hl 1 rfl) ?_
        obtain ⟨_, rfl, o_c_56⟩ := hH (g.2.2 100) _ hk_22.1
        have o_c_56 : va_at g.1 vwCl ((g.2.2 100), .inl (g.2.1 1, 122, .inl (G_4.2.1 (g.2.2 100)))) H := o_c_56
        refine hg_iald hx hb hK o_c_56 (rg_in (n := 122) r_49 (by decide) (by decide)) dX12_mount_69 ?_
        rw [w_13]
        refine lv_topi (fun x_57 ex_57 => ?_)
        try rw [← ex_57] at hv
        exact W.iret hx hb hr (fun t ht hWm => ⟨⟨x_57, (Ty, G_4), rfl, ⟨rfl, ⟨fr_5, ⟨⟨(by rw [u_6]; exact (rg_w hI.a102 (by decide) (by decide))), (by rw [u_7]; exact (rg_w hI.a104 (by decide) (by decide))), (by rw [u_8]; exact (rg_w hI.a113 (by decide) (by decide))), (by rw [u_9]; exact (rg_w hI.a122 (by decide) (by decide))), (by rw [u_10]; exact (rg_w hI.a133 (by decide) (by decide))), (by rw [u_11]; exact (rg_w hI.a137 (by decide) (by decide))), u_18, u_19, (by rw [w_13]; exact (hI.ti.hi (show Bd ≤ Bd + 1000 by omega))), (hI.un2 (show Bd ≤ Bd + 1000 by omega) w_14 u_9), (hI.ke2 (show Bd ≤ Bd + 1000 by omega) w_15 w_16)⟩, hv.symm.trans (by rw [u_12])⟩⟩⟩, by show HT g Ty G_4 t.heap; rw [ht]; exact hH⟩, hS.F ht⟩) hS.2.2 dX12_mount_70
      rw [if_neg c_54] at hv
      by_cases c_58 : a1 = 1
      · refine lv_tableIn (tgt := 71) hx hb dX12_mount_31 (by rw [c_58]; decide) (by rw [c_58]; decide) (off := 40) (by rw [c_58]; rfl) (by decide) ?_
        rw [if_pos c_58] at hv
        have r_59 : rgI (1) (1) a1 := rg_w (rg_eq rl_1 c_58) (by decide) (by decide)
        refine lv_aload_n hx hb dX12_mount_71 rfl (lv_at hl 0 rfl) ?_
        refine hg_get hx hb hG igX12 hown hK o_c_20 rfl 0 (by decide) (hG _ mw_1284) rfl dX12_mount_72 ?_
        refine lv_bipush (v := 24) hx hb dX12_mount_75 (by decide) ?_
        refine lv_iload_n hx hb dX12_mount_77 rfl (lv_at hl 1 rfl) ?_
        refine lv_iadd hx hb dX12_mount_78 ?_
        refine lv_topi (fun x_60 ex_60 => ?_)
        try rw [← ex_60] at hv
        have rx_60 : rgI (24) (47) x_60 := by rw [ex_60]; exact rg_w (rg_add rl_24 r_49 (by decide) (by decide)) (by decide) (by decide)
        obtain ⟨_, rfl, o_c_61⟩ := hH (g.2.2 100) _ hk_22.1
        have o_c_61 : va_at g.1 vwCl ((g.2.2 100), .inl (g.2.1 1, 122, .inl (G_4.2.1 (g.2.2 100)))) H := o_c_61
        refine hg_iald hx hb hK o_c_61 (rg_in (n := 122) rx_60 (by decide) (by decide)) dX12_mount_79 ?_
        rw [w_13]
        refine lv_topi (fun x_62 ex_62 => ?_)
        try rw [← ex_62] at hv
        exact W.iret hx hb hr (fun t ht hWm => ⟨⟨x_62, (Ty, G_4), rfl, ⟨rfl, ⟨fr_5, ⟨⟨(by rw [u_6]; exact (rg_w hI.a102 (by decide) (by decide))), (by rw [u_7]; exact (rg_w hI.a104 (by decide) (by decide))), (by rw [u_8]; exact (rg_w hI.a113 (by decide) (by decide))), (by rw [u_9]; exact (rg_w hI.a122 (by decide) (by decide))), (by rw [u_10]; exact (rg_w hI.a133 (by decide) (by decide))), (by rw [u_11]; exact (rg_w hI.a137 (by decide) (by decide))), u_18, u_19, (by rw [w_13]; exact (hI.ti.hi (show Bd ≤ Bd + 1000 by omega))), (hI.un2 (show Bd ≤ Bd + 1000 by omega) w_14 u_9), (hI.ke2 (show Bd ≤ Bd + 1000 by omega) w_15 w_16)⟩, hv.symm.trans (by rw [u_12])⟩⟩⟩, by show HT g Ty G_4 t.heap; rw [ht]; exact hH⟩, hS.F ht⟩) hS.2.2 dX12_mount_80
      rw [if_neg c_58] at hv
      by_cases c_63 : a1 = 2
      · refine lv_tableIn (tgt := 81) hx hb dX12_mount_31 (by rw [c_63]; decide) (by rw [c_63]; decide) (off := 50) (by rw [c_63]; rfl) (by decide) ?_
        rw [if_pos c_63] at hv
        have r_64 : rgI (2) (2) a1 := rg_w (rg_eq rl_2 c_63) (by decide) (by decide)
        refine lv_aload_n hx hb dX12_mount_81 rfl (lv_at hl 0 rfl) ?_
        refine hg_get hx hb hG igX12 hown hK o_c_20 rfl 0 (by decide) (hG _ mw_1284) rfl dX12_mount_82 ?_
        refine lv_bipush (v := 48) hx hb dX12_mount_85 (by decide) ?_
        refine lv_iload_n hx hb dX12_mount_87 rfl (lv_at hl 1 rfl) ?_
        refine lv_iadd hx hb dX12_mount_88 ?_
        refine lv_topi (fun x_65 ex_65 => ?_)
        try rw [← ex_65] at hv
        have rx_65 : rgI (48) (71) x_65 := by rw [ex_65]; exact rg_w (rg_add rl_48 r_49 (by decide) (by decide)) (by decide) (by decide)
        obtain ⟨_, rfl, o_c_66⟩ := hH (g.2.2 100) _ hk_22.1
        have o_c_66 : va_at g.1 vwCl ((g.2.2 100), .inl (g.2.1 1, 122, .inl (G_4.2.1 (g.2.2 100)))) H := o_c_66
        refine hg_iald hx hb hK o_c_66 (rg_in (n := 122) rx_65 (by decide) (by decide)) dX12_mount_89 ?_
        rw [w_13]
        refine lv_topi (fun x_67 ex_67 => ?_)
        try rw [← ex_67] at hv
        exact W.iret hx hb hr (fun t ht hWm => ⟨⟨x_67, (Ty, G_4), rfl, ⟨rfl, ⟨fr_5, ⟨⟨(by rw [u_6]; exact (rg_w hI.a102 (by decide) (by decide))), (by rw [u_7]; exact (rg_w hI.a104 (by decide) (by decide))), (by rw [u_8]; exact (rg_w hI.a113 (by decide) (by decide))), (by rw [u_9]; exact (rg_w hI.a122 (by decide) (by decide))), (by rw [u_10]; exact (rg_w hI.a133 (by decide) (by decide))), (by rw [u_11]; exact (rg_w hI.a137 (by decide) (by decide))), u_18, u_19, (by rw [w_13]; exact (hI.ti.hi (show Bd ≤ Bd + 1000 by omega))), (hI.un2 (show Bd ≤ Bd + 1000 by omega) w_14 u_9), (hI.ke2 (show Bd ≤ Bd + 1000 by omega) w_15 w_16)⟩, hv.symm.trans (by rw [u_12])⟩⟩⟩, by show HT g Ty G_4 t.heap; rw [ht]; exact hH⟩, hS.F ht⟩) hS.2.2 dX12_mount_90
      rw [if_neg c_63] at hv
      by_cases c_68 : a1 = 3
      · refine lv_tableIn (tgt := 91) hx hb dX12_mount_31 (by rw [c_68]; decide) (by rw [c_68]; decide) (off := 60) (by rw [c_68]; rfl) (by decide) ?_
        rw [if_pos c_68] at hv
        have r_69 : rgI (3) (3) a1 := rg_w (rg_eq rl_3 c_68) (by decide) (by decide)
        refine lv_aload_n hx hb dX12_mount_91 rfl (lv_at hl 0 rfl) ?_
        refine hg_get hx hb hG igX12 hown hK o_c_20 rfl 0 (by decide) (hG _ mw_1284) rfl dX12_mount_92 ?_
        refine lv_bipush (v := 72) hx hb dX12_mount_95 (by decide) ?_
        refine lv_iload_n hx hb dX12_mount_97 rfl (lv_at hl 1 rfl) ?_
        refine lv_iadd hx hb dX12_mount_98 ?_
        refine lv_topi (fun x_70 ex_70 => ?_)
        try rw [← ex_70] at hv
        have rx_70 : rgI (72) (95) x_70 := by rw [ex_70]; exact rg_w (rg_add rl_72 r_49 (by decide) (by decide)) (by decide) (by decide)
        obtain ⟨_, rfl, o_c_71⟩ := hH (g.2.2 100) _ hk_22.1
        have o_c_71 : va_at g.1 vwCl ((g.2.2 100), .inl (g.2.1 1, 122, .inl (G_4.2.1 (g.2.2 100)))) H := o_c_71
        refine hg_iald hx hb hK o_c_71 (rg_in (n := 122) rx_70 (by decide) (by decide)) dX12_mount_99 ?_
        rw [w_13]
        refine lv_topi (fun x_72 ex_72 => ?_)
        try rw [← ex_72] at hv
        exact W.iret hx hb hr (fun t ht hWm => ⟨⟨x_72, (Ty, G_4), rfl, ⟨rfl, ⟨fr_5, ⟨⟨(by rw [u_6]; exact (rg_w hI.a102 (by decide) (by decide))), (by rw [u_7]; exact (rg_w hI.a104 (by decide) (by decide))), (by rw [u_8]; exact (rg_w hI.a113 (by decide) (by decide))), (by rw [u_9]; exact (rg_w hI.a122 (by decide) (by decide))), (by rw [u_10]; exact (rg_w hI.a133 (by decide) (by decide))), (by rw [u_11]; exact (rg_w hI.a137 (by decide) (by decide))), u_18, u_19, (by rw [w_13]; exact (hI.ti.hi (show Bd ≤ Bd + 1000 by omega))), (hI.un2 (show Bd ≤ Bd + 1000 by omega) w_14 u_9), (hI.ke2 (show Bd ≤ Bd + 1000 by omega) w_15 w_16)⟩, hv.symm.trans (by rw [u_12])⟩⟩⟩, by show HT g Ty G_4 t.heap; rw [ht]; exact hH⟩, hS.F ht⟩) hS.2.2 dX12_mount_100
      rw [if_neg c_68] at hv
      by_cases c_73 : a1 = 4
      · refine lv_tableIn (tgt := 101) hx hb dX12_mount_31 (by rw [c_73]; decide) (by rw [c_73]; decide) (off := 70) (by rw [c_73]; rfl) (by decide) ?_
        rw [if_pos c_73] at hv
        have r_74 : rgI (4) (4) a1 := rg_w (rg_eq rl_4 c_73) (by decide) (by decide)
        refine lv_aload_n hx hb dX12_mount_101 rfl (lv_at hl 0 rfl) ?_
        refine hg_get hx hb hG igX12 hown hK o_c_20 rfl 0 (by decide) (hG _ mw_1284) rfl dX12_mount_102 ?_
        refine lv_iload_n hx hb dX12_mount_105 rfl (lv_at hl 1 rfl) ?_
        refine vp_callSi (W.runS (As := [.ref (g.2.2 100), .int a0]) (rest := []) ⟨hx, hb, hml, hown, hts⟩ (c_X12_kindOf l g Ty G_4 (g.2.2 100) a0 (hk_22.1) (rg_w r_49 (by decide) (by decide))) (cwSx 2 hts hG (gwC mw_1527) mw_88 mw_1525 mw_1526 rfl rfl rfl hd_X12_kindOf ⟨Nat.le_of_ble_eq_true rfl, Nat.le_of_ble_eq_true rfl⟩) ⟨PcH_blind, PcH_pre hK hH⟩ rfl rfl hl.1 rfl (lv_room (Nat.le_of_ble_eq_true rfl)) dX12_mount_106 ⟨Nat.zero_le _, Nat.zero_le _⟩) (fun x_75 hx_75 => ?_)
        try rw [← hx_75] at hv
        have ex_76 : x_75 = F_X12_kindOf (G.2.1 (g.2.2 100)) a0 := by rw [← w_13]; exact hx_75
        try rw [← ex_76] at hv
        exact W.iret hx hb hr (fun t ht hWm => ⟨⟨x_75, (Ty, G_4), rfl, ⟨rfl, ⟨fr_5, ⟨⟨(by rw [u_6]; exact (rg_w hI.a102 (by decide) (by decide))), (by rw [u_7]; exact (rg_w hI.a104 (by decide) (by decide))), (by rw [u_8]; exact (rg_w hI.a113 (by decide) (by decide))), (by rw [u_9]; exact (rg_w hI.a122 (by decide) (by decide))), (by rw [u_10]; exact (rg_w hI.a133 (by decide) (by decide))), (by rw [u_11]; exact (rg_w hI.a137 (by decide) (by decide))), u_18, u_19, (by rw [w_13]; exact (hI.ti.hi (show Bd ≤ Bd + 1000 by omega))), (hI.un2 (show Bd ≤ Bd + 1000 by omega) w_14 u_9), (hI.ke2 (show Bd ≤ Bd + 1000 by omega) w_15 w_16)⟩, hv.symm.trans (by rw [u_12])⟩⟩⟩, by show HT g Ty G_4 t.heap; rw [ht]; exact hH⟩, hS.F ht⟩) hS.2.2 dX12_mount_109
      rw [if_neg c_73] at hv
      refine lv_tableOut (tgt := 110) hx hb dX12_mount_31 (by have := lv_neT (a := 0) c_54 rfl; have := lv_neT (a := 1) c_58 rfl; have := lv_neT (a := 2) c_63 rfl; have := lv_neT (a := 3) c_68 rfl; have := lv_neT (a := 4) c_73 rfl; omega) (by decide) ?_
      have r_77 : rgI (1) (5) a1 := rg_w (rg_neL r_53 rl_0 c_54) (by decide) (by decide)
      have r_78 : rgI (2) (5) a1 := rg_w (rg_neL r_77 rl_1 c_58) (by decide) (by decide)
      have r_79 : rgI (3) (5) a1 := rg_w (rg_neL r_78 rl_2 c_63) (by decide) (by decide)
      have r_80 : rgI (4) (5) a1 := rg_w (rg_neL r_79 rl_3 c_68) (by decide) (by decide)
      have r_81 : rgI (5) (5) a1 := rg_w (rg_neL r_80 rl_4 c_73) (by decide) (by decide)
      refine lv_aload_n hx hb dX12_mount_110 rfl (lv_at hl 0 rfl) ?_
      refine hg_get hx hb hG igX12 hown hK o_c_20 rfl 0 (by decide) (hG _ mw_1284) rfl dX12_mount_111 ?_
      refine lv_iload_n hx hb dX12_mount_114 rfl (lv_at hl 1 rfl) ?_
      refine vp_callSi (W.runS (As := [.ref (g.2.2 100), .int a0]) (rest := []) ⟨hx, hb, hml, hown, hts⟩ (c_X12_stepsOf l g Ty G_4 (g.2.2 100) a0 (hk_22.1) ρ (by rw [w_13]; exact hT) (by rw [w_13]; exact th_47)) (cwSx 2 hts hG (gwC mw_1530) mw_88 mw_1528 mw_1529 rfl rfl rfl hd_X12_stepsOf ⟨Nat.le_of_ble_eq_true rfl, Nat.le_of_ble_eq_true rfl⟩) ⟨PcH_blind, PcH_pre hK hH⟩ rfl rfl hl.1 rfl (lv_room (Nat.le_of_ble_eq_true rfl)) dX12_mount_115 ⟨Nat.zero_le _, Nat.zero_le _⟩) (fun x_82 hx_82 => ?_)
      have rx_82 : rgI (0) (23) x_82 := hx_82.1
      try rw [← hx_82.2] at hv
      have ex_83 : x_82 = F_X12_stepsOf (G.2.1 (g.2.2 100)) a0 := by rw [← w_13]; exact hx_82.2
      try rw [← ex_83] at hv
      exact W.iret hx hb hr (fun t ht hWm => ⟨⟨x_82, (Ty, G_4), rfl, ⟨rfl, ⟨fr_5, ⟨⟨(by rw [u_6]; exact (rg_w hI.a102 (by decide) (by decide))), (by rw [u_7]; exact (rg_w hI.a104 (by decide) (by decide))), (by rw [u_8]; exact (rg_w hI.a113 (by decide) (by decide))), (by rw [u_9]; exact (rg_w hI.a122 (by decide) (by decide))), (by rw [u_10]; exact (rg_w hI.a133 (by decide) (by decide))), (by rw [u_11]; exact (rg_w hI.a137 (by decide) (by decide))), u_18, u_19, (by rw [w_13]; exact (hI.ti.hi (show Bd ≤ Bd + 1000 by omega))), (hI.un2 (show Bd ≤ Bd + 1000 by omega) w_14 u_9), (hI.ke2 (show Bd ≤ Bd + 1000 by omega) w_15 w_16)⟩, hv.symm.trans (by rw [u_12])⟩⟩⟩, by show HT g Ty G_4 t.heap; rw [ht]; exact hH⟩, hS.F ht⟩) hS.2.2 dX12_mount_118
    · rw [if_pos c_51] at hv
      have r_84 : rgI (0) (0) x_50 := rg_w (rg_eq rl_0 c_51) (by decide) (by decide)
      refine lv_aload_n hx hb dX12_mount_25 rfl (lv_at hl 0 rfl) ?_
      refine va_calli (va_runV (As := []) (rest := []) ⟨hx, hb, hml, hown, hts⟩ (c_X12_lost_x l g Ty G_4 H.size h0 k_h0) (cwV 0 hts (gwV mw_1521 mw_1523 mw_49 mw_88 mw_1524) rfl rfl rfl hv_X12_lost ⟨Nat.le_of_ble_eq_true rfl, Nat.le_of_ble_eq_true rfl⟩) ⟨PcT_blind, hg_recv hK o_c_20 rfl, PcT_pre hK hH⟩ rfl rfl hl.1 rfl (lv_room (Nat.le_of_ble_eq_true rfl)) dX12_mount_26 ⟨Nat.zero_le _, Nat.zero_le _⟩) hS (fun q _ h => AF.mono hS.1 h) (fun q h => AF.mono hS.1 h) (fun x_85 ux_85 t H locs ht hvm hx_85 hB hz hk hS => ?_)
      obtain ⟨eTx_85, eGx_85⟩ := hx_85
      obtain ⟨G_86, eG_86⟩ : ∃ z, z = ux_85.2 := ⟨_, rfl⟩
      rw [← eG_86] at eGx_85
      obtain ⟨hfr_87, hex_88⟩ := eGx_85
      have fr_89 : FR [105] [] [] G G_86 := FR.tr fr_5 hfr_87 (by decide) (fun _ _ => trivial) (by decide)
      have u_90 : G_86.1 102 = (G.1 102) := (hfr_87.1 102 (by decide)).trans u_6
      have u_91 : G_86.1 104 = (G.1 104) := (hfr_87.1 104 (by decide)).trans u_7
      have u_92 : G_86.1 113 = (G.1 113) := (hfr_87.1 113 (by decide)).trans u_8
      have u_93 : G_86.1 122 = (G.1 122) := (hfr_87.1 122 (by decide)).trans u_9
      have u_94 : G_86.1 133 = (G.1 133) := (hfr_87.1 133 (by decide)).trans u_10
      have u_95 : G_86.1 137 = (G.1 137) := (hfr_87.1 137 (by decide)).trans u_11
      have w_96 : G_86.2.1 (g.2.2 100) = (G.2.1 (g.2.2 100)) := (hfr_87.2.1 (g.2.2 100) trivial).trans w_13
      have w_97 : G_86.2.1 (g.2.2 121) = (G.2.1 (g.2.2 121)) := (hfr_87.2.1 (g.2.2 121) trivial).trans w_14
      have w_98 : G_86.2.1 (g.2.2 140) = (G.2.1 (g.2.2 140)) := (hfr_87.2.1 (g.2.2 140) trivial).trans w_15
      have w_99 : G_86.2.1 (g.2.2 141) = (G.2.1 (g.2.2 141)) := (hfr_87.2.1 (g.2.2 141) trivial).trans w_16
      have w_100 : G_86.2.1 (g.2.2 111) = (G.2.1 (g.2.2 111)) := (hfr_87.2.1 (g.2.2 111) trivial).trans w_17
      have u_101 : G_86.2.2 111 = some (g.2.2 111) := (hfr_87.2.2 111 (by decide)).trans u_18
      have u_102 : G_86.2.2 112 = some (g.2.2 112) := (hfr_87.2.2 112 (by decide)).trans u_19
      obtain ⟨n_103, en_103⟩ : ∃ z : Int32, G_86.1 105 = z := ⟨_, rfl⟩
      have hq_104 : F_X12_lost_x 0 = (x_85, n_103) := by have q := hex_88; rw [u_12, en_103] at q; exact q
      rw [hq_104, tu2_eq] at hv
      have hH : HT g Ty G_86 H := by rw [← ht, ← eTx_85, eG_86]; exact hB
      exact W.iret hx hb hr (fun t ht hWm => ⟨⟨x_85, (Ty, G_86), rfl, ⟨rfl, ⟨fr_89, ⟨⟨(by rw [u_90]; exact (rg_w hI.a102 (by decide) (by decide))), (by rw [u_91]; exact (rg_w hI.a104 (by decide) (by decide))), (by rw [u_92]; exact (rg_w hI.a113 (by decide) (by decide))), (by rw [u_93]; exact (rg_w hI.a122 (by decide) (by decide))), (by rw [u_94]; exact (rg_w hI.a133 (by decide) (by decide))), (by rw [u_95]; exact (rg_w hI.a137 (by decide) (by decide))), u_101, u_102, (by rw [w_96]; exact (hI.ti.hi (show Bd ≤ Bd + 1000 by omega))), (hI.un2 (show Bd ≤ Bd + 1000 by omega) w_97 u_93), (hI.ke2 (show Bd ≤ Bd + 1000 by omega) w_98 w_99)⟩, hv.symm.trans (by rw [en_103])⟩⟩⟩, by show HT g Ty G_86 t.heap; rw [ht]; exact hH⟩, hS.F ht⟩) hS.2.2 dX12_mount_29

def F_X12_at_x (r0 : Nat → Int32) (m105 : Int32) (a0 : Int32) (a1 : Int32) : Int32 × Int32 := (if (F_X12_isThere r0 a0) = (0 : Int32) then (tu2 (F_X12_lost_x (0 : Int32)) (fun z5 z6 => (z5, z6))) else (if (F_X12_isDir a1) = (0 : Int32) then (tu2 (F_X12_lost_x (0 : Int32)) (fun z7 z8 => (z7, z8))) else ((F_X12_atOf r0 a0 a1), (0 : Int32))))
set_option maxHeartbeats 4000000 in
set_option maxRecDepth 100000 in
theorem c_X12_at_x (l : Launch) (g : Gx) (Ty : TyM) (G : Gh) (sz : Nat) (h0 : Nat) (a0 : Int32) (a1 : Int32) (k_h0 : Ty h0 = some (22, 0)) (Bd : Int) (hI : OI g Bd G) (hBd : Bd ≤ 1900000) (hLD : LD g) : Met l yX12_at (wsG yX12_at cX12_at 3 (some .int)) ({ frames := 2, cells := 0, slots := 0, locals := 43 }) (PcT g Ty G sz [.ref h0, .int a0, .int a1]) (QwI g Ty sz (fun r u => u.1 = Ty ∧ FR [105] [] [] G u.2 ∧ OI g (Bd + 1000) u.2 ∧ F_X12_at_x (G.2.1 (g.2.2 100)) (G.1 105) a0 a1 = (r, (u.2.1 105)))) 0 0 (AF Ty sz) := by
  refine Met.ofW (cc := cX12_at) (maxL := 3) (ret := (some .int)) (by decide) rfl ?_
  intro p e s m args below meth c s₁ B hml hv
  obtain ⟨rfl, hsz, hK, hH⟩ := hv
  subst hsz
  have hx := B.exec
  have hb := B.bytes
  have hr := B.returns
  have hts := atoms_spec (ws := (wsG yX12_at cX12_at 3 (some .int))) B.pre
  have hG : ∀ w ∈ GW, w.before ([.ref h0, .int a0, .int a1] : List Value).toArray s = true := fun w h => hts w (List.mem_cons_of_mem _ h)
  have hown : s.vm.findClass RX12 = some m.cls := findClass_of_methodNamed B.named
  have hlocks := B.notSynchronized
  have hl := lv_entry [.ref h0, .int a0, .int a1] (n := 3) (Nat.le_of_ble_eq_true rfl)
  rw [lg_entry_eq]
  generalize (lg_sl [.ref h0, .int a0, .int a1] ++ List.replicate (3 - (lg_sl [.ref h0, .int a0, .int a1]).length) Slot.unset).toArray = ls at hl ⊢
  have hl : lv_has ls 3 [(0, .ref h0), (1, .int a0), (2, .int a1)] := hl
  have hmk : mdK g Ty := mdk_of hH k_h0
  have hv : (if (F_X12_isThere (G.2.1 (g.2.2 100)) a0) = (0 : Int32) then (tu2 (F_X12_lost_x (0 : Int32)) (fun z1 z2 => (z1, z2))) else (if (F_X12_isDir a1) = (0 : Int32) then (tu2 (F_X12_lost_x (0 : Int32)) (fun z3 z4 => (z3, z4))) else ((F_X12_atOf (G.2.1 (g.2.2 100)) a0 a1), (0 : Int32)))) = F_X12_at_x (G.2.1 (g.2.2 100)) (G.1 105) a0 a1 := rfl
  have hS : va_S (AF Ty s.heap.size) s.heap s.heap [] := va_S.rf
  obtain ⟨⟨σ0, hTS0⟩, h10, hBB0⟩ := id hI.ti
  obtain ⟨ρ, hT⟩ := hTS0.1
  refine lv_aload_n hx hb dX12_at_0 rfl (lv_at hl 0 rfl) ?_
  refine lv_iconst (v := 0) hx hb dX12_at_1 (by decide) ?_
  obtain ⟨_, ⟨rfl, t_2, hk_3⟩, o_c_1⟩ := hH h0 _ k_h0
  refine hg_put (ty := .int) hx hb hG igX12 tyX12 tyX12_ok nmX12 hown hK hS o_c_1 (AF.of k_h0) rfl 5 (by decide) (hG _ mw_1289) rfl (by decide +kernel) rfl rfl (Nat.le_of_ble_eq_true rfl) dX12_at_2 (fun H locs o_c_1 hz oq hS => ?_)
  obtain ⟨G_4, eG_4⟩ : ∃ z : Gh, z = gset G 105 0 := ⟨_, rfl⟩
  have hH : HT g Ty G_4 H := by rw [eG_4]; exact HT.putN 105 0 hH k_h0 ⟨rfl, t_2, hk_3⟩ o_c_1 oq (Or.inr (Or.inr (Or.inr (Or.inr (Or.inr ⟨by decide, t_2⟩)))))
  have fr_5 : FR [105] [] [] G G_4 := FR.n FR.rf eG_4 (by decide)
  have u_6 : G_4.1 102 = (G.1 102) := by rw [eG_4]; exact (gs_ne (by decide))
  have u_7 : G_4.1 104 = (G.1 104) := by rw [eG_4]; exact (gs_ne (by decide))
  have u_8 : G_4.1 113 = (G.1 113) := by rw [eG_4]; exact (gs_ne (by decide))
  have u_9 : G_4.1 122 = (G.1 122) := by rw [eG_4]; exact (gs_ne (by decide))
  have u_10 : G_4.1 133 = (G.1 133) := by rw [eG_4]; exact (gs_ne (by decide))
  have u_11 : G_4.1 137 = (G.1 137) := by rw [eG_4]; exact (gs_ne (by decide))
  have u_12 : G_4.1 105 = 0 := by rw [eG_4]; exact gs_eq
  have w_13 : G_4.2.1 (g.2.2 100) = (G.2.1 (g.2.2 100)) := by rw [eG_4]; exact rfl
  have w_14 : G_4.2.1 (g.2.2 121) = (G.2.1 (g.2.2 121)) := by rw [eG_4]; exact rfl
  have w_15 : G_4.2.1 (g.2.2 140) = (G.2.1 (g.2.2 140)) := by rw [eG_4]; exact rfl
  have w_16 : G_4.2.1 (g.2.2 141) = (G.2.1 (g.2.2 141)) := by rw [eG_4]; exact rfl
  have w_17 : G_4.2.1 (g.2.2 111) = (G.2.1 (g.2.2 111)) := by rw [eG_4]; exact rfl
  have u_18 : G_4.2.2 111 = some (g.2.2 111) := by rw [eG_4]; exact hI.r111
  have u_19 : G_4.2.2 112 = some (g.2.2 112) := by rw [eG_4]; exact hI.r112
  clear oq hz
  refine lv_aload_n hx hb dX12_at_5 rfl (lv_at hl 0 rfl) ?_
  obtain ⟨_, ⟨rfl, t_21, hk_22⟩, o_c_20⟩ := hH h0 _ k_h0
  refine hg_get hx hb hG igX12 hown hK o_c_20 rfl 0 (by decide) (hG _ mw_1284) rfl dX12_at_6 ?_
  refine lv_iload_n hx hb dX12_at_9 rfl (lv_at hl 1 rfl) ?_
  refine vp_callSi (W.runS (As := [.ref (g.2.2 100), .int a0]) (rest := []) ⟨hx, hb, hml, hown, hts⟩ (c_X12_isThere l g Ty G_4 (g.2.2 100) a0 (hk_22.1)) (cwSx 2 hts hG (gwC mw_1520) mw_88 mw_1518 mw_1519 rfl rfl rfl hd_X12_isThere ⟨Nat.le_of_ble_eq_true rfl, Nat.le_of_ble_eq_true rfl⟩) ⟨PcH_blind, PcH_pre hK hH⟩ rfl rfl hl.1 rfl (lv_room (Nat.le_of_ble_eq_true rfl)) dX12_at_10 ⟨Nat.zero_le _, Nat.zero_le _⟩) (fun x_23 hx_23 => ?_)
  have rx_23 : rgI (0) (1) x_23 := hx_23.1
  try rw [← hx_23.2.2] at hv
  have ex_24 : x_23 = F_X12_isThere (G.2.1 (g.2.2 100)) a0 := by rw [← w_13]; exact hx_23.2.2
  try rw [← ex_24] at hv
  refine lv_if_eq (tgt := 35) hx hb dX12_at_13 (by decide) (fun c_25 => ?_) (fun c_25 => ?_)
  · rw [if_pos c_25] at hv
    have r_26 : rgI (0) (0) x_23 := rg_w (rg_eq rl_0 c_25) (by decide) (by decide)
    refine lv_aload_n hx hb dX12_at_35 rfl (lv_at hl 0 rfl) ?_
    refine va_calli (va_runV (As := []) (rest := []) ⟨hx, hb, hml, hown, hts⟩ (c_X12_lost_x l g Ty G_4 H.size h0 k_h0) (cwV 0 hts (gwV mw_1521 mw_1523 mw_49 mw_88 mw_1524) rfl rfl rfl hv_X12_lost ⟨Nat.le_of_ble_eq_true rfl, Nat.le_of_ble_eq_true rfl⟩) ⟨PcT_blind, hg_recv hK o_c_20 rfl, PcT_pre hK hH⟩ rfl rfl hl.1 rfl (lv_room (Nat.le_of_ble_eq_true rfl)) dX12_at_36 ⟨Nat.zero_le _, Nat.zero_le _⟩) hS (fun q _ h => AF.mono hS.1 h) (fun q h => AF.mono hS.1 h) (fun x_27 ux_27 t H locs ht hvm hx_27 hB hz hk hS => ?_)
    obtain ⟨eTx_27, eGx_27⟩ := hx_27
    obtain ⟨G_28, eG_28⟩ : ∃ z, z = ux_27.2 := ⟨_, rfl⟩
    rw [← eG_28] at eGx_27
    obtain ⟨hfr_29, hex_30⟩ := eGx_27
    have fr_31 : FR [105] [] [] G G_28 := FR.tr fr_5 hfr_29 (by decide) (fun _ _ => trivial) (by decide)
    have u_32 : G_28.1 102 = (G.1 102) := (hfr_29.1 102 (by decide)).trans u_6
    have u_33 : G_28.1 104 = (G.1 104) := (hfr_29.1 104 (by decide)).trans u_7
    have u_34 : G_28.1 113 = (G.1 113) := (hfr_29.1 113 (by decide)).trans u_8
    have u_35 : G_28.1 122 = (G.1 122) := (hfr_29.1 122 (by decide)).trans u_9
    have u_36 : G_28.1 133 = (G.1 133) := (hfr_29.1 133 (by decide)).trans u_10
    have u_37 : G_28.1 137 = (G.1 137) := (hfr_29.1 137 (by decide)).trans u_11
    have w_38 : G_28.2.1 (g.2.2 100) = (G.2.1 (g.2.2 100)) := (hfr_29.2.1 (g.2.2 100) trivial).trans w_13
    have w_39 : G_28.2.1 (g.2.2 121) = (G.2.1 (g.2.2 121)) := (hfr_29.2.1 (g.2.2 121) trivial).trans w_14
    have w_40 : G_28.2.1 (g.2.2 140) = (G.2.1 (g.2.2 140)) := (hfr_29.2.1 (g.2.2 140) trivial).trans w_15
    have w_41 : G_28.2.1 (g.2.2 141) = (G.2.1 (g.2.2 141)) := (hfr_29.2.1 (g.2.2 141) trivial).trans w_16
    have w_42 : G_28.2.1 (g.2.2 111) = (G.2.1 (g.2.2 111)) := (hfr_29.2.1 (g.2.2 111) trivial).trans w_17
    have u_43 : G_28.2.2 111 = some (g.2.2 111) := (hfr_29.2.2 111 (by decide)).trans u_18
    have u_44 : G_28.2.2 112 = some (g.2.2 112) := (hfr_29.2.2 112 (by decide)).trans u_19
    obtain ⟨n_45, en_45⟩ : ∃ z : Int32, G_28.1 105 = z := ⟨_, rfl⟩
    have hq_46 : F_X12_lost_x 0 = (x_27, n_45) := by have q := hex_30; rw [u_12, en_45] at q; exact q
    rw [hq_46, tu2_eq] at hv
    have hH : HT g Ty G_28 H := by rw [← ht, ← eTx_27, eG_28]; exact hB
    exact W.iret hx hb hr (fun t ht hWm => ⟨⟨x_27, (Ty, G_28), rfl, ⟨rfl, ⟨fr_31, ⟨⟨(by rw [u_32]; exact (rg_w hI.a102 (by decide) (by decide))), (by rw [u_33]; exact (rg_w hI.a104 (by decide) (by decide))), (by rw [u_34]; exact (rg_w hI.a113 (by decide) (by decide))), (by rw [u_35]; exact (rg_w hI.a122 (by decide) (by decide))), (by rw [u_36]; exact (rg_w hI.a133 (by decide) (by decide))), (by rw [u_37]; exact (rg_w hI.a137 (by decide) (by decide))), u_43, u_44, (by rw [w_38]; exact (hI.ti.hi (show Bd ≤ Bd + 1000 by omega))), (hI.un2 (show Bd ≤ Bd + 1000 by omega) w_39 u_35), (hI.ke2 (show Bd ≤ Bd + 1000 by omega) w_40 w_41)⟩, hv.symm.trans (by rw [en_45])⟩⟩⟩, by show HT g Ty G_28 t.heap; rw [ht]; exact hH⟩, hS.F ht⟩) hS.2.2 dX12_at_39
  · rw [if_neg c_25] at hv
    have th_47 : thr (G.2.1 (g.2.2 100)) a0 := F_isThere_thr (by rw [← ex_24]; exact c_25)
    have r_48 : rgI (1) (1) x_23 := rg_w (rg_neL rx_23 rl_0 c_25) (by decide) (by decide)
    have r_49 : rgI (0) (23) a0 := rg_w (hx_23.2.1.resolve_left c_25) (by decide) (by decide)
    refine lv_iload_n hx hb dX12_at_16 rfl (lv_at hl 2 rfl) ?_
    refine vp_callSi (W.runS (As := [.int a1]) (rest := []) ⟨hx, hb, hml, hown, hts⟩ (c_X12_isDir l g Ty G_4 a1 ) (cwSx 1 hts hG (gwC mw_1537) mw_88 mw_1535 mw_1536 rfl rfl rfl hd_X12_isDir ⟨Nat.le_of_ble_eq_true rfl, Nat.le_of_ble_eq_true rfl⟩) ⟨PcH_blind, PcH_pre hK hH⟩ rfl rfl hl.1 rfl (lv_room (Nat.le_of_ble_eq_true rfl)) dX12_at_17 ⟨Nat.zero_le _, Nat.zero_le _⟩) (fun x_50 hx_50 => ?_)
    have rx_50 : rgI (0) (1) x_50 := hx_50.1
    try rw [← hx_50.2] at hv
    try rw [← hx_50.2] at hv
    refine lv_if_eq (tgt := 35) hx hb dX12_at_20 (by decide) (fun c_51 => ?_) (fun c_51 => ?_)
    · rw [if_pos c_51] at hv
      have r_52 : rgI (0) (0) x_50 := rg_w (rg_eq rl_0 c_51) (by decide) (by decide)
      refine lv_aload_n hx hb dX12_at_35 rfl (lv_at hl 0 rfl) ?_
      refine va_calli (va_runV (As := []) (rest := []) ⟨hx, hb, hml, hown, hts⟩ (c_X12_lost_x l g Ty G_4 H.size h0 k_h0) (cwV 0 hts (gwV mw_1521 mw_1523 mw_49 mw_88 mw_1524) rfl rfl rfl hv_X12_lost ⟨Nat.le_of_ble_eq_true rfl, Nat.le_of_ble_eq_true rfl⟩) ⟨PcT_blind, hg_recv hK o_c_20 rfl, PcT_pre hK hH⟩ rfl rfl hl.1 rfl (lv_room (Nat.le_of_ble_eq_true rfl)) dX12_at_36 ⟨Nat.zero_le _, Nat.zero_le _⟩) hS (fun q _ h => AF.mono hS.1 h) (fun q h => AF.mono hS.1 h) (fun x_53 ux_53 t H locs ht hvm hx_53 hB hz hk hS => ?_)
      obtain ⟨eTx_53, eGx_53⟩ := hx_53
      obtain ⟨G_54, eG_54⟩ : ∃ z, z = ux_53.2 := ⟨_, rfl⟩
      rw [← eG_54] at eGx_53
      obtain ⟨hfr_55, hex_56⟩ := eGx_53
      have fr_57 : FR [105] [] [] G G_54 := FR.tr fr_5 hfr_55 (by decide) (fun _ _ => trivial) (by decide)
      have u_58 : G_54.1 102 = (G.1 102) := (hfr_55.1 102 (by decide)).trans u_6
      have u_59 : G_54.1 104 = (G.1 104) := (hfr_55.1 104 (by decide)).trans u_7
      have u_60 : G_54.1 113 = (G.1 113) := (hfr_55.1 113 (by decide)).trans u_8
      have u_61 : G_54.1 122 = (G.1 122) := (hfr_55.1 122 (by decide)).trans u_9
      have u_62 : G_54.1 133 = (G.1 133) := (hfr_55.1 133 (by decide)).trans u_10
      have u_63 : G_54.1 137 = (G.1 137) := (hfr_55.1 137 (by decide)).trans u_11
      have w_64 : G_54.2.1 (g.2.2 100) = (G.2.1 (g.2.2 100)) := (hfr_55.2.1 (g.2.2 100) trivial).trans w_13
      have w_65 : G_54.2.1 (g.2.2 121) = (G.2.1 (g.2.2 121)) := (hfr_55.2.1 (g.2.2 121) trivial).trans w_14
      have w_66 : G_54.2.1 (g.2.2 140) = (G.2.1 (g.2.2 140)) := (hfr_55.2.1 (g.2.2 140) trivial).trans w_15
      have w_67 : G_54.2.1 (g.2.2 141) = (G.2.1 (g.2.2 141)) := (hfr_55.2.1 (g.2.2 141) trivial).trans w_16
      have w_68 : G_54.2.1 (g.2.2 111) = (G.2.1 (g.2.2 111)) := (hfr_55.2.1 (g.2.2 111) trivial).trans w_17
      have u_69 : G_54.2.2 111 = some (g.2.2 111) := (hfr_55.2.2 111 (by decide)).trans u_18
      have u_70 : G_54.2.2 112 = some (g.2.2 112) := (hfr_55.2.2 112 (by decide)).trans u_19
      obtain ⟨n_71, en_71⟩ : ∃ z : Int32, G_54.1 105 = z := ⟨_, rfl⟩
      have hq_72 : F_X12_lost_x 0 = (x_53, n_71) := by have q := hex_56; rw [u_12, en_71] at q; exact q
      rw [hq_72, tu2_eq] at hv
      have hH : HT g Ty G_54 H := by rw [← ht, ← eTx_53, eG_54]; exact hB
      exact W.iret hx hb hr (fun t ht hWm => ⟨⟨x_53, (Ty, G_54), rfl, ⟨rfl, ⟨fr_57, ⟨⟨(by rw [u_58]; exact (rg_w hI.a102 (by decide) (by decide))), (by rw [u_59]; exact (rg_w hI.a104 (by decide) (by decide))), (by rw [u_60]; exact (rg_w hI.a113 (by decide) (by decide))), (by rw [u_61]; exact (rg_w hI.a122 (by decide) (by decide))), (by rw [u_62]; exact (rg_w hI.a133 (by decide) (by decide))), (by rw [u_63]; exact (rg_w hI.a137 (by decide) (by decide))), u_69, u_70, (by rw [w_64]; exact (hI.ti.hi (show Bd ≤ Bd + 1000 by omega))), (hI.un2 (show Bd ≤ Bd + 1000 by omega) w_65 u_61), (hI.ke2 (show Bd ≤ Bd + 1000 by omega) w_66 w_67)⟩, hv.symm.trans (by rw [en_71])⟩⟩⟩, by show HT g Ty G_54 t.heap; rw [ht]; exact hH⟩, hS.F ht⟩) hS.2.2 dX12_at_39
    · rw [if_neg c_51] at hv
      have r_73 : rgI (1) (1) x_50 := rg_w (rg_neL rx_50 rl_0 c_51) (by decide) (by decide)
      have r_74 : rgI (0) (3) a1 := rg_w (F_isDir_rg (by rw [← hx_50.2]; exact c_51)) (by decide) (by decide)
      refine lv_aload_n hx hb dX12_at_23 rfl (lv_at hl 0 rfl) ?_
      refine hg_get hx hb hG igX12 hown hK o_c_20 rfl 0 (by decide) (hG _ mw_1284) rfl dX12_at_24 ?_
      refine lv_iload_n hx hb dX12_at_27 rfl (lv_at hl 1 rfl) ?_
      refine lv_iload_n hx hb dX12_at_28 rfl (lv_at hl 2 rfl) ?_
      refine vp_callSi (W.runS (As := [.ref (g.2.2 100), .int a0, .int a1]) (rest := []) ⟨hx, hb, hml, hown, hts⟩ (c_X12_atOf l g Ty G_4 (g.2.2 100) a0 a1 (hk_22.1)) (cwSx 3 hts hG (gwC mw_1509) mw_88 mw_1507 mw_1508 rfl rfl rfl hd_X12_atOf ⟨Nat.le_of_ble_eq_true rfl, Nat.le_of_ble_eq_true rfl⟩) ⟨PcH_blind, PcH_pre hK hH⟩ rfl rfl hl.1 rfl (lv_room (Nat.le_of_ble_eq_true rfl)) dX12_at_29 ⟨Nat.zero_le _, Nat.zero_le _⟩) (fun x_75 hx_75 => ?_)
      have rx_75 : rgI (1) (24) x_75 := hx_75.1
      try rw [← hx_75.2] at hv
      have ex_76 : x_75 = F_X12_atOf (G.2.1 (g.2.2 100)) a0 a1 := by rw [← w_13]; exact hx_75.2
      try rw [← ex_76] at hv
      refine lv_goto (tgt := 39) hx hb dX12_at_32 (by decide) ?_
      exact W.iret hx hb hr (fun t ht hWm => ⟨⟨x_75, (Ty, G_4), rfl, ⟨rfl, ⟨fr_5, ⟨⟨(by rw [u_6]; exact (rg_w hI.a102 (by decide) (by decide))), (by rw [u_7]; exact (rg_w hI.a104 (by decide) (by decide))), (by rw [u_8]; exact (rg_w hI.a113 (by decide) (by decide))), (by rw [u_9]; exact (rg_w hI.a122 (by decide) (by decide))), (by rw [u_10]; exact (rg_w hI.a133 (by decide) (by decide))), (by rw [u_11]; exact (rg_w hI.a137 (by decide) (by decide))), u_18, u_19, (by rw [w_13]; exact (hI.ti.hi (show Bd ≤ Bd + 1000 by omega))), (hI.un2 (show Bd ≤ Bd + 1000 by omega) w_14 u_9), (hI.ke2 (show Bd ≤ Bd + 1000 by omega) w_15 w_16)⟩, hv.symm.trans (by rw [u_12])⟩⟩⟩, by show HT g Ty G_4 t.heap; rw [ht]; exact hH⟩, hS.F ht⟩) hS.2.2 dX12_at_39

def F_X12_row_x (m104 : Int32) (m105 : Int32) (a0 : Int32) : Int32 := (if (F_X12_in a0 (0 : Int32) (m104 - (1 : Int32))) = (0 : Int32) then (tu2 (F_X12_lost_x (0 : Int32)) (fun z3 z4 => z4)) else (0 : Int32))
set_option maxHeartbeats 4000000 in
set_option maxRecDepth 100000 in
theorem c_X12_row_x (l : Launch) (g : Gx) (Ty : TyM) (G : Gh) (sz : Nat) (h0 : Nat) (a0 : Int32) (k_h0 : Ty h0 = some (22, 0)) (Bd : Int) (hI : OI g Bd G) (hBd : Bd ≤ 1900000) (hLD : LD g) : Met l yX12_row (wsG yX12_row cX12_row 2 (some .long)) ({ frames := 1, cells := 0, slots := 0, locals := 22 }) (PcT g Ty G sz [.ref h0, .int a0]) (QwJ g Ty sz (fun r u => u.1 = Ty ∧ FR [105] [] [] G u.2 ∧ OI g (Bd + 1000) u.2 ∧ F_X12_row_x (G.1 104) (G.1 105) a0 = (u.2.1 105))) 0 0 (AF Ty sz) := by
  refine Met.ofW (cc := cX12_row) (maxL := 2) (ret := (some .long)) (by decide) rfl ?_
  intro p e s m args below meth c s₁ B hml hv
  obtain ⟨rfl, hsz, hK, hH⟩ := hv
  subst hsz
  have hx := B.exec
  have hb := B.bytes
  have hr := B.returns
  have hts := atoms_spec (ws := (wsG yX12_row cX12_row 2 (some .long))) B.pre
  have hG : ∀ w ∈ GW, w.before ([.ref h0, .int a0] : List Value).toArray s = true := fun w h => hts w (List.mem_cons_of_mem _ h)
  have hown : s.vm.findClass RX12 = some m.cls := findClass_of_methodNamed B.named
  have hlocks := B.notSynchronized
  have hl := lv_entry [.ref h0, .int a0] (n := 2) (Nat.le_of_ble_eq_true rfl)
  rw [lg_entry_eq]
  generalize (lg_sl [.ref h0, .int a0] ++ List.replicate (2 - (lg_sl [.ref h0, .int a0]).length) Slot.unset).toArray = ls at hl ⊢
  have hl : lv_has ls 2 [(0, .ref h0), (1, .int a0)] := hl
  have hmk : mdK g Ty := mdk_of hH k_h0
  have hv : (if (F_X12_in a0 (0 : Int32) ((G.1 104) - (1 : Int32))) = (0 : Int32) then (tu2 (F_X12_lost_x (0 : Int32)) (fun z1 z2 => z2)) else (0 : Int32)) = F_X12_row_x (G.1 104) (G.1 105) a0 := rfl
  have hS : va_S (AF Ty s.heap.size) s.heap s.heap [] := va_S.rf
  obtain ⟨⟨σ0, hTS0⟩, h10, hBB0⟩ := id hI.ti
  obtain ⟨ρ, hT⟩ := hTS0.1
  refine lv_aload_n hx hb dX12_row_0 rfl (lv_at hl 0 rfl) ?_
  refine lv_iconst (v := 0) hx hb dX12_row_1 (by decide) ?_
  obtain ⟨_, ⟨rfl, t_2, hk_3⟩, o_c_1⟩ := hH h0 _ k_h0
  refine hg_put (ty := .int) hx hb hG igX12 tyX12 tyX12_ok nmX12 hown hK hS o_c_1 (AF.of k_h0) rfl 5 (by decide) (hG _ mw_1289) rfl (by decide +kernel) rfl rfl (Nat.le_of_ble_eq_true rfl) dX12_row_2 (fun H locs o_c_1 hz oq hS => ?_)
  obtain ⟨G_4, eG_4⟩ : ∃ z : Gh, z = gset G 105 0 := ⟨_, rfl⟩
  have hH : HT g Ty G_4 H := by rw [eG_4]; exact HT.putN 105 0 hH k_h0 ⟨rfl, t_2, hk_3⟩ o_c_1 oq (Or.inr (Or.inr (Or.inr (Or.inr (Or.inr ⟨by decide, t_2⟩)))))
  have fr_5 : FR [105] [] [] G G_4 := FR.n FR.rf eG_4 (by decide)
  have u_6 : G_4.1 102 = (G.1 102) := by rw [eG_4]; exact (gs_ne (by decide))
  have u_7 : G_4.1 104 = (G.1 104) := by rw [eG_4]; exact (gs_ne (by decide))
  have u_8 : G_4.1 113 = (G.1 113) := by rw [eG_4]; exact (gs_ne (by decide))
  have u_9 : G_4.1 122 = (G.1 122) := by rw [eG_4]; exact (gs_ne (by decide))
  have u_10 : G_4.1 133 = (G.1 133) := by rw [eG_4]; exact (gs_ne (by decide))
  have u_11 : G_4.1 137 = (G.1 137) := by rw [eG_4]; exact (gs_ne (by decide))
  have u_12 : G_4.1 105 = 0 := by rw [eG_4]; exact gs_eq
  have w_13 : G_4.2.1 (g.2.2 100) = (G.2.1 (g.2.2 100)) := by rw [eG_4]; exact rfl
  have w_14 : G_4.2.1 (g.2.2 121) = (G.2.1 (g.2.2 121)) := by rw [eG_4]; exact rfl
  have w_15 : G_4.2.1 (g.2.2 140) = (G.2.1 (g.2.2 140)) := by rw [eG_4]; exact rfl
  have w_16 : G_4.2.1 (g.2.2 141) = (G.2.1 (g.2.2 141)) := by rw [eG_4]; exact rfl
  have w_17 : G_4.2.1 (g.2.2 111) = (G.2.1 (g.2.2 111)) := by rw [eG_4]; exact rfl
  have u_18 : G_4.2.2 111 = some (g.2.2 111) := by rw [eG_4]; exact hI.r111
  have u_19 : G_4.2.2 112 = some (g.2.2 112) := by rw [eG_4]; exact hI.r112
  clear oq hz
  refine lv_iload_n hx hb dX12_row_5 rfl (lv_at hl 1 rfl) ?_
  refine lv_iconst (v := 0) hx hb dX12_row_6 (by decide) ?_
  refine lv_aload_n hx hb dX12_row_7 rfl (lv_at hl 0 rfl) ?_
  obtain ⟨_, ⟨rfl, t_21, hk_22⟩, o_c_20⟩ := hH h0 _ k_h0
  refine hg_get hx hb hG igX12 hown hK o_c_20 rfl 4 (by decide) (hG _ mw_1288) rfl dX12_row_8 ?_
  rw [u_7]
  refine lv_iconst (v := 1) hx hb dX12_row_11 (by decide) ?_
  refine lv_isub hx hb dX12_row_12 ?_
  refine lv_topi (fun x_23 ex_23 => ?_)
  try rw [← ex_23] at hv
  have rx_23 : rgI (-1) (31) x_23 := by rw [ex_23]; exact rg_w (rg_sub hI.a104 rl_1 (by decide) (by decide)) (by decide) (by decide)
  refine vp_callSi (W.runS (As := [.int a0, .int 0, .int x_23]) (rest := []) ⟨hx, hb, hml, hown, hts⟩ (c_X12_in l g Ty G_4 a0 0 x_23 ) (cwSx 3 hts hG (gwC mw_1426) mw_88 mw_1424 mw_1425 rfl rfl rfl hd_X12_in ⟨Nat.le_of_ble_eq_true rfl, Nat.le_of_ble_eq_true rfl⟩) ⟨PcH_blind, PcH_pre hK hH⟩ rfl rfl hl.1 rfl (lv_room (Nat.le_of_ble_eq_true rfl)) dX12_row_13 ⟨Nat.zero_le _, Nat.zero_le _⟩) (fun x_24 hx_24 => ?_)
  have rx_24 : rgI (0) (1) x_24 := hx_24.1
  try rw [← hx_24.2.2] at hv
  try rw [← hx_24.2.2] at hv
  refine lv_if_eq (tgt := 28) hx hb dX12_row_16 (by decide) (fun c_25 => ?_) (fun c_25 => ?_)
  · rw [if_pos c_25] at hv
    have r_26 : rgI (0) (0) x_24 := rg_w (rg_eq rl_0 c_25) (by decide) (by decide)
    refine lv_aload_n hx hb dX12_row_28 rfl (lv_at hl 0 rfl) ?_
    refine va_calli (va_runV (As := []) (rest := []) ⟨hx, hb, hml, hown, hts⟩ (c_X12_lost_x l g Ty G_4 H.size h0 k_h0) (cwV 0 hts (gwV mw_1521 mw_1523 mw_49 mw_88 mw_1524) rfl rfl rfl hv_X12_lost ⟨Nat.le_of_ble_eq_true rfl, Nat.le_of_ble_eq_true rfl⟩) ⟨PcT_blind, hg_recv hK o_c_20 rfl, PcT_pre hK hH⟩ rfl rfl hl.1 rfl (lv_room (Nat.le_of_ble_eq_true rfl)) dX12_row_29 ⟨Nat.zero_le _, Nat.zero_le _⟩) hS (fun q _ h => AF.mono hS.1 h) (fun q h => AF.mono hS.1 h) (fun x_27 ux_27 t H locs ht hvm hx_27 hB hz hk hS => ?_)
    obtain ⟨eTx_27, eGx_27⟩ := hx_27
    obtain ⟨G_28, eG_28⟩ : ∃ z, z = ux_27.2 := ⟨_, rfl⟩
    rw [← eG_28] at eGx_27
    obtain ⟨hfr_29, hex_30⟩ := eGx_27
    have fr_31 : FR [105] [] [] G G_28 := FR.tr fr_5 hfr_29 (by decide) (fun _ _ => trivial) (by decide)
    have u_32 : G_28.1 102 = (G.1 102) := (hfr_29.1 102 (by decide)).trans u_6
    have u_33 : G_28.1 104 = (G.1 104) := (hfr_29.1 104 (by decide)).trans u_7
    have u_34 : G_28.1 113 = (G.1 113) := (hfr_29.1 113 (by decide)).trans u_8
    have u_35 : G_28.1 122 = (G.1 122) := (hfr_29.1 122 (by decide)).trans u_9
    have u_36 : G_28.1 133 = (G.1 133) := (hfr_29.1 133 (by decide)).trans u_10
    have u_37 : G_28.1 137 = (G.1 137) := (hfr_29.1 137 (by decide)).trans u_11
    have w_38 : G_28.2.1 (g.2.2 100) = (G.2.1 (g.2.2 100)) := (hfr_29.2.1 (g.2.2 100) trivial).trans w_13
    have w_39 : G_28.2.1 (g.2.2 121) = (G.2.1 (g.2.2 121)) := (hfr_29.2.1 (g.2.2 121) trivial).trans w_14
    have w_40 : G_28.2.1 (g.2.2 140) = (G.2.1 (g.2.2 140)) := (hfr_29.2.1 (g.2.2 140) trivial).trans w_15
    have w_41 : G_28.2.1 (g.2.2 141) = (G.2.1 (g.2.2 141)) := (hfr_29.2.1 (g.2.2 141) trivial).trans w_16
    have w_42 : G_28.2.1 (g.2.2 111) = (G.2.1 (g.2.2 111)) := (hfr_29.2.1 (g.2.2 111) trivial).trans w_17
    have u_43 : G_28.2.2 111 = some (g.2.2 111) := (hfr_29.2.2 111 (by decide)).trans u_18
    have u_44 : G_28.2.2 112 = some (g.2.2 112) := (hfr_29.2.2 112 (by decide)).trans u_19
    obtain ⟨n_45, en_45⟩ : ∃ z : Int32, G_28.1 105 = z := ⟨_, rfl⟩
    have hq_46 : F_X12_lost_x 0 = (x_27, n_45) := by have q := hex_30; rw [u_12, en_45] at q; exact q
    rw [hq_46, tu2_eq] at hv
    have hH : HT g Ty G_28 H := by rw [← ht, ← eTx_27, eG_28]; exact hB
    refine lv_i2l hx hb dX12_row_32 rfl ?_
    refine lv_topl (fun u_47 eu_47 => ?_)
    exact W.lret hx hb hr (fun t ht hWm => ⟨⟨u_47, (Ty, G_28), rfl, ⟨rfl, ⟨fr_31, ⟨⟨(by rw [u_32]; exact (rg_w hI.a102 (by decide) (by decide))), (by rw [u_33]; exact (rg_w hI.a104 (by decide) (by decide))), (by rw [u_34]; exact (rg_w hI.a113 (by decide) (by decide))), (by rw [u_35]; exact (rg_w hI.a122 (by decide) (by decide))), (by rw [u_36]; exact (rg_w hI.a133 (by decide) (by decide))), (by rw [u_37]; exact (rg_w hI.a137 (by decide) (by decide))), u_43, u_44, (by rw [w_38]; exact (hI.ti.hi (show Bd ≤ Bd + 1000 by omega))), (hI.un2 (show Bd ≤ Bd + 1000 by omega) w_39 u_35), (hI.ke2 (show Bd ≤ Bd + 1000 by omega) w_40 w_41)⟩, hv.symm.trans (by rw [en_45])⟩⟩⟩, by show HT g Ty G_28 t.heap; rw [ht]; exact hH⟩, hS.F ht⟩) hS.2.2 dX12_row_33
  · rw [if_neg c_25] at hv
    have r_48 : rgI (1) (1) x_24 := rg_w (rg_neL rx_24 rl_0 c_25) (by decide) (by decide)
    have r_49 : rgI (0) (31) a0 := rg_w (in_rng hx_24.2.1 c_25 rl_0 rx_23) (by decide) (by decide)
    refine lv_aload_n hx hb dX12_row_19 rfl (lv_at hl 0 rfl) ?_
    refine hg_get hx hb hG igX12 hown hK o_c_20 rfl 3 (by decide) (hG _ mw_1287) rfl dX12_row_20 ?_
    refine lv_iload_n hx hb dX12_row_23 rfl (lv_at hl 1 rfl) ?_
    obtain ⟨_, ⟨f_51, rfl⟩, o_c_50⟩ := hH (g.2.2 103) _ hk_22.2.2.1
    refine hg_lald hx hb hK o_c_50 (rg_in (n := 32) r_49 (by decide) (by decide)) dX12_row_24 ?_
    refine lv_topl (fun u_52 eu_52 => ?_)
    refine lv_goto (tgt := 33) hx hb dX12_row_25 (by decide) ?_
    exact W.lret hx hb hr (fun t ht hWm => ⟨⟨u_52, (Ty, G_4), rfl, ⟨rfl, ⟨fr_5, ⟨⟨(by rw [u_6]; exact (rg_w hI.a102 (by decide) (by decide))), (by rw [u_7]; exact (rg_w hI.a104 (by decide) (by decide))), (by rw [u_8]; exact (rg_w hI.a113 (by decide) (by decide))), (by rw [u_9]; exact (rg_w hI.a122 (by decide) (by decide))), (by rw [u_10]; exact (rg_w hI.a133 (by decide) (by decide))), (by rw [u_11]; exact (rg_w hI.a137 (by decide) (by decide))), u_18, u_19, (by rw [w_13]; exact (hI.ti.hi (show Bd ≤ Bd + 1000 by omega))), (hI.un2 (show Bd ≤ Bd + 1000 by omega) w_14 u_9), (hI.ke2 (show Bd ≤ Bd + 1000 by omega) w_15 w_16)⟩, hv.symm.trans (by rw [u_12])⟩⟩⟩, by show HT g Ty G_4 t.heap; rw [ht]; exact hH⟩, hS.F ht⟩) hS.2.2 dX12_row_33

def F_X12_count_x (r0 : Nat → Int32) (m133 : Int32) (m137 : Int32) (m122 : Int32) (m104 : Int32) (m102 : Int32) (a0 : Int32) : Int32 := (if a0 = (0 : Int32) then (F_X12_thereOf r0) else (if a0 = (1 : Int32) then (F_X12_bitsOf_x r0 (48 : Int32)) else (if a0 = (2 : Int32) then (F_X12_bitsOf_x r0 (72 : Int32)) else (if a0 = (3 : Int32) then (F_X12_bitsOf_x r0 (96 : Int32)) else (if a0 = (4 : Int32) then (r0 (Int32.toNatClampNeg (120 : Int32))) else (if a0 = (5 : Int32) then (r0 (Int32.toNatClampNeg (121 : Int32))) else (if a0 = (6 : Int32) then m133 else (if a0 = (7 : Int32) then m137 else (if a0 = (8 : Int32) then m122 else (if a0 = (9 : Int32) then m104 else (if a0 = (10 : Int32) then m102 else (-1 : Int32))))))))))))
set_option maxHeartbeats 4000000 in
set_option maxRecDepth 100000 in
theorem c_X12_count_x (l : Launch) (g : Gx) (Ty : TyM) (G : Gh) (sz : Nat) (h0 : Nat) (a0 : Int32) (k_h0 : Ty h0 = some (22, 0)) (Bd : Int) (hI : OI g Bd G) (hBd : Bd ≤ 1900000) (hLD : LD g) : Met l yX12_count (wsG yX12_count cX12_count 2 (some .int)) ({ frames := 3, cells := 0, slots := 0, locals := 66 }) (PcT g Ty G sz [.ref h0, .int a0]) (QwI g Ty sz (fun r u => u.1 = Ty ∧ FR [105] [] [] G u.2 ∧ OI g (Bd + 1000) u.2 ∧ F_X12_count_x (G.2.1 (g.2.2 100)) (G.1 133) (G.1 137) (G.1 122) (G.1 104) (G.1 102) a0 = r)) 0 0 (AF Ty sz) := by
  refine Met.ofW (cc := cX12_count) (maxL := 2) (ret := (some .int)) (by decide) rfl ?_
  intro p e s m args below meth c s₁ B hml hv
  obtain ⟨rfl, hsz, hK, hH⟩ := hv
  subst hsz
  have hx := B.exec
  have hb := B.bytes
  have hr := B.returns
  have hts := atoms_spec (ws := (wsG yX12_count cX12_count 2 (some .int))) B.pre
  have hG : ∀ w ∈ GW, w.before ([.ref h0, .int a0] : List Value).toArray s = true := fun w h => hts w (List.mem_cons_of_mem _ h)
  have hown : s.vm.findClass RX12 = some m.cls := findClass_of_methodNamed B.named
  have hlocks := B.notSynchronized
  have hl := lv_entry [.ref h0, .int a0] (n := 2) (Nat.le_of_ble_eq_true rfl)
  rw [lg_entry_eq]
  generalize (lg_sl [.ref h0, .int a0] ++ List.replicate (2 - (lg_sl [.ref h0, .int a0]).length) Slot.unset).toArray = ls at hl ⊢
  have hl : lv_has ls 2 [(0, .ref h0), (1, .int a0)] := hl
  have hmk : mdK g Ty := mdk_of hH k_h0
  have hv : (if a0 = (0 : Int32) then (F_X12_thereOf (G.2.1 (g.2.2 100))) else (if a0 = (1 : Int32) then (F_X12_bitsOf_x (G.2.1 (g.2.2 100)) (48 : Int32)) else (if a0 = (2 : Int32) then (F_X12_bitsOf_x (G.2.1 (g.2.2 100)) (72 : Int32)) else (if a0 = (3 : Int32) then (F_X12_bitsOf_x (G.2.1 (g.2.2 100)) (96 : Int32)) else (if a0 = (4 : Int32) then ((G.2.1 (g.2.2 100)) (Int32.toNatClampNeg (120 : Int32))) else (if a0 = (5 : Int32) then ((G.2.1 (g.2.2 100)) (Int32.toNatClampNeg (121 : Int32))) else (if a0 = (6 : Int32) then (G.1 133) else (if a0 = (7 : Int32) then (G.1 137) else (if a0 = (8 : Int32) then (G.1 122) else (if a0 = (9 : Int32) then (G.1 104) else (if a0 = (10 : Int32) then (G.1 102) else (-1 : Int32)))))))))))) = F_X12_count_x (G.2.1 (g.2.2 100)) (G.1 133) (G.1 137) (G.1 122) (G.1 104) (G.1 102) a0 := rfl
  have hS : va_S (AF Ty s.heap.size) s.heap s.heap [] := va_S.rf
  obtain ⟨⟨σ0, hTS0⟩, h10, hBB0⟩ := id hI.ti
  obtain ⟨ρ, hT⟩ := hTS0.1
  refine lv_aload_n hx hb dX12_count_0 rfl (lv_at hl 0 rfl) ?_
  refine lv_iconst (v := 0) hx hb dX12_count_1 (by decide) ?_
  obtain ⟨_, ⟨rfl, t_2, hk_3⟩, o_c_1⟩ := hH h0 _ k_h0
  refine hg_put (ty := .int) hx hb hG igX12 tyX12 tyX12_ok nmX12 hown hK hS o_c_1 (AF.of k_h0) rfl 5 (by decide) (hG _ mw_1289) rfl (by decide +kernel) rfl rfl (Nat.le_of_ble_eq_true rfl) dX12_count_2 (fun H locs o_c_1 hz oq hS => ?_)
  obtain ⟨G_4, eG_4⟩ : ∃ z : Gh, z = gset G 105 0 := ⟨_, rfl⟩
  have hH : HT g Ty G_4 H := by rw [eG_4]; exact HT.putN 105 0 hH k_h0 ⟨rfl, t_2, hk_3⟩ o_c_1 oq (Or.inr (Or.inr (Or.inr (Or.inr (Or.inr ⟨by decide, t_2⟩)))))
  have fr_5 : FR [105] [] [] G G_4 := FR.n FR.rf eG_4 (by decide)
  have u_6 : G_4.1 102 = (G.1 102) := by rw [eG_4]; exact (gs_ne (by decide))
  have u_7 : G_4.1 104 = (G.1 104) := by rw [eG_4]; exact (gs_ne (by decide))
  have u_8 : G_4.1 113 = (G.1 113) := by rw [eG_4]; exact (gs_ne (by decide))
  have u_9 : G_4.1 122 = (G.1 122) := by rw [eG_4]; exact (gs_ne (by decide))
  have u_10 : G_4.1 133 = (G.1 133) := by rw [eG_4]; exact (gs_ne (by decide))
  have u_11 : G_4.1 137 = (G.1 137) := by rw [eG_4]; exact (gs_ne (by decide))
  have u_12 : G_4.1 105 = 0 := by rw [eG_4]; exact gs_eq
  have w_13 : G_4.2.1 (g.2.2 100) = (G.2.1 (g.2.2 100)) := by rw [eG_4]; exact rfl
  have w_14 : G_4.2.1 (g.2.2 121) = (G.2.1 (g.2.2 121)) := by rw [eG_4]; exact rfl
  have w_15 : G_4.2.1 (g.2.2 140) = (G.2.1 (g.2.2 140)) := by rw [eG_4]; exact rfl
  have w_16 : G_4.2.1 (g.2.2 141) = (G.2.1 (g.2.2 141)) := by rw [eG_4]; exact rfl
  have w_17 : G_4.2.1 (g.2.2 111) = (G.2.1 (g.2.2 111)) := by rw [eG_4]; exact rfl
  have u_18 : G_4.2.2 111 = some (g.2.2 111) := by rw [eG_4]; exact hI.r111
  have u_19 : G_4.2.2 112 = some (g.2.2 112) := by rw [eG_4]; exact hI.r112
  clear oq hz
  refine lv_iload_n hx hb dX12_count_5 rfl (lv_at hl 1 rfl) ?_
  by_cases c_20 : a0 = 0
  · refine lv_tableIn (tgt := 64) hx hb dX12_count_6 (by rw [c_20]; decide) (by rw [c_20]; decide) (off := 58) (by rw [c_20]; rfl) (by decide) ?_
    rw [if_pos c_20] at hv
    have r_21 : rgI (0) (0) a0 := rg_w (rg_eq rl_0 c_20) (by decide) (by decide)
    refine lv_aload_n hx hb dX12_count_64 rfl (lv_at hl 0 rfl) ?_
    obtain ⟨_, ⟨rfl, t_23, hk_24⟩, o_c_22⟩ := hH h0 _ k_h0
    refine hg_get hx hb hG igX12 hown hK o_c_22 rfl 0 (by decide) (hG _ mw_1284) rfl dX12_count_65 ?_
    refine vp_callSi (W.runS (As := [.ref (g.2.2 100)]) (rest := []) ⟨hx, hb, hml, hown, hts⟩ (c_X12_thereOf l g Ty G_4 (g.2.2 100) (hk_24.1)) (cwSx 1 hts hG (gwC mw_1552) mw_88 mw_1550 mw_1551 rfl rfl rfl hd_X12_thereOf ⟨Nat.le_of_ble_eq_true rfl, Nat.le_of_ble_eq_true rfl⟩) ⟨PcH_blind, PcH_pre hK hH⟩ rfl rfl hl.1 rfl (lv_room (Nat.le_of_ble_eq_true rfl)) dX12_count_68 ⟨Nat.zero_le _, Nat.zero_le _⟩) (fun x_25 hx_25 => ?_)
    try rw [← hx_25] at hv
    have ex_26 : x_25 = F_X12_thereOf (G.2.1 (g.2.2 100)) := by rw [← w_13]; exact hx_25
    try rw [← ex_26] at hv
    exact W.iret hx hb hr (fun t ht hWm => ⟨⟨x_25, (Ty, G_4), rfl, ⟨rfl, ⟨fr_5, ⟨⟨(by rw [u_6]; exact (rg_w hI.a102 (by decide) (by decide))), (by rw [u_7]; exact (rg_w hI.a104 (by decide) (by decide))), (by rw [u_8]; exact (rg_w hI.a113 (by decide) (by decide))), (by rw [u_9]; exact (rg_w hI.a122 (by decide) (by decide))), (by rw [u_10]; exact (rg_w hI.a133 (by decide) (by decide))), (by rw [u_11]; exact (rg_w hI.a137 (by decide) (by decide))), u_18, u_19, (by rw [w_13]; exact (hI.ti.hi (show Bd ≤ Bd + 1000 by omega))), (hI.un2 (show Bd ≤ Bd + 1000 by omega) w_14 u_9), (hI.ke2 (show Bd ≤ Bd + 1000 by omega) w_15 w_16)⟩, hv.symm⟩⟩⟩, by show HT g Ty G_4 t.heap; rw [ht]; exact hH⟩, hS.F ht⟩) hS.2.2 dX12_count_71
  rw [if_neg c_20] at hv
  by_cases c_27 : a0 = 1
  · refine lv_tableIn (tgt := 72) hx hb dX12_count_6 (by rw [c_27]; decide) (by rw [c_27]; decide) (off := 66) (by rw [c_27]; rfl) (by decide) ?_
    rw [if_pos c_27] at hv
    have r_28 : rgI (1) (1) a0 := rg_w (rg_eq rl_1 c_27) (by decide) (by decide)
    refine lv_aload_n hx hb dX12_count_72 rfl (lv_at hl 0 rfl) ?_
    refine lv_bipush (v := 48) hx hb dX12_count_73 (by decide) ?_
    obtain ⟨_, ⟨rfl, t_30, hk_31⟩, o_c_29⟩ := hH h0 _ k_h0
    refine vp_callSi (W.runV (As := [.int 48]) (rest := []) ⟨hx, hb, hml, hown, hts⟩ (c_X12_bitsOf_x l g Ty G_4 h0 48 k_h0 (rg_w rl_48 (by decide) (by decide)) Bd ⟨(by rw [u_6]; exact (rg_w hI.a102 (by decide) (by decide))), (by rw [u_7]; exact (rg_w hI.a104 (by decide) (by decide))), (by rw [u_8]; exact (rg_w hI.a113 (by decide) (by decide))), (by rw [u_9]; exact (rg_w hI.a122 (by decide) (by decide))), (by rw [u_10]; exact (rg_w hI.a133 (by decide) (by decide))), (by rw [u_11]; exact (rg_w hI.a137 (by decide) (by decide))), u_18, u_19, (by rw [w_13]; exact (hI.ti.hi (show Bd ≤ Bd by omega))), (hI.un2 (show Bd ≤ Bd by omega) w_14 u_9), (hI.ke2 (show Bd ≤ Bd by omega) w_15 w_16)⟩ hBd hLD) (cwV 1 hts (gwV mw_1878 mw_1880 mw_74 mw_88 mw_1881) rfl rfl rfl hv_X12_bitsOf ⟨Nat.le_of_ble_eq_true rfl, Nat.le_of_ble_eq_true rfl⟩) ⟨PcH_blind, hg_recv hK o_c_29 rfl, PcH_pre hK hH⟩ rfl rfl hl.1 rfl (lv_room (Nat.le_of_ble_eq_true rfl)) dX12_count_75 ⟨Nat.zero_le _, Nat.zero_le _⟩) (fun x_32 hx_32 => ?_)
    try rw [← hx_32] at hv
    have ex_33 : x_32 = F_X12_bitsOf_x (G.2.1 (g.2.2 100)) 48 := hx_32.trans (by rw [w_13])
    try rw [← ex_33] at hv
    exact W.iret hx hb hr (fun t ht hWm => ⟨⟨x_32, (Ty, G_4), rfl, ⟨rfl, ⟨fr_5, ⟨⟨(by rw [u_6]; exact (rg_w hI.a102 (by decide) (by decide))), (by rw [u_7]; exact (rg_w hI.a104 (by decide) (by decide))), (by rw [u_8]; exact (rg_w hI.a113 (by decide) (by decide))), (by rw [u_9]; exact (rg_w hI.a122 (by decide) (by decide))), (by rw [u_10]; exact (rg_w hI.a133 (by decide) (by decide))), (by rw [u_11]; exact (rg_w hI.a137 (by decide) (by decide))), u_18, u_19, (by rw [w_13]; exact (hI.ti.hi (show Bd ≤ Bd + 1000 by omega))), (hI.un2 (show Bd ≤ Bd + 1000 by omega) w_14 u_9), (hI.ke2 (show Bd ≤ Bd + 1000 by omega) w_15 w_16)⟩, hv.symm⟩⟩⟩, by show HT g Ty G_4 t.heap; rw [ht]; exact hH⟩, hS.F ht⟩) hS.2.2 dX12_count_78
  rw [if_neg c_27] at hv
  by_cases c_34 : a0 = 2
  · refine lv_tableIn (tgt := 79) hx hb dX12_count_6 (by rw [c_34]; decide) (by rw [c_34]; decide) (off := 73) (by rw [c_34]; rfl) (by decide) ?_
    rw [if_pos c_34] at hv
    have r_35 : rgI (2) (2) a0 := rg_w (rg_eq rl_2 c_34) (by decide) (by decide)
    refine lv_aload_n hx hb dX12_count_79 rfl (lv_at hl 0 rfl) ?_
    refine lv_bipush (v := 72) hx hb dX12_count_80 (by decide) ?_
    obtain ⟨_, ⟨rfl, t_37, hk_38⟩, o_c_36⟩ := hH h0 _ k_h0
    refine vp_callSi (W.runV (As := [.int 72]) (rest := []) ⟨hx, hb, hml, hown, hts⟩ (c_X12_bitsOf_x l g Ty G_4 h0 72 k_h0 (rg_w rl_72 (by decide) (by decide)) Bd ⟨(by rw [u_6]; exact (rg_w hI.a102 (by decide) (by decide))), (by rw [u_7]; exact (rg_w hI.a104 (by decide) (by decide))), (by rw [u_8]; exact (rg_w hI.a113 (by decide) (by decide))), (by rw [u_9]; exact (rg_w hI.a122 (by decide) (by decide))), (by rw [u_10]; exact (rg_w hI.a133 (by decide) (by decide))), (by rw [u_11]; exact (rg_w hI.a137 (by decide) (by decide))), u_18, u_19, (by rw [w_13]; exact (hI.ti.hi (show Bd ≤ Bd by omega))), (hI.un2 (show Bd ≤ Bd by omega) w_14 u_9), (hI.ke2 (show Bd ≤ Bd by omega) w_15 w_16)⟩ hBd hLD) (cwV 1 hts (gwV mw_1878 mw_1880 mw_74 mw_88 mw_1881) rfl rfl rfl hv_X12_bitsOf ⟨Nat.le_of_ble_eq_true rfl, Nat.le_of_ble_eq_true rfl⟩) ⟨PcH_blind, hg_recv hK o_c_36 rfl, PcH_pre hK hH⟩ rfl rfl hl.1 rfl (lv_room (Nat.le_of_ble_eq_true rfl)) dX12_count_82 ⟨Nat.zero_le _, Nat.zero_le _⟩) (fun x_39 hx_39 => ?_)
    try rw [← hx_39] at hv
    have ex_40 : x_39 = F_X12_bitsOf_x (G.2.1 (g.2.2 100)) 72 := hx_39.trans (by rw [w_13])
    try rw [← ex_40] at hv
    exact W.iret hx hb hr (fun t ht hWm => ⟨⟨x_39, (Ty, G_4), rfl, ⟨rfl, ⟨fr_5, ⟨⟨(by rw [u_6]; exact (rg_w hI.a102 (by decide) (by decide))), (by rw [u_7]; exact (rg_w hI.a104 (by decide) (by decide))), (by rw [u_8]; exact (rg_w hI.a113 (by decide) (by decide))), (by rw [u_9]; exact (rg_w hI.a122 (by decide) (by decide))), (by rw [u_10]; exact (rg_w hI.a133 (by decide) (by decide))), (by rw [u_11]; exact (rg_w hI.a137 (by decide) (by decide))), u_18, u_19, (by rw [w_13]; exact (hI.ti.hi (show Bd ≤ Bd + 1000 by omega))), (hI.un2 (show Bd ≤ Bd + 1000 by omega) w_14 u_9), (hI.ke2 (show Bd ≤ Bd + 1000 by omega) w_15 w_16)⟩, hv.symm⟩⟩⟩, by show HT g Ty G_4 t.heap; rw [ht]; exact hH⟩, hS.F ht⟩) hS.2.2 dX12_count_85
  rw [if_neg c_34] at hv
  by_cases c_41 : a0 = 3
  · refine lv_tableIn (tgt := 86) hx hb dX12_count_6 (by rw [c_41]; decide) (by rw [c_41]; decide) (off := 80) (by rw [c_41]; rfl) (by decide) ?_
    rw [if_pos c_41] at hv
    have r_42 : rgI (3) (3) a0 := rg_w (rg_eq rl_3 c_41) (by decide) (by decide)
    refine lv_aload_n hx hb dX12_count_86 rfl (lv_at hl 0 rfl) ?_
    refine lv_bipush (v := 96) hx hb dX12_count_87 (by decide) ?_
    obtain ⟨_, ⟨rfl, t_44, hk_45⟩, o_c_43⟩ := hH h0 _ k_h0
    refine vp_callSi (W.runV (As := [.int 96]) (rest := []) ⟨hx, hb, hml, hown, hts⟩ (c_X12_bitsOf_x l g Ty G_4 h0 96 k_h0 (rg_w rl_96 (by decide) (by decide)) Bd ⟨(by rw [u_6]; exact (rg_w hI.a102 (by decide) (by decide))), (by rw [u_7]; exact (rg_w hI.a104 (by decide) (by decide))), (by rw [u_8]; exact (rg_w hI.a113 (by decide) (by decide))), (by rw [u_9]; exact (rg_w hI.a122 (by decide) (by decide))), (by rw [u_10]; exact (rg_w hI.a133 (by decide) (by decide))), (by rw [u_11]; exact (rg_w hI.a137 (by decide) (by decide))), u_18, u_19, (by rw [w_13]; exact (hI.ti.hi (show Bd ≤ Bd by omega))), (hI.un2 (show Bd ≤ Bd by omega) w_14 u_9), (hI.ke2 (show Bd ≤ Bd by omega) w_15 w_16)⟩ hBd hLD) (cwV 1 hts (gwV mw_1878 mw_1880 mw_74 mw_88 mw_1881) rfl rfl rfl hv_X12_bitsOf ⟨Nat.le_of_ble_eq_true rfl, Nat.le_of_ble_eq_true rfl⟩) ⟨PcH_blind, hg_recv hK o_c_43 rfl, PcH_pre hK hH⟩ rfl rfl hl.1 rfl (lv_room (Nat.le_of_ble_eq_true rfl)) dX12_count_89 ⟨Nat.zero_le _, Nat.zero_le _⟩) (fun x_46 hx_46 => ?_)
    try rw [← hx_46] at hv
    have ex_47 : x_46 = F_X12_bitsOf_x (G.2.1 (g.2.2 100)) 96 := hx_46.trans (by rw [w_13])
    try rw [← ex_47] at hv
    exact W.iret hx hb hr (fun t ht hWm => ⟨⟨x_46, (Ty, G_4), rfl, ⟨rfl, ⟨fr_5, ⟨⟨(by rw [u_6]; exact (rg_w hI.a102 (by decide) (by decide))), (by rw [u_7]; exact (rg_w hI.a104 (by decide) (by decide))), (by rw [u_8]; exact (rg_w hI.a113 (by decide) (by decide))), (by rw [u_9]; exact (rg_w hI.a122 (by decide) (by decide))), (by rw [u_10]; exact (rg_w hI.a133 (by decide) (by decide))), (by rw [u_11]; exact (rg_w hI.a137 (by decide) (by decide))), u_18, u_19, (by rw [w_13]; exact (hI.ti.hi (show Bd ≤ Bd + 1000 by omega))), (hI.un2 (show Bd ≤ Bd + 1000 by omega) w_14 u_9), (hI.ke2 (show Bd ≤ Bd + 1000 by omega) w_15 w_16)⟩, hv.symm⟩⟩⟩, by show HT g Ty G_4 t.heap; rw [ht]; exact hH⟩, hS.F ht⟩) hS.2.2 dX12_count_92
  rw [if_neg c_41] at hv
  by_cases c_48 : a0 = 4
  · refine lv_tableIn (tgt := 93) hx hb dX12_count_6 (by rw [c_48]; decide) (by rw [c_48]; decide) (off := 87) (by rw [c_48]; rfl) (by decide) ?_
    rw [if_pos c_48] at hv
    have r_49 : rgI (4) (4) a0 := rg_w (rg_eq rl_4 c_48) (by decide) (by decide)
    refine lv_aload_n hx hb dX12_count_93 rfl (lv_at hl 0 rfl) ?_
    obtain ⟨_, ⟨rfl, t_51, hk_52⟩, o_c_50⟩ := hH h0 _ k_h0
    refine hg_get hx hb hG igX12 hown hK o_c_50 rfl 0 (by decide) (hG _ mw_1284) rfl dX12_count_94 ?_
    refine lv_bipush (v := 120) hx hb dX12_count_97 (by decide) ?_
    obtain ⟨_, rfl, o_c_53⟩ := hH (g.2.2 100) _ hk_52.1
    have o_c_53 : va_at g.1 vwCl ((g.2.2 100), .inl (g.2.1 1, 122, .inl (G_4.2.1 (g.2.2 100)))) H := o_c_53
    refine hg_iald hx hb hK o_c_53 (rg_in (n := 122) rl_120 (by decide) (by decide)) dX12_count_99 ?_
    rw [w_13]
    refine lv_topi (fun x_54 ex_54 => ?_)
    try rw [← ex_54] at hv
    exact W.iret hx hb hr (fun t ht hWm => ⟨⟨x_54, (Ty, G_4), rfl, ⟨rfl, ⟨fr_5, ⟨⟨(by rw [u_6]; exact (rg_w hI.a102 (by decide) (by decide))), (by rw [u_7]; exact (rg_w hI.a104 (by decide) (by decide))), (by rw [u_8]; exact (rg_w hI.a113 (by decide) (by decide))), (by rw [u_9]; exact (rg_w hI.a122 (by decide) (by decide))), (by rw [u_10]; exact (rg_w hI.a133 (by decide) (by decide))), (by rw [u_11]; exact (rg_w hI.a137 (by decide) (by decide))), u_18, u_19, (by rw [w_13]; exact (hI.ti.hi (show Bd ≤ Bd + 1000 by omega))), (hI.un2 (show Bd ≤ Bd + 1000 by omega) w_14 u_9), (hI.ke2 (show Bd ≤ Bd + 1000 by omega) w_15 w_16)⟩, hv.symm⟩⟩⟩, by show HT g Ty G_4 t.heap; rw [ht]; exact hH⟩, hS.F ht⟩) hS.2.2 dX12_count_100
  rw [if_neg c_48] at hv
  by_cases c_55 : a0 = 5
  · refine lv_tableIn (tgt := 101) hx hb dX12_count_6 (by rw [c_55]; decide) (by rw [c_55]; decide) (off := 95) (by rw [c_55]; rfl) (by decide) ?_
    rw [if_pos c_55] at hv
    have r_56 : rgI (5) (5) a0 := rg_w (rg_eq rl_5 c_55) (by decide) (by decide)
    refine lv_aload_n hx hb dX12_count_101 rfl (lv_at hl 0 rfl) ?_
    obtain ⟨_, ⟨rfl, t_58, hk_59⟩, o_c_57⟩ := hH h0 _ k_h0
    refine hg_get hx hb hG igX12 hown hK o_c_57 rfl 0 (by decide) (hG _ mw_1284) rfl dX12_count_102 ?_
    refine lv_bipush (v := 121) hx hb dX12_count_105 (by decide) ?_
    obtain ⟨_, rfl, o_c_60⟩ := hH (g.2.2 100) _ hk_59.1
    have o_c_60 : va_at g.1 vwCl ((g.2.2 100), .inl (g.2.1 1, 122, .inl (G_4.2.1 (g.2.2 100)))) H := o_c_60
    refine hg_iald hx hb hK o_c_60 (rg_in (n := 122) rl_121 (by decide) (by decide)) dX12_count_107 ?_
    rw [w_13]
    refine lv_topi (fun x_61 ex_61 => ?_)
    try rw [← ex_61] at hv
    exact W.iret hx hb hr (fun t ht hWm => ⟨⟨x_61, (Ty, G_4), rfl, ⟨rfl, ⟨fr_5, ⟨⟨(by rw [u_6]; exact (rg_w hI.a102 (by decide) (by decide))), (by rw [u_7]; exact (rg_w hI.a104 (by decide) (by decide))), (by rw [u_8]; exact (rg_w hI.a113 (by decide) (by decide))), (by rw [u_9]; exact (rg_w hI.a122 (by decide) (by decide))), (by rw [u_10]; exact (rg_w hI.a133 (by decide) (by decide))), (by rw [u_11]; exact (rg_w hI.a137 (by decide) (by decide))), u_18, u_19, (by rw [w_13]; exact (hI.ti.hi (show Bd ≤ Bd + 1000 by omega))), (hI.un2 (show Bd ≤ Bd + 1000 by omega) w_14 u_9), (hI.ke2 (show Bd ≤ Bd + 1000 by omega) w_15 w_16)⟩, hv.symm⟩⟩⟩, by show HT g Ty G_4 t.heap; rw [ht]; exact hH⟩, hS.F ht⟩) hS.2.2 dX12_count_108
  rw [if_neg c_55] at hv
  by_cases c_62 : a0 = 6
  · refine lv_tableIn (tgt := 109) hx hb dX12_count_6 (by rw [c_62]; decide) (by rw [c_62]; decide) (off := 103) (by rw [c_62]; rfl) (by decide) ?_
    rw [if_pos c_62] at hv
    have r_63 : rgI (6) (6) a0 := rg_w (rg_eq rl_6 c_62) (by decide) (by decide)
    refine lv_aload_n hx hb dX12_count_109 rfl (lv_at hl 0 rfl) ?_
    obtain ⟨_, ⟨rfl, t_65, hk_66⟩, o_c_64⟩ := hH h0 _ k_h0
    refine hg_get hx hb hG igX12 hown hK o_c_64 rfl 33 (by decide) (hG _ mw_1317) rfl dX12_count_110 ?_
    rw [u_10]
    exact W.iret hx hb hr (fun t ht hWm => ⟨⟨(G.1 133), (Ty, G_4), rfl, ⟨rfl, ⟨fr_5, ⟨⟨(by rw [u_6]; exact (rg_w hI.a102 (by decide) (by decide))), (by rw [u_7]; exact (rg_w hI.a104 (by decide) (by decide))), (by rw [u_8]; exact (rg_w hI.a113 (by decide) (by decide))), (by rw [u_9]; exact (rg_w hI.a122 (by decide) (by decide))), (by rw [u_10]; exact (rg_w hI.a133 (by decide) (by decide))), (by rw [u_11]; exact (rg_w hI.a137 (by decide) (by decide))), u_18, u_19, (by rw [w_13]; exact (hI.ti.hi (show Bd ≤ Bd + 1000 by omega))), (hI.un2 (show Bd ≤ Bd + 1000 by omega) w_14 u_9), (hI.ke2 (show Bd ≤ Bd + 1000 by omega) w_15 w_16)⟩, hv.symm⟩⟩⟩, by show HT g Ty G_4 t.heap; rw [ht]; exact hH⟩, hS.F ht⟩) hS.2.2 dX12_count_113
  rw [if_neg c_62] at hv
  by_cases c_67 : a0 = 7
  · refine lv_tableIn (tgt := 114) hx hb dX12_count_6 (by rw [c_67]; decide) (by rw [c_67]; decide) (off := 108) (by rw [c_67]; rfl) (by decide) ?_
    rw [if_pos c_67] at hv
    have r_68 : rgI (7) (7) a0 := rg_w (rg_eq rl_7 c_67) (by decide) (by decide)
    refine lv_aload_n hx hb dX12_count_114 rfl (lv_at hl 0 rfl) ?_
    obtain ⟨_, ⟨rfl, t_70, hk_71⟩, o_c_69⟩ := hH h0 _ k_h0
    refine hg_get hx hb hG igX12 hown hK o_c_69 rfl 37 (by decide) (hG _ mw_1321) rfl dX12_count_115 ?_
    rw [u_11]
    exact W.iret hx hb hr (fun t ht hWm => ⟨⟨(G.1 137), (Ty, G_4), rfl, ⟨rfl, ⟨fr_5, ⟨⟨(by rw [u_6]; exact (rg_w hI.a102 (by decide) (by decide))), (by rw [u_7]; exact (rg_w hI.a104 (by decide) (by decide))), (by rw [u_8]; exact (rg_w hI.a113 (by decide) (by decide))), (by rw [u_9]; exact (rg_w hI.a122 (by decide) (by decide))), (by rw [u_10]; exact (rg_w hI.a133 (by decide) (by decide))), (by rw [u_11]; exact (rg_w hI.a137 (by decide) (by decide))), u_18, u_19, (by rw [w_13]; exact (hI.ti.hi (show Bd ≤ Bd + 1000 by omega))), (hI.un2 (show Bd ≤ Bd + 1000 by omega) w_14 u_9), (hI.ke2 (show Bd ≤ Bd + 1000 by omega) w_15 w_16)⟩, hv.symm⟩⟩⟩, by show HT g Ty G_4 t.heap; rw [ht]; exact hH⟩, hS.F ht⟩) hS.2.2 dX12_count_118
  rw [if_neg c_67] at hv
  by_cases c_72 : a0 = 8
  · refine lv_tableIn (tgt := 119) hx hb dX12_count_6 (by rw [c_72]; decide) (by rw [c_72]; decide) (off := 113) (by rw [c_72]; rfl) (by decide) ?_
    rw [if_pos c_72] at hv
    have r_73 : rgI (8) (8) a0 := rg_w (rg_eq rl_8 c_72) (by decide) (by decide)
    refine lv_aload_n hx hb dX12_count_119 rfl (lv_at hl 0 rfl) ?_
    obtain ⟨_, ⟨rfl, t_75, hk_76⟩, o_c_74⟩ := hH h0 _ k_h0
    refine hg_get hx hb hG igX12 hown hK o_c_74 rfl 22 (by decide) (hG _ mw_1306) rfl dX12_count_120 ?_
    rw [u_9]
    exact W.iret hx hb hr (fun t ht hWm => ⟨⟨(G.1 122), (Ty, G_4), rfl, ⟨rfl, ⟨fr_5, ⟨⟨(by rw [u_6]; exact (rg_w hI.a102 (by decide) (by decide))), (by rw [u_7]; exact (rg_w hI.a104 (by decide) (by decide))), (by rw [u_8]; exact (rg_w hI.a113 (by decide) (by decide))), (by rw [u_9]; exact (rg_w hI.a122 (by decide) (by decide))), (by rw [u_10]; exact (rg_w hI.a133 (by decide) (by decide))), (by rw [u_11]; exact (rg_w hI.a137 (by decide) (by decide))), u_18, u_19, (by rw [w_13]; exact (hI.ti.hi (show Bd ≤ Bd + 1000 by omega))), (hI.un2 (show Bd ≤ Bd + 1000 by omega) w_14 u_9), (hI.ke2 (show Bd ≤ Bd + 1000 by omega) w_15 w_16)⟩, hv.symm⟩⟩⟩, by show HT g Ty G_4 t.heap; rw [ht]; exact hH⟩, hS.F ht⟩) hS.2.2 dX12_count_123
  rw [if_neg c_72] at hv
  by_cases c_77 : a0 = 9
  · refine lv_tableIn (tgt := 124) hx hb dX12_count_6 (by rw [c_77]; decide) (by rw [c_77]; decide) (off := 118) (by rw [c_77]; rfl) (by decide) ?_
    rw [if_pos c_77] at hv
    have r_78 : rgI (9) (9) a0 := rg_w (rg_eq rl_9 c_77) (by decide) (by decide)
    refine lv_aload_n hx hb dX12_count_124 rfl (lv_at hl 0 rfl) ?_
    obtain ⟨_, ⟨rfl, t_80, hk_81⟩, o_c_79⟩ := hH h0 _ k_h0
    refine hg_get hx hb hG igX12 hown hK o_c_79 rfl 4 (by decide) (hG _ mw_1288) rfl dX12_count_125 ?_
    rw [u_7]
    exact W.iret hx hb hr (fun t ht hWm => ⟨⟨(G.1 104), (Ty, G_4), rfl, ⟨rfl, ⟨fr_5, ⟨⟨(by rw [u_6]; exact (rg_w hI.a102 (by decide) (by decide))), (by rw [u_7]; exact (rg_w hI.a104 (by decide) (by decide))), (by rw [u_8]; exact (rg_w hI.a113 (by decide) (by decide))), (by rw [u_9]; exact (rg_w hI.a122 (by decide) (by decide))), (by rw [u_10]; exact (rg_w hI.a133 (by decide) (by decide))), (by rw [u_11]; exact (rg_w hI.a137 (by decide) (by decide))), u_18, u_19, (by rw [w_13]; exact (hI.ti.hi (show Bd ≤ Bd + 1000 by omega))), (hI.un2 (show Bd ≤ Bd + 1000 by omega) w_14 u_9), (hI.ke2 (show Bd ≤ Bd + 1000 by omega) w_15 w_16)⟩, hv.symm⟩⟩⟩, by show HT g Ty G_4 t.heap; rw [ht]; exact hH⟩, hS.F ht⟩) hS.2.2 dX12_count_128
  rw [if_neg c_77] at hv
  by_cases c_82 : a0 = 10
  · refine lv_tableIn (tgt := 129) hx hb dX12_count_6 (by rw [c_82]; decide) (by rw [c_82]; decide) (off := 123) (by rw [c_82]; rfl) (by decide) ?_
    rw [if_pos c_82] at hv
    have r_83 : rgI (10) (10) a0 := rg_w (rg_eq rl_10 c_82) (by decide) (by decide)
    refine lv_aload_n hx hb dX12_count_129 rfl (lv_at hl 0 rfl) ?_
    obtain ⟨_, ⟨rfl, t_85, hk_86⟩, o_c_84⟩ := hH h0 _ k_h0
    refine hg_get hx hb hG igX12 hown hK o_c_84 rfl 2 (by decide) (hG _ mw_1286) rfl dX12_count_130 ?_
    rw [u_6]
    exact W.iret hx hb hr (fun t ht hWm => ⟨⟨(G.1 102), (Ty, G_4), rfl, ⟨rfl, ⟨fr_5, ⟨⟨(by rw [u_6]; exact (rg_w hI.a102 (by decide) (by decide))), (by rw [u_7]; exact (rg_w hI.a104 (by decide) (by decide))), (by rw [u_8]; exact (rg_w hI.a113 (by decide) (by decide))), (by rw [u_9]; exact (rg_w hI.a122 (by decide) (by decide))), (by rw [u_10]; exact (rg_w hI.a133 (by decide) (by decide))), (by rw [u_11]; exact (rg_w hI.a137 (by decide) (by decide))), u_18, u_19, (by rw [w_13]; exact (hI.ti.hi (show Bd ≤ Bd + 1000 by omega))), (hI.un2 (show Bd ≤ Bd + 1000 by omega) w_14 u_9), (hI.ke2 (show Bd ≤ Bd + 1000 by omega) w_15 w_16)⟩, hv.symm⟩⟩⟩, by show HT g Ty G_4 t.heap; rw [ht]; exact hH⟩, hS.F ht⟩) hS.2.2 dX12_count_133
  rw [if_neg c_82] at hv
  refine lv_tableOut (tgt := 134) hx hb dX12_count_6 (by have := lv_neT (a := 0) c_20 rfl; have := lv_neT (a := 1) c_27 rfl; have := lv_neT (a := 2) c_34 rfl; have := lv_neT (a := 3) c_41 rfl; have := lv_neT (a := 4) c_48 rfl; have := lv_neT (a := 5) c_55 rfl; have := lv_neT (a := 6) c_62 rfl; have := lv_neT (a := 7) c_67 rfl; have := lv_neT (a := 8) c_72 rfl; have := lv_neT (a := 9) c_77 rfl; have := lv_neT (a := 10) c_82 rfl; omega) (by decide) ?_
  refine lv_iconst (v := (-1)) hx hb dX12_count_134 (by decide) ?_
  exact W.iret hx hb hr (fun t ht hWm => ⟨⟨(-1), (Ty, G_4), rfl, ⟨rfl, ⟨fr_5, ⟨⟨(by rw [u_6]; exact (rg_w hI.a102 (by decide) (by decide))), (by rw [u_7]; exact (rg_w hI.a104 (by decide) (by decide))), (by rw [u_8]; exact (rg_w hI.a113 (by decide) (by decide))), (by rw [u_9]; exact (rg_w hI.a122 (by decide) (by decide))), (by rw [u_10]; exact (rg_w hI.a133 (by decide) (by decide))), (by rw [u_11]; exact (rg_w hI.a137 (by decide) (by decide))), u_18, u_19, (by rw [w_13]; exact (hI.ti.hi (show Bd ≤ Bd + 1000 by omega))), (hI.un2 (show Bd ≤ Bd + 1000 by omega) w_14 u_9), (hI.ke2 (show Bd ≤ Bd + 1000 by omega) w_15 w_16)⟩, hv.symm⟩⟩⟩, by show HT g Ty G_4 t.heap; rw [ht]; exact hH⟩, hS.F ht⟩) hS.2.2 dX12_count_135

def F_X12_rests_x_35 : Nat → Int32 → Int32 → Int32 → Int32 → Int32
  | 0, _, y2, _, _ => y2
  | n + 1, y1, y2, y3, y4 => (if (9 : Int32) < y4 then y2 else (if (F_X12_isBest y3 y4 y1) = (0 : Int32) then (F_X12_rests_x_35 n y1 y2 y3 (y4 + (1 : Int32))) else (if (F_X12_isBest y4 y3 y1) = (0 : Int32) then (F_X12_rests_x_35 n y1 y2 y3 (y4 + (1 : Int32))) else (if y2 = (0 : Int32) then (F_X12_rests_x_35 n y1 (y2 + (1 : Int32)) y3 (y4 + (1 : Int32))) else (F_X12_rests_x_35 n y1 (y2 + (1 : Int32)) y3 (y4 + (1 : Int32)))))))
def F_X12_rests_x_26 : Nat → Int32 → Int32 → Int32 → Int32
  | 0, _, y2, _ => y2
  | n + 1, y1, y2, y3 => (if (9 : Int32) < y3 then y2 else (F_X12_rests_x_26 n y1 (F_X12_rests_x_35 12 y1 y2 y3 (0 : Int32)) (y3 + (1 : Int32))))
def F_X12_rests_x (a0 : Int32) : Int32 := (if (F_X12_in a0 (0 : Int32) (20 : Int32)) = (0 : Int32) then (-1 : Int32) else (F_X12_rests_x_26 12 a0 (0 : Int32) (0 : Int32)))
set_option maxHeartbeats 4000000 in
set_option maxRecDepth 100000 in
theorem c_X12_rests_x (l : Launch) (g : Gx) (Ty : TyM) (G : Gh) (sz : Nat) (h0 : Nat) (a0 : Int32) (k_h0 : Ty h0 = some (22, 0)) (Bd : Int) (hI : OI g Bd G) (hBd : Bd ≤ 1900000) (hLD : LD g) : Met l yX12_rests (wsG yX12_rests cX12_rests 5 (some .int)) ({ frames := 2, cells := 0, slots := 0, locals := 45 }) (PcT g Ty G sz [.ref h0, .int a0]) (QwI g Ty sz (fun r u => u.1 = Ty ∧ FR [104, 105] [] [] G u.2 ∧ OI g (Bd + 1000) u.2 ∧ F_X12_rests_x a0 = r)) 0 0 (AF Ty sz) := by
  refine Met.ofW (cc := cX12_rests) (maxL := 5) (ret := (some .int)) (by decide) rfl ?_
  intro p e s m args below meth c s₁ B hml hv
  obtain ⟨rfl, hsz, hK, hH⟩ := hv
  subst hsz
  have hx := B.exec
  have hb := B.bytes
  have hr := B.returns
  have hts := atoms_spec (ws := (wsG yX12_rests cX12_rests 5 (some .int))) B.pre
  have hG : ∀ w ∈ GW, w.before ([.ref h0, .int a0] : List Value).toArray s = true := fun w h => hts w (List.mem_cons_of_mem _ h)
  have hown : s.vm.findClass RX12 = some m.cls := findClass_of_methodNamed B.named
  have hlocks := B.notSynchronized
  have hl := lv_entry [.ref h0, .int a0] (n := 5) (Nat.le_of_ble_eq_true rfl)
  rw [lg_entry_eq]
  generalize (lg_sl [.ref h0, .int a0] ++ List.replicate (5 - (lg_sl [.ref h0, .int a0]).length) Slot.unset).toArray = ls at hl ⊢
  have hl : lv_has ls 5 [(0, .ref h0), (1, .int a0)] := hl
  have hmk : mdK g Ty := mdk_of hH k_h0
  have hv : (if (F_X12_in a0 (0 : Int32) (20 : Int32)) = (0 : Int32) then (-1 : Int32) else (F_X12_rests_x_26 12 a0 (0 : Int32) (0 : Int32))) = F_X12_rests_x a0 := rfl
  have hS : va_S (AF Ty s.heap.size) s.heap s.heap [] := va_S.rf
  obtain ⟨⟨σ0, hTS0⟩, h10, hBB0⟩ := id hI.ti
  obtain ⟨ρ, hT⟩ := hTS0.1
  have L_26 : ∀ (n_26 : Nat) (H : Heap) (locs : List Loc) (G_26 : Gh) (y2_26 : Int32) (y3_26 : Int32) (ls : Array Slot), rgI (0) (2) (G_26.1 104) → FR [104, 105] [] [] G G_26 → rgI (0) (20) a0 → rgI (0) (10) y3_26 → (0 ≤ (y2_26 : Int32).toInt ∧ (y2_26 : Int32).toInt ≤ 10 * (y3_26 : Int32).toInt) → (¬ y2_26 = 0 ∨ G_26.1 104 = 0) → (10 - (y3_26).toInt).toNat < n_26 → lv_has ls 5 [(0, .ref h0), (1, .int a0), (2, .int y2_26), (3, .int y3_26)] → (F_X12_rests_x_26 n_26 a0 y2_26 y3_26) = F_X12_rests_x a0 → HT g Ty G_26 H → va_S (AF Ty s.heap.size) s.heap H locs → Wm p l e (wsG yX12_rests cX12_rests 5 (some .int)) ({ frames := 2, cells := 0, slots := 0, locals := 45 }) s m [.ref h0, .int a0] below meth c H locs (0) (0) (QwI g Ty s.heap.size (fun r u => u.1 = Ty ∧ FR [104, 105] [] [] G u.2 ∧ OI g (Bd + 1000) u.2 ∧ F_X12_rests_x a0 = r)) 0 0 (AF Ty s.heap.size) (F0 m 26 ls []) := by
    intro n_26
    induction n_26 with
    | zero => intro H locs G_26 y2_26 y3_26 ls rg104_26 frL_26 ry1_26 ry3_26 hi0_26 hi1_26 hm; exact absurd hm (Nat.not_lt_zero _)
    | succ n_26 ih_26 =>
      intro H locs G_26 y2_26 y3_26 ls rg104_26 frL_26 ry1_26 ry3_26 hi0_26 hi1_26 hm_26 hl hv hH hS
      have L_35 : ∀ (n_35 : Nat) (H : Heap) (locs : List Loc) (G_35 : Gh) (y2_35 : Int32) (y4_35 : Int32) (ls : Array Slot), rgI (0) (2) (G_35.1 104) → FR [104, 105] [] [] G G_35 → rgI (0) (20) a0 → rgI (0) (9) y3_26 → rgI (0) (10) y4_35 → (0 ≤ (y2_35 : Int32).toInt ∧ (y2_35 : Int32).toInt ≤ 10 * (y3_26 : Int32).toInt + (y4_35 : Int32).toInt) → (¬ y2_35 = 0 ∨ G_35.1 104 = 0) → (10 - (y4_35).toInt).toNat < n_35 → lv_has ls 5 [(0, .ref h0), (1, .int a0), (2, .int y2_35), (3, .int y3_26), (4, .int y4_35)] → (F_X12_rests_x_26 n_26 a0 (F_X12_rests_x_35 n_35 a0 y2_35 y3_26 y4_35) (y3_26 + (1 : Int32))) = F_X12_rests_x a0 → HT g Ty G_35 H → va_S (AF Ty s.heap.size) s.heap H locs → Wm p l e (wsG yX12_rests cX12_rests 5 (some .int)) ({ frames := 2, cells := 0, slots := 0, locals := 45 }) s m [.ref h0, .int a0] below meth c H locs (0) (0) (QwI g Ty s.heap.size (fun r u => u.1 = Ty ∧ FR [104, 105] [] [] G u.2 ∧ OI g (Bd + 1000) u.2 ∧ F_X12_rests_x a0 = r)) 0 0 (AF Ty s.heap.size) (F0 m 35 ls []) := by
        intro n_35
        induction n_35 with
        | zero => intro H locs G_35 y2_35 y4_35 ls rg104_35 frL_35 ry1_35 ry3_35 ry4_35 hi0_35 hi1_35 hm; exact absurd hm (Nat.not_lt_zero _)
        | succ n_35 ih_35 =>
          intro H locs G_35 y2_35 y4_35 ls rg104_35 frL_35 ry1_35 ry3_35 ry4_35 hi0_35 hi1_35 hm_35 hl hv hH hS
          rw [F_X12_rests_x_35] at hv
          refine lv_iload hx hb dX12_rests_35 (lv_at hl 4 rfl) ?_
          refine lv_bipush (v := 9) hx hb dX12_rests_37 (by decide) ?_
          refine lv_icmp_gt (tgt := 91) hx hb dX12_rests_39 (by decide) (fun c_1 => ?_) (fun c_1 => ?_)
          · rw [if_pos c_1] at hv
            have r_2 : rgI (10) (10) y4_35 := rg_w (rg_ltR rl_9 ry4_35 c_1) (by decide) (by decide)
            obtain ⟨x_3, ex_3⟩ : ∃ y : Int32, y = y3_26 + 1 := ⟨_, rfl⟩
            try rw [← ex_3] at hv
            have rx_3 : rgI (1) (10) x_3 := by rw [ex_3]; exact rg_w (rg_add ry3_35 rl_1 (by decide) (by decide)) (by decide) (by decide)
            have qx_3 : x_3.toInt = (y3_26 : Int32).toInt + 1 := by rw [ex_3]; exact rg_addE ry3_35 rl_1 (by decide) (by decide)
            refine lv_iinc (v := x_3) (lv' := [(3, .int x_3), (0, .ref h0), (1, .int a0), (2, .int y2_35), (4, .int y4_35)]) hx hb dX12_rests_91 hl (k := 3) rfl (by rw [ex_3]; rfl) (by decide) rfl (fun ls hl => ?_)
            refine lv_goto (tgt := 26) hx hb dX12_rests_94 (by decide) ?_
            exact ih_26 H locs G_35 y2_35 x_3 ls (rg_w rg104_35 (by decide) (by decide)) frL_35 ry1_35 (rg_w rx_3 (by decide) (by decide)) ⟨hi0_35.1, by have q := hi0_35.2; have q2 := qx_3; have q3 := (r_2).2; omega⟩ hi1_35 (by have h1 := qx_3; have h2 := ry3_35.1; have h3 := ry3_35.2; have h4 := hm_26; omega) (lv_sub hl [1, 2, 3, 0] rfl) hv hH hS
          · rw [if_neg c_1] at hv
            have r_4 : rgI (0) (9) y4_35 := rg_w (rg_leL ry4_35 rl_9 (nlt_le c_1)) (by decide) (by decide)
            refine lv_iload_n hx hb dX12_rests_42 rfl (lv_at hl 3 rfl) ?_
            refine lv_iload hx hb dX12_rests_43 (lv_at hl 4 rfl) ?_
            refine lv_iload_n hx hb dX12_rests_45 rfl (lv_at hl 1 rfl) ?_
            refine vp_callSi (W.runS (As := [.int y3_26, .int y4_35, .int a0]) (rest := []) ⟨hx, hb, hml, hown, hts⟩ (c_X12_isBest l g Ty G_35 y3_26 y4_35 a0 ) (cwSx 3 hts hG (gwC mw_1845) mw_88 mw_1843 mw_1844 rfl rfl rfl hd_X12_isBest ⟨Nat.le_of_ble_eq_true rfl, Nat.le_of_ble_eq_true rfl⟩) ⟨PcH_blind, PcH_pre hK hH⟩ rfl rfl hl.1 rfl (lv_room (Nat.le_of_ble_eq_true rfl)) dX12_rests_46 ⟨Nat.zero_le _, Nat.zero_le _⟩) (fun x_5 hx_5 => ?_)
            have rx_5 : rgI (0) (1) x_5 := hx_5.1
            try rw [← hx_5.2] at hv
            try rw [← hx_5.2] at hv
            refine lv_if_eq (tgt := 85) hx hb dX12_rests_49 (by decide) (fun c_6 => ?_) (fun c_6 => ?_)
            · rw [if_pos c_6] at hv
              have r_7 : rgI (0) (0) x_5 := rg_w (rg_eq rl_0 c_6) (by decide) (by decide)
              obtain ⟨x_8, ex_8⟩ : ∃ y : Int32, y = y4_35 + 1 := ⟨_, rfl⟩
              try rw [← ex_8] at hv
              have rx_8 : rgI (1) (10) x_8 := by rw [ex_8]; exact rg_w (rg_add r_4 rl_1 (by decide) (by decide)) (by decide) (by decide)
              have qx_8 : x_8.toInt = (y4_35 : Int32).toInt + 1 := by rw [ex_8]; exact rg_addE r_4 rl_1 (by decide) (by decide)
              refine lv_iinc (v := x_8) (lv' := [(4, .int x_8), (0, .ref h0), (1, .int a0), (2, .int y2_35), (3, .int y3_26)]) hx hb dX12_rests_85 hl (k := 4) rfl (by rw [ex_8]; rfl) (by decide) rfl (fun ls hl => ?_)
              refine lv_goto (tgt := 35) hx hb dX12_rests_88 (by decide) ?_
              exact ih_35 H locs G_35 y2_35 x_8 ls (rg_w rg104_35 (by decide) (by decide)) frL_35 ry1_35 ry3_35 (rg_w rx_8 (by decide) (by decide)) ⟨hi0_35.1, by have q := qx_8; have q2 := hi0_35.2; omega⟩ hi1_35 (by have h1 := qx_8; have h2 := r_4.1; have h3 := r_4.2; have h4 := hm_35; omega) (lv_sub hl [1, 2, 3, 4, 0] rfl) hv hH hS
            · rw [if_neg c_6] at hv
              have r_9 : rgI (1) (1) x_5 := rg_w (rg_neL rx_5 rl_0 c_6) (by decide) (by decide)
              refine lv_iload hx hb dX12_rests_52 (lv_at hl 4 rfl) ?_
              refine lv_iload_n hx hb dX12_rests_54 rfl (lv_at hl 3 rfl) ?_
              refine lv_iload_n hx hb dX12_rests_55 rfl (lv_at hl 1 rfl) ?_
              refine vp_callSi (W.runS (As := [.int y4_35, .int y3_26, .int a0]) (rest := []) ⟨hx, hb, hml, hown, hts⟩ (c_X12_isBest l g Ty G_35 y4_35 y3_26 a0 ) (cwSx 3 hts hG (gwC mw_1845) mw_88 mw_1843 mw_1844 rfl rfl rfl hd_X12_isBest ⟨Nat.le_of_ble_eq_true rfl, Nat.le_of_ble_eq_true rfl⟩) ⟨PcH_blind, PcH_pre hK hH⟩ rfl rfl hl.1 rfl (lv_room (Nat.le_of_ble_eq_true rfl)) dX12_rests_56 ⟨Nat.zero_le _, Nat.zero_le _⟩) (fun x_10 hx_10 => ?_)
              have rx_10 : rgI (0) (1) x_10 := hx_10.1
              try rw [← hx_10.2] at hv
              try rw [← hx_10.2] at hv
              refine lv_if_ne (tgt := 65) hx hb dX12_rests_59 (by decide) (fun c_11 => ?_) (fun c_11 => ?_)
              · rw [if_neg c_11] at hv
                have r_12 : rgI (1) (1) x_10 := rg_w (rg_neL rx_10 rl_0 c_11) (by decide) (by decide)
                refine lv_iload_n hx hb dX12_rests_65 rfl (lv_at hl 2 rfl) ?_
                refine lv_if_ne (tgt := 82) hx hb dX12_rests_66 (by decide) (fun c_13 => ?_) (fun c_13 => ?_)
                · rw [if_neg c_13] at hv
                  obtain ⟨x_14, ex_14⟩ : ∃ y : Int32, y = y2_35 + 1 := ⟨_, rfl⟩
                  try rw [← ex_14] at hv
                  refine lv_iinc (v := x_14) (lv' := [(2, .int x_14), (0, .ref h0), (1, .int a0), (3, .int y3_26), (4, .int y4_35)]) hx hb dX12_rests_82 hl (k := 2) rfl (by rw [ex_14]; rfl) (by decide) rfl (fun ls hl => ?_)
                  obtain ⟨x_15, ex_15⟩ : ∃ y : Int32, y = y4_35 + 1 := ⟨_, rfl⟩
                  try rw [← ex_15] at hv
                  have rx_15 : rgI (1) (10) x_15 := by rw [ex_15]; exact rg_w (rg_add r_4 rl_1 (by decide) (by decide)) (by decide) (by decide)
                  have qx_15 : x_15.toInt = (y4_35 : Int32).toInt + 1 := by rw [ex_15]; exact rg_addE r_4 rl_1 (by decide) (by decide)
                  refine lv_iinc (v := x_15) (lv' := [(4, .int x_15), (2, .int x_14), (0, .ref h0), (1, .int a0), (3, .int y3_26)]) hx hb dX12_rests_85 hl (k := 4) rfl (by rw [ex_15]; rfl) (by decide) rfl (fun ls hl => ?_)
                  refine lv_goto (tgt := 35) hx hb dX12_rests_88 (by decide) ?_
                  exact ih_35 H locs G_35 x_14 x_15 ls (rg_w rg104_35 (by decide) (by decide)) frL_35 ry1_35 ry3_35 (rg_w rx_15 (by decide) (by decide)) (rs_s hi0_35 ex_14 qx_15 ry3_35 r_4) (Or.inl (rs_n hi0_35 ex_14 ry3_35 r_4)) (by have h1 := qx_15; have h2 := r_4.1; have h3 := r_4.2; have h4 := hm_35; omega) (lv_sub hl [2, 3, 1, 4, 0] rfl) hv hH hS
                · rw [if_pos c_13] at hv
                  have r_16 : rgI (0) (0) y2_35 := rg_w (rg_eq rl_0 c_13) (by decide) (by decide)
                  have r4_17 : rgI 0 0 (G_35.1 104) := rg_rg (hi1_35.resolve_left (fun w => w c_13)) rl_0
                  refine lv_aload_n hx hb dX12_rests_69 rfl (lv_at hl 0 rfl) ?_
                  refine lv_iload_n hx hb dX12_rests_70 rfl (lv_at hl 3 rfl) ?_
                  refine lv_i2l hx hb dX12_rests_71 rfl ?_
                  refine lv_topl (fun u_18 eu_18 => ?_)
                  obtain ⟨_, ⟨rfl, t_20, hk_21⟩, o_c_19⟩ := hH h0 _ k_h0
                  refine va_callv (va_runV (As := [.long u_18]) (rest := []) ⟨hx, hb, hml, hown, hts⟩ (c_X12_tell l g Ty G_35 H.size h0 u_18 k_h0 (rg_w r4_17 (by decide) (by decide))) (cwV 1 hts (gwV mw_1510 mw_1512 mw_48 mw_88 mw_1513) rfl rfl rfl hv_X12_tell ⟨Nat.le_of_ble_eq_true rfl, Nat.le_of_ble_eq_true rfl⟩) ⟨PcT_blind, hg_recv hK o_c_19 rfl, PcT_pre hK hH⟩ rfl rfl hl.1 rfl (lv_room (Nat.le_of_ble_eq_true rfl)) dX12_rests_72 ⟨Nat.zero_le _, Nat.zero_le _⟩) hS (fun q _ h => AF.mono hS.1 h) (fun q h => AF.mono hS.1 h) (fun ux_22 t H locs ht hvm hx_22 hB hz hk hS => ?_)
                  obtain ⟨eTx_22, eGx_22⟩ := hx_22
                  obtain ⟨G_23, eG_23⟩ : ∃ z, z = ux_22.2 := ⟨_, rfl⟩
                  rw [← eG_23] at eGx_22
                  obtain ⟨x_24, ex_24⟩ : ∃ z : Int32, z = (G_35.1 104) + 1 := ⟨_, rfl⟩
                  have e_25 : G_23 = gset G_35 104 x_24 := by rw [ex_24]; exact eGx_22
                  have rx_24 : rgI (1) (1) x_24 := by rw [ex_24]; exact rg_w (rg_add r4_17 rl_1 (by decide) (by decide)) (by decide) (by decide)
                  have fr_26 : FR [104, 105] [] [] G G_23 := FR.n frL_35 e_25 (by decide)
                  have u_27 : G_23.1 102 = (G.1 102) := by rw [e_25]; exact (gs_ne (by decide)).trans (frL_35.1 102 (by decide))
                  have u_28 : G_23.1 113 = (G.1 113) := by rw [e_25]; exact (gs_ne (by decide)).trans (frL_35.1 113 (by decide))
                  have u_29 : G_23.1 122 = (G.1 122) := by rw [e_25]; exact (gs_ne (by decide)).trans (frL_35.1 122 (by decide))
                  have u_30 : G_23.1 133 = (G.1 133) := by rw [e_25]; exact (gs_ne (by decide)).trans (frL_35.1 133 (by decide))
                  have u_31 : G_23.1 137 = (G.1 137) := by rw [e_25]; exact (gs_ne (by decide)).trans (frL_35.1 137 (by decide))
                  have u_32 : G_23.1 104 = x_24 := by rw [e_25]; exact gs_eq
                  have w_33 : G_23.2.1 (g.2.2 100) = (G.2.1 (g.2.2 100)) := by rw [e_25]; exact (frL_35.2.1 (g.2.2 100) trivial)
                  have w_34 : G_23.2.1 (g.2.2 121) = (G.2.1 (g.2.2 121)) := by rw [e_25]; exact (frL_35.2.1 (g.2.2 121) trivial)
                  have w_35 : G_23.2.1 (g.2.2 140) = (G.2.1 (g.2.2 140)) := by rw [e_25]; exact (frL_35.2.1 (g.2.2 140) trivial)
                  have w_36 : G_23.2.1 (g.2.2 141) = (G.2.1 (g.2.2 141)) := by rw [e_25]; exact (frL_35.2.1 (g.2.2 141) trivial)
                  have w_37 : G_23.2.1 (g.2.2 111) = (G.2.1 (g.2.2 111)) := by rw [e_25]; exact (frL_35.2.1 (g.2.2 111) trivial)
                  have u_38 : G_23.2.2 111 = some (g.2.2 111) := by rw [e_25]; exact ((frL_35.2.2 111 (by decide)).trans hI.r111)
                  have u_39 : G_23.2.2 112 = some (g.2.2 112) := by rw [e_25]; exact ((frL_35.2.2 112 (by decide)).trans hI.r112)
                  have hH : HT g Ty G_23 H := by rw [← ht, ← eTx_22, eG_23]; exact hB
                  refine lv_aload_n hx hb dX12_rests_75 rfl (lv_at hl 0 rfl) ?_
                  refine lv_iload hx hb dX12_rests_76 (lv_at hl 4 rfl) ?_
                  refine lv_i2l hx hb dX12_rests_78 rfl ?_
                  refine lv_topl (fun u_40 eu_40 => ?_)
                  obtain ⟨_, ⟨rfl, t_42, hk_43⟩, o_c_41⟩ := hH h0 _ k_h0
                  refine va_callv (va_runV (As := [.long u_40]) (rest := []) ⟨hx, hb, hml, hown, hts⟩ (c_X12_tell l g Ty G_23 H.size h0 u_40 k_h0 (by rw [u_32]; exact rg_w rx_24 (by decide) (by decide))) (cwV 1 hts (gwV mw_1510 mw_1512 mw_48 mw_88 mw_1513) rfl rfl rfl hv_X12_tell ⟨Nat.le_of_ble_eq_true rfl, Nat.le_of_ble_eq_true rfl⟩) ⟨PcT_blind, hg_recv hK o_c_41 rfl, PcT_pre hK hH⟩ rfl rfl hl.1 rfl (lv_room (Nat.le_of_ble_eq_true rfl)) dX12_rests_79 ⟨Nat.zero_le _, Nat.zero_le _⟩) hS (fun q _ h => AF.mono hS.1 h) (fun q h => AF.mono hS.1 h) (fun ux_44 t H locs ht hvm hx_44 hB hz hk hS => ?_)
                  obtain ⟨eTx_44, eGx_44⟩ := hx_44
                  obtain ⟨G_45, eG_45⟩ : ∃ z, z = ux_44.2 := ⟨_, rfl⟩
                  rw [← eG_45] at eGx_44
                  obtain ⟨x_46, ex_46⟩ : ∃ z : Int32, z = x_24 + 1 := ⟨_, rfl⟩
                  have e_47 : G_45 = gset G_23 104 x_46 := by rw [ex_46, ← u_32]; exact eGx_44
                  have rx_46 : rgI (2) (2) x_46 := by rw [ex_46]; exact rg_w (rg_add rx_24 rl_1 (by decide) (by decide)) (by decide) (by decide)
                  have fr_48 : FR [104, 105] [] [] G G_45 := FR.n fr_26 e_47 (by decide)
                  have u_49 : G_45.1 102 = (G.1 102) := by rw [e_47]; exact (gs_ne (by decide)).trans u_27
                  have u_50 : G_45.1 113 = (G.1 113) := by rw [e_47]; exact (gs_ne (by decide)).trans u_28
                  have u_51 : G_45.1 122 = (G.1 122) := by rw [e_47]; exact (gs_ne (by decide)).trans u_29
                  have u_52 : G_45.1 133 = (G.1 133) := by rw [e_47]; exact (gs_ne (by decide)).trans u_30
                  have u_53 : G_45.1 137 = (G.1 137) := by rw [e_47]; exact (gs_ne (by decide)).trans u_31
                  have u_54 : G_45.1 104 = x_46 := by rw [e_47]; exact gs_eq
                  have w_55 : G_45.2.1 (g.2.2 100) = (G.2.1 (g.2.2 100)) := by rw [e_47]; exact w_33
                  have w_56 : G_45.2.1 (g.2.2 121) = (G.2.1 (g.2.2 121)) := by rw [e_47]; exact w_34
                  have w_57 : G_45.2.1 (g.2.2 140) = (G.2.1 (g.2.2 140)) := by rw [e_47]; exact w_35
                  have w_58 : G_45.2.1 (g.2.2 141) = (G.2.1 (g.2.2 141)) := by rw [e_47]; exact w_36
                  have w_59 : G_45.2.1 (g.2.2 111) = (G.2.1 (g.2.2 111)) := by rw [e_47]; exact w_37
                  have u_60 : G_45.2.2 111 = some (g.2.2 111) := by rw [e_47]; exact u_38
                  have u_61 : G_45.2.2 112 = some (g.2.2 112) := by rw [e_47]; exact u_39
                  have hH : HT g Ty G_45 H := by rw [← ht, ← eTx_44, eG_45]; exact hB
                  obtain ⟨x_62, ex_62⟩ : ∃ y : Int32, y = y2_35 + 1 := ⟨_, rfl⟩
                  try rw [← ex_62] at hv
                  have rx_62 : rgI (1) (1) x_62 := by rw [ex_62]; exact rg_w (rg_add r_16 rl_1 (by decide) (by decide)) (by decide) (by decide)
                  have qx_62 : x_62.toInt = (y2_35 : Int32).toInt + 1 := by rw [ex_62]; exact rg_addE r_16 rl_1 (by decide) (by decide)
                  refine lv_iinc (v := x_62) (lv' := [(2, .int x_62), (0, .ref h0), (1, .int a0), (3, .int y3_26), (4, .int y4_35)]) hx hb dX12_rests_82 hl (k := 2) rfl (by rw [ex_62]; rfl) (by decide) rfl (fun ls hl => ?_)
                  obtain ⟨x_63, ex_63⟩ : ∃ y : Int32, y = y4_35 + 1 := ⟨_, rfl⟩
                  try rw [← ex_63] at hv
                  have rx_63 : rgI (1) (10) x_63 := by rw [ex_63]; exact rg_w (rg_add r_4 rl_1 (by decide) (by decide)) (by decide) (by decide)
                  have qx_63 : x_63.toInt = (y4_35 : Int32).toInt + 1 := by rw [ex_63]; exact rg_addE r_4 rl_1 (by decide) (by decide)
                  refine lv_iinc (v := x_63) (lv' := [(4, .int x_63), (2, .int x_62), (0, .ref h0), (1, .int a0), (3, .int y3_26)]) hx hb dX12_rests_85 hl (k := 4) rfl (by rw [ex_63]; rfl) (by decide) rfl (fun ls hl => ?_)
                  refine lv_goto (tgt := 35) hx hb dX12_rests_88 (by decide) ?_
                  exact ih_35 H locs G_45 x_62 x_63 ls (by rw [u_54]; exact rg_w rx_46 (by decide) (by decide)) fr_48 ry1_35 ry3_35 (rg_w rx_63 (by decide) (by decide)) (rs_s hi0_35 ex_62 qx_63 ry3_35 r_4) (Or.inl (rs_n hi0_35 ex_62 ry3_35 r_4)) (by have h1 := qx_63; have h2 := r_4.1; have h3 := r_4.2; have h4 := hm_35; omega) (lv_sub hl [2, 3, 1, 4, 0] rfl) hv hH hS
              · rw [if_pos c_11] at hv
                have r_64 : rgI (0) (0) x_10 := rg_w (rg_eq rl_0 c_11) (by decide) (by decide)
                refine lv_goto (tgt := 85) hx hb dX12_rests_62 (by decide) ?_
                obtain ⟨x_65, ex_65⟩ : ∃ y : Int32, y = y4_35 + 1 := ⟨_, rfl⟩
                try rw [← ex_65] at hv
                have rx_65 : rgI (1) (10) x_65 := by rw [ex_65]; exact rg_w (rg_add r_4 rl_1 (by decide) (by decide)) (by decide) (by decide)
                have qx_65 : x_65.toInt = (y4_35 : Int32).toInt + 1 := by rw [ex_65]; exact rg_addE r_4 rl_1 (by decide) (by decide)
                refine lv_iinc (v := x_65) (lv' := [(4, .int x_65), (0, .ref h0), (1, .int a0), (2, .int y2_35), (3, .int y3_26)]) hx hb dX12_rests_85 hl (k := 4) rfl (by rw [ex_65]; rfl) (by decide) rfl (fun ls hl => ?_)
                refine lv_goto (tgt := 35) hx hb dX12_rests_88 (by decide) ?_
                exact ih_35 H locs G_35 y2_35 x_65 ls (rg_w rg104_35 (by decide) (by decide)) frL_35 ry1_35 ry3_35 (rg_w rx_65 (by decide) (by decide)) ⟨hi0_35.1, by have q := qx_65; have q2 := hi0_35.2; omega⟩ hi1_35 (by have h1 := qx_65; have h2 := r_4.1; have h3 := r_4.2; have h4 := hm_35; omega) (lv_sub hl [1, 2, 3, 4, 0] rfl) hv hH hS
      rw [F_X12_rests_x_26] at hv
      refine lv_iload_n hx hb dX12_rests_26 rfl (lv_at hl 3 rfl) ?_
      refine lv_bipush (v := 9) hx hb dX12_rests_27 (by decide) ?_
      refine lv_icmp_gt (tgt := 97) hx hb dX12_rests_29 (by decide) (fun c_66 => ?_) (fun c_66 => ?_)
      · rw [if_pos c_66] at hv
        have r_67 : rgI (10) (10) y3_26 := rg_w (rg_ltR rl_9 ry3_26 c_66) (by decide) (by decide)
        refine lv_iload_n hx hb dX12_rests_97 rfl (lv_at hl 2 rfl) ?_
        exact W.iret hx hb hr (fun t ht hWm => ⟨⟨y2_26, (Ty, G_26), rfl, ⟨rfl, ⟨frL_26, ⟨⟨(by rw [(frL_26.1 102 (by decide))]; exact (rg_w hI.a102 (by decide) (by decide))), (rg_w rg104_26 (by decide) (by decide)), (by rw [(frL_26.1 113 (by decide))]; exact (rg_w hI.a113 (by decide) (by decide))), (by rw [(frL_26.1 122 (by decide))]; exact (rg_w hI.a122 (by decide) (by decide))), (by rw [(frL_26.1 133 (by decide))]; exact (rg_w hI.a133 (by decide) (by decide))), (by rw [(frL_26.1 137 (by decide))]; exact (rg_w hI.a137 (by decide) (by decide))), ((frL_26.2.2 111 (by decide)).trans hI.r111), ((frL_26.2.2 112 (by decide)).trans hI.r112), (by rw [(frL_26.2.1 (g.2.2 100) trivial)]; exact (hI.ti.hi (show Bd ≤ Bd + 1000 by omega))), (hI.un2 (show Bd ≤ Bd + 1000 by omega) (frL_26.2.1 (g.2.2 121) trivial) (frL_26.1 122 (by decide))), (hI.ke2 (show Bd ≤ Bd + 1000 by omega) (frL_26.2.1 (g.2.2 140) trivial) (frL_26.2.1 (g.2.2 141) trivial))⟩, hv.symm⟩⟩⟩, by show HT g Ty G_26 t.heap; rw [ht]; exact hH⟩, hS.F ht⟩) hS.2.2 dX12_rests_98
      · rw [if_neg c_66] at hv
        have r_68 : rgI (0) (9) y3_26 := rg_w (rg_leL ry3_26 rl_9 (nlt_le c_66)) (by decide) (by decide)
        refine lv_iconst (v := 0) hx hb dX12_rests_32 (by decide) ?_
        refine lv_istore (lv' := [(4, .int 0), (0, .ref h0), (1, .int a0), (2, .int y2_26), (3, .int y3_26)]) hx hb dX12_rests_33 hl (by decide) rfl (fun ls hl => ?_)
        exact L_35 12 H locs G_26 y2_26 0 ls (rg_w rg104_26 (by decide) (by decide)) frL_26 ry1_26 r_68 (rg_w rl_0 (by decide) (by decide)) ⟨hi0_26.1, by have q := hi0_26.2; show _ ≤ _ + (0 : Int); omega⟩ hi1_26 (by decide) (lv_sub hl [1, 2, 3, 4, 0] rfl) hv hH hS
  refine lv_aload_n hx hb dX12_rests_0 rfl (lv_at hl 0 rfl) ?_
  refine lv_iconst (v := 0) hx hb dX12_rests_1 (by decide) ?_
  obtain ⟨_, ⟨rfl, t_70, hk_71⟩, o_c_69⟩ := hH h0 _ k_h0
  refine hg_put (ty := .int) hx hb hG igX12 tyX12 tyX12_ok nmX12 hown hK hS o_c_69 (AF.of k_h0) rfl 5 (by decide) (hG _ mw_1289) rfl (by decide +kernel) rfl rfl (Nat.le_of_ble_eq_true rfl) dX12_rests_2 (fun H locs o_c_69 hz oq hS => ?_)
  obtain ⟨G_72, eG_72⟩ : ∃ z : Gh, z = gset G 105 0 := ⟨_, rfl⟩
  have hH : HT g Ty G_72 H := by rw [eG_72]; exact HT.putN 105 0 hH k_h0 ⟨rfl, t_70, hk_71⟩ o_c_69 oq (Or.inr (Or.inr (Or.inr (Or.inr (Or.inr ⟨by decide, t_70⟩)))))
  have fr_73 : FR [104, 105] [] [] G G_72 := FR.n FR.rf eG_72 (by decide)
  have u_74 : G_72.1 102 = (G.1 102) := by rw [eG_72]; exact (gs_ne (by decide))
  have u_75 : G_72.1 104 = (G.1 104) := by rw [eG_72]; exact (gs_ne (by decide))
  have u_76 : G_72.1 113 = (G.1 113) := by rw [eG_72]; exact (gs_ne (by decide))
  have u_77 : G_72.1 122 = (G.1 122) := by rw [eG_72]; exact (gs_ne (by decide))
  have u_78 : G_72.1 133 = (G.1 133) := by rw [eG_72]; exact (gs_ne (by decide))
  have u_79 : G_72.1 137 = (G.1 137) := by rw [eG_72]; exact (gs_ne (by decide))
  have u_80 : G_72.1 105 = 0 := by rw [eG_72]; exact gs_eq
  have w_81 : G_72.2.1 (g.2.2 100) = (G.2.1 (g.2.2 100)) := by rw [eG_72]; exact rfl
  have w_82 : G_72.2.1 (g.2.2 121) = (G.2.1 (g.2.2 121)) := by rw [eG_72]; exact rfl
  have w_83 : G_72.2.1 (g.2.2 140) = (G.2.1 (g.2.2 140)) := by rw [eG_72]; exact rfl
  have w_84 : G_72.2.1 (g.2.2 141) = (G.2.1 (g.2.2 141)) := by rw [eG_72]; exact rfl
  have w_85 : G_72.2.1 (g.2.2 111) = (G.2.1 (g.2.2 111)) := by rw [eG_72]; exact rfl
  have u_86 : G_72.2.2 111 = some (g.2.2 111) := by rw [eG_72]; exact hI.r111
  have u_87 : G_72.2.2 112 = some (g.2.2 112) := by rw [eG_72]; exact hI.r112
  clear oq hz
  refine lv_iload_n hx hb dX12_rests_5 rfl (lv_at hl 1 rfl) ?_
  refine lv_iconst (v := 0) hx hb dX12_rests_6 (by decide) ?_
  refine lv_bipush (v := 20) hx hb dX12_rests_7 (by decide) ?_
  refine vp_callSi (W.runS (As := [.int a0, .int 0, .int 20]) (rest := []) ⟨hx, hb, hml, hown, hts⟩ (c_X12_in l g Ty G_72 a0 0 20 ) (cwSx 3 hts hG (gwC mw_1426) mw_88 mw_1424 mw_1425 rfl rfl rfl hd_X12_in ⟨Nat.le_of_ble_eq_true rfl, Nat.le_of_ble_eq_true rfl⟩) ⟨PcH_blind, PcH_pre hK hH⟩ rfl rfl hl.1 rfl (lv_room (Nat.le_of_ble_eq_true rfl)) dX12_rests_9 ⟨Nat.zero_le _, Nat.zero_le _⟩) (fun x_88 hx_88 => ?_)
  have rx_88 : rgI (0) (1) x_88 := hx_88.1
  try rw [← hx_88.2.2] at hv
  try rw [← hx_88.2.2] at hv
  refine lv_if_ne (tgt := 17) hx hb dX12_rests_12 (by decide) (fun c_89 => ?_) (fun c_89 => ?_)
  · rw [if_neg c_89] at hv
    have r_90 : rgI (1) (1) x_88 := rg_w (rg_neL rx_88 rl_0 c_89) (by decide) (by decide)
    have r_91 : rgI (0) (20) a0 := rg_w (in_rng hx_88.2.1 c_89 rl_0 rl_20) (by decide) (by decide)
    refine lv_iconst (v := 0) hx hb dX12_rests_17 (by decide) ?_
    refine lv_istore_n (lv' := [(2, .int 0), (0, .ref h0), (1, .int a0)]) hx hb dX12_rests_18 rfl hl (by decide) rfl (fun ls hl => ?_)
    refine lv_aload_n hx hb dX12_rests_19 rfl (lv_at hl 1 rfl) ?_
    refine lv_iconst (v := 0) hx hb dX12_rests_20 (by decide) ?_
    obtain ⟨_, ⟨rfl, t_93, hk_94⟩, o_c_92⟩ := hH h0 _ k_h0
    refine hg_put (ty := .int) hx hb hG igX12 tyX12 tyX12_ok nmX12 hown hK hS o_c_92 (AF.of k_h0) rfl 4 (by decide) (hG _ mw_1288) rfl (by decide +kernel) rfl rfl (Nat.le_of_ble_eq_true rfl) dX12_rests_21 (fun H locs o_c_92 hz oq hS => ?_)
    obtain ⟨G_95, eG_95⟩ : ∃ z : Gh, z = gset G_72 104 0 := ⟨_, rfl⟩
    have hH : HT g Ty G_95 H := by rw [eG_95]; exact HT.putN 104 0 hH k_h0 ⟨rfl, t_93, hk_94⟩ o_c_92 oq (Or.inr (Or.inr (Or.inr (Or.inr (Or.inr ⟨by decide, t_93⟩)))))
    have fr_96 : FR [104, 105] [] [] G G_95 := FR.n fr_73 eG_95 (by decide)
    have u_97 : G_95.1 102 = (G.1 102) := by rw [eG_95]; exact (gs_ne (by decide)).trans u_74
    have u_98 : G_95.1 113 = (G.1 113) := by rw [eG_95]; exact (gs_ne (by decide)).trans u_76
    have u_99 : G_95.1 122 = (G.1 122) := by rw [eG_95]; exact (gs_ne (by decide)).trans u_77
    have u_100 : G_95.1 133 = (G.1 133) := by rw [eG_95]; exact (gs_ne (by decide)).trans u_78
    have u_101 : G_95.1 137 = (G.1 137) := by rw [eG_95]; exact (gs_ne (by decide)).trans u_79
    have u_102 : G_95.1 105 = 0 := by rw [eG_95]; exact (gs_ne (by decide)).trans u_80
    have u_103 : G_95.1 104 = 0 := by rw [eG_95]; exact gs_eq
    have w_104 : G_95.2.1 (g.2.2 100) = (G.2.1 (g.2.2 100)) := by rw [eG_95]; exact w_81
    have w_105 : G_95.2.1 (g.2.2 121) = (G.2.1 (g.2.2 121)) := by rw [eG_95]; exact w_82
    have w_106 : G_95.2.1 (g.2.2 140) = (G.2.1 (g.2.2 140)) := by rw [eG_95]; exact w_83
    have w_107 : G_95.2.1 (g.2.2 141) = (G.2.1 (g.2.2 141)) := by rw [eG_95]; exact w_84
    have w_108 : G_95.2.1 (g.2.2 111) = (G.2.1 (g.2.2 111)) := by rw [eG_95]; exact w_85
    have u_109 : G_95.2.2 111 = some (g.2.2 111) := by rw [eG_95]; exact u_86
    have u_110 : G_95.2.2 112 = some (g.2.2 112) := by rw [eG_95]; exact u_87
    clear oq hz
    refine lv_iconst (v := 0) hx hb dX12_rests_24 (by decide) ?_
    refine lv_istore_n (lv' := [(3, .int 0), (2, .int 0), (0, .ref h0), (1, .int a0)]) hx hb dX12_rests_25 rfl hl (by decide) rfl (fun ls hl => ?_)
    exact L_26 12 H locs G_95 0 0 ls (by rw [u_103]; exact rg_w rl_0 (by decide) (by decide)) fr_96 r_91 (rg_w rl_0 (by decide) (by decide)) ⟨by decide, by decide⟩ (Or.inr u_103) (by decide) (lv_sub hl [2, 3, 1, 0] rfl) hv hH hS
  · rw [if_pos c_89] at hv
    have r_111 : rgI (0) (0) x_88 := rg_w (rg_eq rl_0 c_89) (by decide) (by decide)
    refine lv_iconst (v := (-1)) hx hb dX12_rests_15 (by decide) ?_
    exact W.iret hx hb hr (fun t ht hWm => ⟨⟨(-1), (Ty, G_72), rfl, ⟨rfl, ⟨fr_73, ⟨⟨(by rw [u_74]; exact (rg_w hI.a102 (by decide) (by decide))), (by rw [u_75]; exact (rg_w hI.a104 (by decide) (by decide))), (by rw [u_76]; exact (rg_w hI.a113 (by decide) (by decide))), (by rw [u_77]; exact (rg_w hI.a122 (by decide) (by decide))), (by rw [u_78]; exact (rg_w hI.a133 (by decide) (by decide))), (by rw [u_79]; exact (rg_w hI.a137 (by decide) (by decide))), u_86, u_87, (by rw [w_81]; exact (hI.ti.hi (show Bd ≤ Bd + 1000 by omega))), (hI.un2 (show Bd ≤ Bd + 1000 by omega) w_82 u_77), (hI.ke2 (show Bd ≤ Bd + 1000 by omega) w_83 w_84)⟩, hv.symm⟩⟩⟩, by show HT g Ty G_72 t.heap; rw [ht]; exact hH⟩, hS.F ht⟩) hS.2.2 dX12_rests_16

def F_X12_odds_x (r0 : Nat → Int32) (a0 : Int32) (a1 : Int32) (a2 : Int32) : Int32 := (if (F_X12_isThere r0 a0) = (0 : Int32) then (-1 : Int32) else (if (F_X12_in a1 (0 : Int32) (16 : Int32)) = (0 : Int32) then (-1 : Int32) else (if (F_X12_in a2 (0 : Int32) (10 : Int32)) = (0 : Int32) then (-1 : Int32) else (if ((F_J6_bitCount_0f7a4 (F_X12_spreadOf r0 a0)) - (1 : Int32)) ≤ (16 : Int32) then (0 : Int32) else (-1 : Int32)))))
set_option maxHeartbeats 4000000 in
set_option maxRecDepth 100000 in
theorem c_X12_odds_x (l : Launch) (g : Gx) (Ty : TyM) (G : Gh) (sz : Nat) (h0 : Nat) (a0 : Int32) (a1 : Int32) (a2 : Int32) (k_h0 : Ty h0 = some (22, 0)) (Bd : Int) (hI : OI g Bd G) (hBd : Bd ≤ 1900000) (hLD : LD g) : Met l yX12_odds (wsG yX12_odds cX12_odds 11 (some .int)) ({ frames := 141, cells := 0, slots := 0, locals := 3243 }) (PcT g Ty G sz [.ref h0, .int a0, .int a1, .int a2]) (QwI g Ty sz (fun r u => u.1 = Ty ∧ FR [104, 105] [] [] G u.2 ∧ OI g (Bd + 1000) u.2 ∧ F_X12_odds_x (G.2.1 (g.2.2 100)) a0 a1 a2 = r)) 0 0 (AF Ty sz) := by
  refine Met.ofW (cc := cX12_odds) (maxL := 11) (ret := (some .int)) (by decide) rfl ?_
  intro p e s m args below meth c s₁ B hml hv
  obtain ⟨rfl, hsz, hK, hH⟩ := hv
  subst hsz
  have hx := B.exec
  have hb := B.bytes
  have hr := B.returns
  have hts := atoms_spec (ws := (wsG yX12_odds cX12_odds 11 (some .int))) B.pre
  have hG : ∀ w ∈ GW, w.before ([.ref h0, .int a0, .int a1, .int a2] : List Value).toArray s = true := fun w h => hts w (List.mem_cons_of_mem _ h)
  have hown : s.vm.findClass RX12 = some m.cls := findClass_of_methodNamed B.named
  have hlocks := B.notSynchronized
  have hl := lv_entry [.ref h0, .int a0, .int a1, .int a2] (n := 11) (Nat.le_of_ble_eq_true rfl)
  rw [lg_entry_eq]
  generalize (lg_sl [.ref h0, .int a0, .int a1, .int a2] ++ List.replicate (11 - (lg_sl [.ref h0, .int a0, .int a1, .int a2]).length) Slot.unset).toArray = ls at hl ⊢
  have hl : lv_has ls 11 [(0, .ref h0), (1, .int a0), (2, .int a1), (3, .int a2)] := hl
  have hmk : mdK g Ty := mdk_of hH k_h0
  have hv : (if (F_X12_isThere (G.2.1 (g.2.2 100)) a0) = (0 : Int32) then (-1 : Int32) else (if (F_X12_in a1 (0 : Int32) (16 : Int32)) = (0 : Int32) then (-1 : Int32) else (if (F_X12_in a2 (0 : Int32) (10 : Int32)) = (0 : Int32) then (-1 : Int32) else (if ((F_J6_bitCount_0f7a4 (F_X12_spreadOf (G.2.1 (g.2.2 100)) a0)) - (1 : Int32)) ≤ (16 : Int32) then (0 : Int32) else (-1 : Int32))))) = F_X12_odds_x (G.2.1 (g.2.2 100)) a0 a1 a2 := rfl
  have hS : va_S (AF Ty s.heap.size) s.heap s.heap [] := va_S.rf
  obtain ⟨⟨σ0, hTS0⟩, h10, hBB0⟩ := id hI.ti
  obtain ⟨ρ, hT⟩ := hTS0.1
  have L_185 : ∀ (n_185 : Nat) (H : Heap) (locs : List Loc) (G_185 : Gh) (y5_185 : Int64) (y7_185 : Int64) (y9_185 : Int32) (ls : Array Slot), rgI (0) (32) (G_185.1 104) → FR [104, 105] [] [] G G_185 → rgI (0) (17) y9_185 → ¬ y5_185 = 0 → (17 - (y9_185).toInt).toNat < n_185 → lv_has ls 11 [(0, .ref h0), (5, .long y5_185), (7, .long y7_185), (9, .int y9_185)] → (0 : Int32) = F_X12_odds_x (G.2.1 (g.2.2 100)) a0 a1 a2 → HT g Ty G_185 H → va_S (AF Ty s.heap.size) s.heap H locs → Wm p l e (wsG yX12_odds cX12_odds 11 (some .int)) ({ frames := 141, cells := 0, slots := 0, locals := 3243 }) s m [.ref h0, .int a0, .int a1, .int a2] below meth c H locs (0) (0) (QwI g Ty s.heap.size (fun r u => u.1 = Ty ∧ FR [104, 105] [] [] G u.2 ∧ OI g (Bd + 1000) u.2 ∧ F_X12_odds_x (G.2.1 (g.2.2 100)) a0 a1 a2 = r)) 0 0 (AF Ty s.heap.size) (F0 m 185 ls []) := by
    intro n_185
    induction n_185 with
    | zero => intro H locs G_185 y5_185 y7_185 y9_185 ls rg104_185 frL_185 ry9_185 hi0_185 hm; exact absurd hm (Nat.not_lt_zero _)
    | succ n_185 ih_185 =>
      intro H locs G_185 y5_185 y7_185 y9_185 ls rg104_185 frL_185 ry9_185 hi0_185 hm_185 hl hv hH hS
      refine lv_iload hx hb dX12_odds_185 (lv_at hl 3 rfl) ?_
      refine lv_bipush (v := 16) hx hb dX12_odds_187 (by decide) ?_
      refine lv_icmp_gt (tgt := 210) hx hb dX12_odds_189 (by decide) (fun c_1 => ?_) (fun c_1 => ?_)
      · have r_2 : rgI (17) (17) y9_185 := rg_w (rg_ltR rl_16 ry9_185 c_1) (by decide) (by decide)
        refine lv_lload hx hb dX12_odds_210 (lv_at hl 2 rfl) ?_
        refine lv_lload hx hb dX12_odds_212 (lv_at hl 1 rfl) ?_
        refine vp_callSl (W.runS (As := [.long y7_185, .long y5_185]) (rest := []) ⟨hx, hb, hml, hown, hts⟩ (c_X12_common l g 140 Ty G_185 y7_185 y5_185 PB_0 (by decide)) (cwSx 2 hts hG (gwC mw_1828) mw_88 mw_1826 mw_1827 rfl rfl rfl hd_X12_common ⟨Nat.le_of_ble_eq_true rfl, Nat.le_of_ble_eq_true rfl⟩) ⟨PcH_blind, PcH_pre hK hH⟩ rfl rfl hl.1 rfl (lv_room (Nat.le_of_ble_eq_true rfl)) dX12_odds_214 ⟨Nat.zero_le _, Nat.zero_le _⟩) (fun x_3 hx_3 => ?_)
        refine lv_lstore (lv' := [(9, .long x_3), (0, .ref h0), (5, .long y5_185), (7, .long y7_185)]) hx hb dX12_odds_217 hl (by decide) rfl (fun ls hl => ?_)
        refine lv_aload_n hx hb dX12_odds_219 rfl (lv_at hl 1 rfl) ?_
        refine lv_iconst (v := 0) hx hb dX12_odds_220 (by decide) ?_
        obtain ⟨_, ⟨rfl, t_5, hk_6⟩, o_c_4⟩ := hH h0 _ k_h0
        refine hg_put (ty := .int) hx hb hG igX12 tyX12 tyX12_ok nmX12 hown hK hS o_c_4 (AF.of k_h0) rfl 4 (by decide) (hG _ mw_1288) rfl (by decide +kernel) rfl rfl (Nat.le_of_ble_eq_true rfl) dX12_odds_221 (fun H locs o_c_4 hz oq hS => ?_)
        obtain ⟨G_7, eG_7⟩ : ∃ z : Gh, z = gset G_185 104 0 := ⟨_, rfl⟩
        have hH : HT g Ty G_7 H := by rw [eG_7]; exact HT.putN 104 0 hH k_h0 ⟨rfl, t_5, hk_6⟩ o_c_4 oq (Or.inr (Or.inr (Or.inr (Or.inr (Or.inr ⟨by decide, t_5⟩)))))
        have fr_8 : FR [104, 105] [] [] G G_7 := FR.n frL_185 eG_7 (by decide)
        have u_9 : G_7.1 102 = (G.1 102) := by rw [eG_7]; exact (gs_ne (by decide)).trans (frL_185.1 102 (by decide))
        have u_10 : G_7.1 113 = (G.1 113) := by rw [eG_7]; exact (gs_ne (by decide)).trans (frL_185.1 113 (by decide))
        have u_11 : G_7.1 122 = (G.1 122) := by rw [eG_7]; exact (gs_ne (by decide)).trans (frL_185.1 122 (by decide))
        have u_12 : G_7.1 133 = (G.1 133) := by rw [eG_7]; exact (gs_ne (by decide)).trans (frL_185.1 133 (by decide))
        have u_13 : G_7.1 137 = (G.1 137) := by rw [eG_7]; exact (gs_ne (by decide)).trans (frL_185.1 137 (by decide))
        have u_14 : G_7.1 104 = 0 := by rw [eG_7]; exact gs_eq
        have w_15 : G_7.2.1 (g.2.2 100) = (G.2.1 (g.2.2 100)) := by rw [eG_7]; exact (frL_185.2.1 (g.2.2 100) trivial)
        have w_16 : G_7.2.1 (g.2.2 121) = (G.2.1 (g.2.2 121)) := by rw [eG_7]; exact (frL_185.2.1 (g.2.2 121) trivial)
        have w_17 : G_7.2.1 (g.2.2 140) = (G.2.1 (g.2.2 140)) := by rw [eG_7]; exact (frL_185.2.1 (g.2.2 140) trivial)
        have w_18 : G_7.2.1 (g.2.2 141) = (G.2.1 (g.2.2 141)) := by rw [eG_7]; exact (frL_185.2.1 (g.2.2 141) trivial)
        have w_19 : G_7.2.1 (g.2.2 111) = (G.2.1 (g.2.2 111)) := by rw [eG_7]; exact (frL_185.2.1 (g.2.2 111) trivial)
        have u_20 : G_7.2.2 111 = some (g.2.2 111) := by rw [eG_7]; exact ((frL_185.2.2 111 (by decide)).trans hI.r111)
        have u_21 : G_7.2.2 112 = some (g.2.2 112) := by rw [eG_7]; exact ((frL_185.2.2 112 (by decide)).trans hI.r112)
        clear oq hz
        refine lv_aload_n hx hb dX12_odds_224 rfl (lv_at hl 1 rfl) ?_
        refine lv_lload hx hb dX12_odds_225 (lv_at hl 3 rfl) ?_
        refine lv_lload hx hb dX12_odds_227 (lv_at hl 0 rfl) ?_
        refine lv_ldiv hx hb dX12_odds_229 (hx_3 (Or.inr hi0_185)) ?_
        refine lv_topl (fun u_22 eu_22 => ?_)
        obtain ⟨_, ⟨rfl, t_24, hk_25⟩, o_c_23⟩ := hH h0 _ k_h0
        refine va_callv (va_runV (As := [.long u_22]) (rest := []) ⟨hx, hb, hml, hown, hts⟩ (c_X12_tell l g Ty G_7 H.size h0 u_22 k_h0 (by rw [u_14]; exact rg_w rl_0 (by decide) (by decide))) (cwV 1 hts (gwV mw_1510 mw_1512 mw_48 mw_88 mw_1513) rfl rfl rfl hv_X12_tell ⟨Nat.le_of_ble_eq_true rfl, Nat.le_of_ble_eq_true rfl⟩) ⟨PcT_blind, hg_recv hK o_c_23 rfl, PcT_pre hK hH⟩ rfl rfl hl.1 rfl (lv_room (Nat.le_of_ble_eq_true rfl)) dX12_odds_230 ⟨Nat.zero_le _, Nat.zero_le _⟩) hS (fun q _ h => AF.mono hS.1 h) (fun q h => AF.mono hS.1 h) (fun ux_26 t H locs ht hvm hx_26 hB hz hk hS => ?_)
        obtain ⟨eTx_26, eGx_26⟩ := hx_26
        obtain ⟨G_27, eG_27⟩ : ∃ z, z = ux_26.2 := ⟨_, rfl⟩
        rw [← eG_27] at eGx_26
        obtain ⟨x_28, ex_28⟩ : ∃ z : Int32, z = 0 + 1 := ⟨_, rfl⟩
        have e_29 : G_27 = gset G_7 104 x_28 := by rw [ex_28, ← u_14]; exact eGx_26
        have rx_28 : rgI (1) (1) x_28 := by rw [ex_28]; exact rg_w (rg_add rl_0 rl_1 (by decide) (by decide)) (by decide) (by decide)
        have fr_30 : FR [104, 105] [] [] G G_27 := FR.n fr_8 e_29 (by decide)
        have u_31 : G_27.1 102 = (G.1 102) := by rw [e_29]; exact (gs_ne (by decide)).trans u_9
        have u_32 : G_27.1 113 = (G.1 113) := by rw [e_29]; exact (gs_ne (by decide)).trans u_10
        have u_33 : G_27.1 122 = (G.1 122) := by rw [e_29]; exact (gs_ne (by decide)).trans u_11
        have u_34 : G_27.1 133 = (G.1 133) := by rw [e_29]; exact (gs_ne (by decide)).trans u_12
        have u_35 : G_27.1 137 = (G.1 137) := by rw [e_29]; exact (gs_ne (by decide)).trans u_13
        have u_36 : G_27.1 104 = x_28 := by rw [e_29]; exact gs_eq
        have w_37 : G_27.2.1 (g.2.2 100) = (G.2.1 (g.2.2 100)) := by rw [e_29]; exact w_15
        have w_38 : G_27.2.1 (g.2.2 121) = (G.2.1 (g.2.2 121)) := by rw [e_29]; exact w_16
        have w_39 : G_27.2.1 (g.2.2 140) = (G.2.1 (g.2.2 140)) := by rw [e_29]; exact w_17
        have w_40 : G_27.2.1 (g.2.2 141) = (G.2.1 (g.2.2 141)) := by rw [e_29]; exact w_18
        have w_41 : G_27.2.1 (g.2.2 111) = (G.2.1 (g.2.2 111)) := by rw [e_29]; exact w_19
        have u_42 : G_27.2.2 111 = some (g.2.2 111) := by rw [e_29]; exact u_20
        have u_43 : G_27.2.2 112 = some (g.2.2 112) := by rw [e_29]; exact u_21
        have hH : HT g Ty G_27 H := by rw [← ht, ← eTx_26, eG_27]; exact hB
        refine lv_aload_n hx hb dX12_odds_233 rfl (lv_at hl 1 rfl) ?_
        refine lv_lload hx hb dX12_odds_234 (lv_at hl 2 rfl) ?_
        refine lv_lload hx hb dX12_odds_236 (lv_at hl 0 rfl) ?_
        refine lv_ldiv hx hb dX12_odds_238 (hx_3 (Or.inr hi0_185)) ?_
        refine lv_topl (fun u_44 eu_44 => ?_)
        obtain ⟨_, ⟨rfl, t_46, hk_47⟩, o_c_45⟩ := hH h0 _ k_h0
        refine va_callv (va_runV (As := [.long u_44]) (rest := []) ⟨hx, hb, hml, hown, hts⟩ (c_X12_tell l g Ty G_27 H.size h0 u_44 k_h0 (by rw [u_36]; exact rg_w rx_28 (by decide) (by decide))) (cwV 1 hts (gwV mw_1510 mw_1512 mw_48 mw_88 mw_1513) rfl rfl rfl hv_X12_tell ⟨Nat.le_of_ble_eq_true rfl, Nat.le_of_ble_eq_true rfl⟩) ⟨PcT_blind, hg_recv hK o_c_45 rfl, PcT_pre hK hH⟩ rfl rfl hl.1 rfl (lv_room (Nat.le_of_ble_eq_true rfl)) dX12_odds_239 ⟨Nat.zero_le _, Nat.zero_le _⟩) hS (fun q _ h => AF.mono hS.1 h) (fun q h => AF.mono hS.1 h) (fun ux_48 t H locs ht hvm hx_48 hB hz hk hS => ?_)
        obtain ⟨eTx_48, eGx_48⟩ := hx_48
        obtain ⟨G_49, eG_49⟩ : ∃ z, z = ux_48.2 := ⟨_, rfl⟩
        rw [← eG_49] at eGx_48
        obtain ⟨x_50, ex_50⟩ : ∃ z : Int32, z = x_28 + 1 := ⟨_, rfl⟩
        have e_51 : G_49 = gset G_27 104 x_50 := by rw [ex_50, ← u_36]; exact eGx_48
        have rx_50 : rgI (2) (2) x_50 := by rw [ex_50]; exact rg_w (rg_add rx_28 rl_1 (by decide) (by decide)) (by decide) (by decide)
        have fr_52 : FR [104, 105] [] [] G G_49 := FR.n fr_30 e_51 (by decide)
        have u_53 : G_49.1 102 = (G.1 102) := by rw [e_51]; exact (gs_ne (by decide)).trans u_31
        have u_54 : G_49.1 113 = (G.1 113) := by rw [e_51]; exact (gs_ne (by decide)).trans u_32
        have u_55 : G_49.1 122 = (G.1 122) := by rw [e_51]; exact (gs_ne (by decide)).trans u_33
        have u_56 : G_49.1 133 = (G.1 133) := by rw [e_51]; exact (gs_ne (by decide)).trans u_34
        have u_57 : G_49.1 137 = (G.1 137) := by rw [e_51]; exact (gs_ne (by decide)).trans u_35
        have u_58 : G_49.1 104 = x_50 := by rw [e_51]; exact gs_eq
        have w_59 : G_49.2.1 (g.2.2 100) = (G.2.1 (g.2.2 100)) := by rw [e_51]; exact w_37
        have w_60 : G_49.2.1 (g.2.2 121) = (G.2.1 (g.2.2 121)) := by rw [e_51]; exact w_38
        have w_61 : G_49.2.1 (g.2.2 140) = (G.2.1 (g.2.2 140)) := by rw [e_51]; exact w_39
        have w_62 : G_49.2.1 (g.2.2 141) = (G.2.1 (g.2.2 141)) := by rw [e_51]; exact w_40
        have w_63 : G_49.2.1 (g.2.2 111) = (G.2.1 (g.2.2 111)) := by rw [e_51]; exact w_41
        have u_64 : G_49.2.2 111 = some (g.2.2 111) := by rw [e_51]; exact u_42
        have u_65 : G_49.2.2 112 = some (g.2.2 112) := by rw [e_51]; exact u_43
        have hH : HT g Ty G_49 H := by rw [← ht, ← eTx_48, eG_49]; exact hB
        refine lv_iconst (v := 0) hx hb dX12_odds_242 (by decide) ?_
        exact W.iret hx hb hr (fun t ht hWm => ⟨⟨0, (Ty, G_49), rfl, ⟨rfl, ⟨fr_52, ⟨⟨(by rw [u_53]; exact (rg_w hI.a102 (by decide) (by decide))), (by rw [u_58]; exact (rg_w rx_50 (by decide) (by decide))), (by rw [u_54]; exact (rg_w hI.a113 (by decide) (by decide))), (by rw [u_55]; exact (rg_w hI.a122 (by decide) (by decide))), (by rw [u_56]; exact (rg_w hI.a133 (by decide) (by decide))), (by rw [u_57]; exact (rg_w hI.a137 (by decide) (by decide))), u_64, u_65, (by rw [w_59]; exact (hI.ti.hi (show Bd ≤ Bd + 1000 by omega))), (hI.un2 (show Bd ≤ Bd + 1000 by omega) w_60 u_55), (hI.ke2 (show Bd ≤ Bd + 1000 by omega) w_61 w_62)⟩, hv.symm⟩⟩⟩, by show HT g Ty G_49 t.heap; rw [ht]; exact hH⟩, hS.F ht⟩) hS.2.2 dX12_odds_243
      · have r_66 : rgI (0) (16) y9_185 := rg_w (rg_leL ry9_185 rl_16 (nlt_le c_1)) (by decide) (by decide)
        refine lv_lload hx hb dX12_odds_192 (lv_at hl 2 rfl) ?_
        refine lv_aload_n hx hb dX12_odds_194 rfl (lv_at hl 0 rfl) ?_
        obtain ⟨_, ⟨rfl, t_68, hk_69⟩, o_c_67⟩ := hH h0 _ k_h0
        refine hg_get hx hb hG igX12 hown hK o_c_67 rfl 38 (by decide) (hG _ mw_1322) rfl dX12_odds_195 ?_
        refine lv_iload hx hb dX12_odds_198 (lv_at hl 3 rfl) ?_
        obtain ⟨_, ⟨f_71, rfl⟩, o_c_70⟩ := hH (g.2.2 138) _ hk_69.2.2.2.2.2.2.2.2.2.2.2.2.2.2.2.2.2.1
        refine hg_lald hx hb hK o_c_70 (rg_in (n := 17) r_66 (by decide) (by decide)) dX12_odds_200 ?_
        refine lv_topl (fun u_72 eu_72 => ?_)
        refine lv_ladd hx hb dX12_odds_201 ?_
        refine lv_topl (fun u_73 eu_73 => ?_)
        refine lv_lstore (lv' := [(7, .long u_73), (0, .ref h0), (5, .long y5_185), (9, .int y9_185)]) hx hb dX12_odds_202 hl (by decide) rfl (fun ls hl => ?_)
        obtain ⟨x_74, ex_74⟩ : ∃ y : Int32, y = y9_185 + 1 := ⟨_, rfl⟩
        try rw [← ex_74] at hv
        have rx_74 : rgI (1) (17) x_74 := by rw [ex_74]; exact rg_w (rg_add r_66 rl_1 (by decide) (by decide)) (by decide) (by decide)
        have qx_74 : x_74.toInt = (y9_185 : Int32).toInt + 1 := by rw [ex_74]; exact rg_addE r_66 rl_1 (by decide) (by decide)
        refine lv_iinc (v := x_74) (lv' := [(9, .int x_74), (7, .long u_73), (0, .ref h0), (5, .long y5_185)]) hx hb dX12_odds_204 hl (k := 3) rfl (by rw [ex_74]; rfl) (by decide) rfl (fun ls hl => ?_)
        refine lv_goto (tgt := 185) hx hb dX12_odds_207 (by decide) ?_
        exact ih_185 H locs G_185 y5_185 u_73 x_74 ls (rg_w rg104_185 (by decide) (by decide)) frL_185 (rg_w rx_74 (by decide) (by decide)) hi0_185 (by have h1 := qx_74; have h2 := r_66.1; have h3 := r_66.2; have h4 := hm_185; omega) (lv_sub hl [2, 3, 1, 0] rfl) hv hH hS
  have L_101 : ∀ (n_101 : Nat) (H : Heap) (locs : List Loc) (G_101 : Gh) (y4_101 : Int32) (y5_101 : Int64) (y7_101 : Int32) (ls : Array Slot), rgI (0) (32) (G_101.1 104) → FR [104, 105] [] [] G G_101 → rgI (0) (16) a1 → rgI (0) (10) a2 → rgI (-1) (16) y4_101 → rgI (0) (16) y7_101 → (y5_101 : Int64).toInt = 10 ^ (y7_101 : Int32).toNatClampNeg → (16 - (y7_101).toInt).toNat < n_101 → lv_has ls 11 [(0, .ref h0), (2, .int a1), (3, .int a2), (4, .int y4_101), (5, .long y5_101), (7, .int y7_101)] → (0 : Int32) = F_X12_odds_x (G.2.1 (g.2.2 100)) a0 a1 a2 → HT g Ty G_101 H → va_S (AF Ty s.heap.size) s.heap H locs → Wm p l e (wsG yX12_odds cX12_odds 11 (some .int)) ({ frames := 141, cells := 0, slots := 0, locals := 3243 }) s m [.ref h0, .int a0, .int a1, .int a2] below meth c H locs (0) (0) (QwI g Ty s.heap.size (fun r u => u.1 = Ty ∧ FR [104, 105] [] [] G u.2 ∧ OI g (Bd + 1000) u.2 ∧ F_X12_odds_x (G.2.1 (g.2.2 100)) a0 a1 a2 = r)) 0 0 (AF Ty s.heap.size) (F0 m 101 ls []) := by
    intro n_101
    induction n_101 with
    | zero => intro H locs G_101 y4_101 y5_101 y7_101 ls rg104_101 frL_101 ry2_101 ry3_101 ry4_101 ry7_101 hi0_101 hm; exact absurd hm (Nat.not_lt_zero _)
    | succ n_101 ih_101 =>
      intro H locs G_101 y4_101 y5_101 y7_101 ls rg104_101 frL_101 ry2_101 ry3_101 ry4_101 ry7_101 hi0_101 hm_101 hl hv hH hS
      have L_120 : ∀ (n_120 : Nat) (H : Heap) (locs : List Loc) (G_120 : Gh) (y5_120 : Int64) (y8_120 : Int32) (ls : Array Slot), rgI (0) (32) (G_120.1 104) → FR [104, 105] [] [] G G_120 → rgI (0) (16) a1 → rgI (0) (10) a2 → rgI (1) (16) y4_101 → rgI (0) (15) y7_101 → rgI (-1) (16) y8_120 → (y5_120 : Int64).toInt = 10 ^ ((y7_101 : Int32).toNatClampNeg + 1) → ((y8_120).toInt - (-1)).toNat < n_120 → lv_has ls 11 [(0, .ref h0), (2, .int a1), (3, .int a2), (4, .int y4_101), (5, .long y5_120), (7, .int y7_101), (8, .int y8_120)] → (0 : Int32) = F_X12_odds_x (G.2.1 (g.2.2 100)) a0 a1 a2 → HT g Ty G_120 H → va_S (AF Ty s.heap.size) s.heap H locs → Wm p l e (wsG yX12_odds cX12_odds 11 (some .int)) ({ frames := 141, cells := 0, slots := 0, locals := 3243 }) s m [.ref h0, .int a0, .int a1, .int a2] below meth c H locs (0) (0) (QwI g Ty s.heap.size (fun r u => u.1 = Ty ∧ FR [104, 105] [] [] G u.2 ∧ OI g (Bd + 1000) u.2 ∧ F_X12_odds_x (G.2.1 (g.2.2 100)) a0 a1 a2 = r)) 0 0 (AF Ty s.heap.size) (F0 m 120 ls []) := by
        intro n_120
        induction n_120 with
        | zero => intro H locs G_120 y5_120 y8_120 ls rg104_120 frL_120 ry2_120 ry3_120 ry4_120 ry7_120 ry8_120 hi0_120 hm; exact absurd hm (Nat.not_lt_zero _)
        | succ n_120 ih_120 =>
          intro H locs G_120 y5_120 y8_120 ls rg104_120 frL_120 ry2_120 ry3_120 ry4_120 ry7_120 ry8_120 hi0_120 hm_120 hl hv hH hS
          refine lv_iload hx hb dX12_odds_120 (lv_at hl 6 rfl) ?_
          refine lv_if_lt (tgt := 173) hx hb dX12_odds_122 (by decide) (fun c_75 => ?_) (fun c_75 => ?_)
          · have r_76 : rgI (-1) (-1) y8_120 := rg_w (rg_ltL ry8_120 rl_0 c_75) (by decide) (by decide)
            obtain ⟨x_77, ex_77⟩ : ∃ y : Int32, y = y7_101 + 1 := ⟨_, rfl⟩
            try rw [← ex_77] at hv
            have rx_77 : rgI (1) (16) x_77 := by rw [ex_77]; exact rg_w (rg_add ry7_120 rl_1 (by decide) (by decide)) (by decide) (by decide)
            have qx_77 : x_77.toInt = (y7_101 : Int32).toInt + 1 := by rw [ex_77]; exact rg_addE ry7_120 rl_1 (by decide) (by decide)
            refine lv_iinc (v := x_77) (lv' := [(7, .int x_77), (0, .ref h0), (2, .int a1), (3, .int a2), (4, .int y4_101), (5, .long y5_120), (8, .int y8_120)]) hx hb dX12_odds_173 hl (k := 5) rfl (by rw [ex_77]; rfl) (by decide) rfl (fun ls hl => ?_)
            refine lv_goto (tgt := 101) hx hb dX12_odds_176 (by decide) ?_
            exact ih_101 H locs G_120 y4_101 y5_120 x_77 ls (rg_w rg104_120 (by decide) (by decide)) frL_120 ry2_120 ry3_120 (rg_w ry4_120 (by decide) (by decide)) (rg_w rx_77 (by decide) (by decide)) (pw_b hi0_120 ry7_120 qx_77) (by have h1 := qx_77; have h2 := ry7_120.1; have h3 := ry7_120.2; have h4 := hm_101; omega) (lv_sub hl [1, 2, 3, 4, 5, 0] rfl) hv hH hS
          · have r_78 : rgI (0) (16) y8_120 := rg_w (rg_leR rl_0 ry8_120 (nlt_le c_75)) (by decide) (by decide)
            refine lv_aload_n hx hb dX12_odds_125 rfl (lv_at hl 0 rfl) ?_
            obtain ⟨_, ⟨rfl, t_80, hk_81⟩, o_c_79⟩ := hH h0 _ k_h0
            refine hg_get hx hb hG igX12 hown hK o_c_79 rfl 38 (by decide) (hG _ mw_1322) rfl dX12_odds_126 ?_
            refine lv_iload hx hb dX12_odds_129 (lv_at hl 6 rfl) ?_
            refine lv_aload_n hx hb dX12_odds_131 rfl (lv_at hl 0 rfl) ?_
            refine hg_get hx hb hG igX12 hown hK o_c_79 rfl 38 (by decide) (hG _ mw_1322) rfl dX12_odds_132 ?_
            refine lv_iload hx hb dX12_odds_135 (lv_at hl 6 rfl) ?_
            obtain ⟨_, ⟨f_83, rfl⟩, o_c_82⟩ := hH (g.2.2 138) _ hk_81.2.2.2.2.2.2.2.2.2.2.2.2.2.2.2.2.2.1
            refine hg_lald hx hb hK o_c_82 (rg_in (n := 17) r_78 (by decide) (by decide)) dX12_odds_137 ?_
            refine lv_topl (fun u_84 eu_84 => ?_)
            refine lv_bipush (v := 10) hx hb dX12_odds_138 (by decide) ?_
            refine lv_iload_n hx hb dX12_odds_140 rfl (lv_at hl 2 rfl) ?_
            refine lv_isub hx hb dX12_odds_141 ?_
            refine lv_topi (fun x_85 ex_85 => ?_)
            try rw [← ex_85] at hv
            have rx_85 : rgI (0) (10) x_85 := by rw [ex_85]; exact rg_w (rg_sub rl_10 ry3_120 (by decide) (by decide)) (by decide) (by decide)
            refine lv_i2l hx hb dX12_odds_142 rfl ?_
            refine lv_topl (fun u_86 eu_86 => ?_)
            refine lv_lmul hx hb dX12_odds_143 ?_
            refine lv_topl (fun u_87 eu_87 => ?_)
            refine lv_iload hx hb dX12_odds_144 (lv_at hl 6 rfl) ?_
            refine lv_if_le (tgt := 164) hx hb dX12_odds_146 (by decide) (fun c_88 => ?_) (fun c_88 => ?_)
            · have r_89 : rgI (0) (0) y8_120 := rg_w (rg_leL r_78 rl_0 c_88) (by decide) (by decide)
              refine lv_lconst (v := 0) hx hb dX12_odds_164 (by decide) ?_
              refine lv_ladd hx hb dX12_odds_165 ?_
              refine lv_topl (fun u_90 eu_90 => ?_)
              refine hg_last hx hb hK hS o_c_82 (AF.of hk_81.2.2.2.2.2.2.2.2.2.2.2.2.2.2.2.2.2.1) (rg_in (n := 17) r_89 (by decide) (by decide)) dX12_odds_166 (fun H locs o_c_82 hz oq hS => ?_)
              generalize hff_91 : vp_updL f_83 _ u_90 = f_91 at o_c_82
              have hH : HT g Ty G_120 H := hH.put hk_81.2.2.2.2.2.2.2.2.2.2.2.2.2.2.2.2.2.1 ⟨_, rfl⟩ o_c_82 oq
              have o_c_79 := o_c_79.kept (oq _ (ne_kd k_h0 hk_81.2.2.2.2.2.2.2.2.2.2.2.2.2.2.2.2.2.1 (by decide)))
              clear oq hz
              obtain ⟨x_92, ex_92⟩ : ∃ y : Int32, y = y8_120 + (-1) := ⟨_, rfl⟩
              try rw [← ex_92] at hv
              have rx_92 : rgI (-1) (-1) x_92 := by rw [ex_92]; exact rg_w (rg_add r_89 rl_m1 (by decide) (by decide)) (by decide) (by decide)
              have qx_92 : x_92.toInt = (y8_120 : Int32).toInt + (-1) := by rw [ex_92]; exact rg_addE r_89 rl_m1 (by decide) (by decide)
              refine lv_iinc (v := x_92) (lv' := [(8, .int x_92), (0, .ref h0), (2, .int a1), (3, .int a2), (4, .int y4_101), (5, .long y5_120), (7, .int y7_101)]) hx hb dX12_odds_167 hl (k := 6) rfl (by rw [ex_92]; rfl) (by decide) rfl (fun ls hl => ?_)
              refine lv_goto (tgt := 120) hx hb dX12_odds_170 (by decide) ?_
              exact ih_120 H locs G_120 y5_120 x_92 ls (rg_w rg104_120 (by decide) (by decide)) frL_120 ry2_120 ry3_120 ry4_120 ry7_120 (rg_w rx_92 (by decide) (by decide)) hi0_120 (by have h1 := qx_92; have h2 := r_89.1; have h3 := r_89.2; have h4 := hm_120; omega) (lv_sub hl [1, 2, 3, 4, 5, 6, 0] rfl) hv hH hS
            · have r_93 : rgI (1) (16) y8_120 := rg_w (rg_ltR rl_0 r_78 (nle_lt c_88)) (by decide) (by decide)
              refine lv_aload_n hx hb dX12_odds_149 rfl (lv_at hl 0 rfl) ?_
              refine hg_get hx hb hG igX12 hown hK o_c_79 rfl 38 (by decide) (hG _ mw_1322) rfl dX12_odds_150 ?_
              refine lv_iload hx hb dX12_odds_153 (lv_at hl 6 rfl) ?_
              refine lv_iconst (v := 1) hx hb dX12_odds_155 (by decide) ?_
              refine lv_isub hx hb dX12_odds_156 ?_
              refine lv_topi (fun x_94 ex_94 => ?_)
              try rw [← ex_94] at hv
              have rx_94 : rgI (0) (15) x_94 := by rw [ex_94]; exact rg_w (rg_sub r_93 rl_1 (by decide) (by decide)) (by decide) (by decide)
              refine hg_lald hx hb hK o_c_82 (rg_in (n := 17) rx_94 (by decide) (by decide)) dX12_odds_157 ?_
              refine lv_topl (fun u_95 eu_95 => ?_)
              refine lv_iload_n hx hb dX12_odds_158 rfl (lv_at hl 2 rfl) ?_
              refine lv_i2l hx hb dX12_odds_159 rfl ?_
              refine lv_topl (fun u_96 eu_96 => ?_)
              refine lv_lmul hx hb dX12_odds_160 ?_
              refine lv_topl (fun u_97 eu_97 => ?_)
              refine lv_goto (tgt := 165) hx hb dX12_odds_161 (by decide) ?_
              refine lv_ladd hx hb dX12_odds_165 ?_
              refine lv_topl (fun u_98 eu_98 => ?_)
              refine hg_last hx hb hK hS o_c_82 (AF.of hk_81.2.2.2.2.2.2.2.2.2.2.2.2.2.2.2.2.2.1) (rg_in (n := 17) r_93 (by decide) (by decide)) dX12_odds_166 (fun H locs o_c_82 hz oq hS => ?_)
              generalize hff_99 : vp_updL f_83 _ u_98 = f_99 at o_c_82
              have hH : HT g Ty G_120 H := hH.put hk_81.2.2.2.2.2.2.2.2.2.2.2.2.2.2.2.2.2.1 ⟨_, rfl⟩ o_c_82 oq
              have o_c_79 := o_c_79.kept (oq _ (ne_kd k_h0 hk_81.2.2.2.2.2.2.2.2.2.2.2.2.2.2.2.2.2.1 (by decide)))
              clear oq hz
              obtain ⟨x_100, ex_100⟩ : ∃ y : Int32, y = y8_120 + (-1) := ⟨_, rfl⟩
              try rw [← ex_100] at hv
              have rx_100 : rgI (0) (15) x_100 := by rw [ex_100]; exact rg_w (rg_add r_93 rl_m1 (by decide) (by decide)) (by decide) (by decide)
              have qx_100 : x_100.toInt = (y8_120 : Int32).toInt + (-1) := by rw [ex_100]; exact rg_addE r_93 rl_m1 (by decide) (by decide)
              refine lv_iinc (v := x_100) (lv' := [(8, .int x_100), (0, .ref h0), (2, .int a1), (3, .int a2), (4, .int y4_101), (5, .long y5_120), (7, .int y7_101)]) hx hb dX12_odds_167 hl (k := 6) rfl (by rw [ex_100]; rfl) (by decide) rfl (fun ls hl => ?_)
              refine lv_goto (tgt := 120) hx hb dX12_odds_170 (by decide) ?_
              exact ih_120 H locs G_120 y5_120 x_100 ls (rg_w rg104_120 (by decide) (by decide)) frL_120 ry2_120 ry3_120 ry4_120 ry7_120 (rg_w rx_100 (by decide) (by decide)) hi0_120 (by have h1 := qx_100; have h2 := r_93.1; have h3 := r_93.2; have h4 := hm_120; omega) (lv_sub hl [1, 2, 3, 4, 5, 6, 0] rfl) hv hH hS
      refine lv_iload hx hb dX12_odds_101 (lv_at hl 5 rfl) ?_
      refine lv_iload hx hb dX12_odds_103 (lv_at hl 3 rfl) ?_
      refine lv_icmp_ge (tgt := 179) hx hb dX12_odds_105 (by decide) (fun c_101 => ?_) (fun c_101 => ?_)
      · refine lv_lconst (v := 0) hx hb dX12_odds_179 (by decide) ?_
        refine lv_lstore (lv' := [(7, .long 0), (0, .ref h0), (2, .int a1), (3, .int a2), (4, .int y4_101), (5, .long y5_101)]) hx hb dX12_odds_180 hl (by decide) rfl (fun ls hl => ?_)
        refine lv_iload_n hx hb dX12_odds_182 rfl (lv_at hl 2 rfl) ?_
        refine lv_istore (lv' := [(9, .int a1), (7, .long 0), (0, .ref h0), (2, .int a1), (3, .int a2), (4, .int y4_101), (5, .long y5_101)]) hx hb dX12_odds_183 hl (by decide) rfl (fun ls hl => ?_)
        exact L_185 19 H locs G_101 y5_101 0 a1 ls (rg_w rg104_101 (by decide) (by decide)) frL_101 (rg_w ry2_101 (by decide) (by decide)) (pw_n hi0_101) (by have q1 := (ry2_101).1; have q2 := (ry2_101).2; omega) (lv_sub hl [2, 6, 1, 0] rfl) hv hH hS
      · have r_102 : rgI (0) (15) y7_101 := rg_w (rg_ltL ry7_101 ry4_101 (nle_lt c_101)) (by decide) (by decide)
        have r_103 : rgI (1) (16) y4_101 := rg_w (rg_ltR ry7_101 ry4_101 (nle_lt c_101)) (by decide) (by decide)
        refine lv_lload hx hb dX12_odds_108 (lv_at hl 4 rfl) ?_
        refine lv_ldc2 (v := 10) hx hb hown (hG _ mw_1825) dX12_odds_110 ?_
        refine lv_lmul hx hb dX12_odds_113 ?_
        refine lv_topl (fun u_104 eu_104 => ?_)
        refine lv_lstore (lv' := [(5, .long u_104), (0, .ref h0), (2, .int a1), (3, .int a2), (4, .int y4_101), (7, .int y7_101)]) hx hb dX12_odds_114 hl (by decide) rfl (fun ls hl => ?_)
        refine lv_bipush (v := 16) hx hb dX12_odds_116 (by decide) ?_
        refine lv_istore (lv' := [(8, .int 16), (5, .long u_104), (0, .ref h0), (2, .int a1), (3, .int a2), (4, .int y4_101), (7, .int y7_101)]) hx hb dX12_odds_118 hl (by decide) rfl (fun ls hl => ?_)
        exact L_120 99 H locs G_101 u_104 16 ls (rg_w rg104_101 (by decide) (by decide)) frL_101 ry2_101 ry3_101 r_103 r_102 (rg_w rl_16 (by decide) (by decide)) (pw_a hi0_101 r_102 eu_104) (by decide) (lv_sub hl [2, 3, 4, 5, 1, 6, 0] rfl) hv hH hS
  have L_65 : ∀ (n_65 : Nat) (H : Heap) (locs : List Loc) (G_65 : Gh) (y4_65 : Int32) (y5_65 : Int32) (ls : Array Slot), rgI (0) (32) (G_65.1 104) → FR [104, 105] [] [] G G_65 → rgI (0) (16) a1 → rgI (0) (10) a2 → rgI (-1) (16) y4_65 → rgI (0) (17) y5_65 → (17 - (y5_65).toInt).toNat < n_65 → lv_has ls 11 [(0, .ref h0), (2, .int a1), (3, .int a2), (4, .int y4_65), (5, .int y5_65)] → (0 : Int32) = F_X12_odds_x (G.2.1 (g.2.2 100)) a0 a1 a2 → HT g Ty G_65 H → va_S (AF Ty s.heap.size) s.heap H locs → Wm p l e (wsG yX12_odds cX12_odds 11 (some .int)) ({ frames := 141, cells := 0, slots := 0, locals := 3243 }) s m [.ref h0, .int a0, .int a1, .int a2] below meth c H locs (0) (0) (QwI g Ty s.heap.size (fun r u => u.1 = Ty ∧ FR [104, 105] [] [] G u.2 ∧ OI g (Bd + 1000) u.2 ∧ F_X12_odds_x (G.2.1 (g.2.2 100)) a0 a1 a2 = r)) 0 0 (AF Ty s.heap.size) (F0 m 65 ls []) := by
    intro n_65
    induction n_65 with
    | zero => intro H locs G_65 y4_65 y5_65 ls rg104_65 frL_65 ry2_65 ry3_65 ry4_65 ry5_65 hm; exact absurd hm (Nat.not_lt_zero _)
    | succ n_65 ih_65 =>
      intro H locs G_65 y4_65 y5_65 ls rg104_65 frL_65 ry2_65 ry3_65 ry4_65 ry5_65 hm_65 hl hv hH hS
      refine lv_iload hx hb dX12_odds_65 (lv_at hl 4 rfl) ?_
      refine lv_bipush (v := 16) hx hb dX12_odds_67 (by decide) ?_
      refine lv_icmp_gt (tgt := 95) hx hb dX12_odds_69 (by decide) (fun c_105 => ?_) (fun c_105 => ?_)
      · have r_106 : rgI (17) (17) y5_65 := rg_w (rg_ltR rl_16 ry5_65 c_105) (by decide) (by decide)
        refine lv_lconst (v := 1) hx hb dX12_odds_95 (by decide) ?_
        refine lv_lstore (lv' := [(5, .long 1), (0, .ref h0), (2, .int a1), (3, .int a2), (4, .int y4_65)]) hx hb dX12_odds_96 hl (by decide) rfl (fun ls hl => ?_)
        refine lv_iconst (v := 0) hx hb dX12_odds_98 (by decide) ?_
        refine lv_istore (lv' := [(7, .int 0), (5, .long 1), (0, .ref h0), (2, .int a1), (3, .int a2), (4, .int y4_65)]) hx hb dX12_odds_99 hl (by decide) rfl (fun ls hl => ?_)
        exact L_101 18 H locs G_65 y4_65 1 0 ls (rg_w rg104_65 (by decide) (by decide)) frL_65 ry2_65 ry3_65 ry4_65 (rg_w rl_0 (by decide) (by decide)) rfl (by decide) (lv_sub hl [2, 3, 4, 5, 1, 0] rfl) hv hH hS
      · have r_107 : rgI (0) (16) y5_65 := rg_w (rg_leL ry5_65 rl_16 (nlt_le c_105)) (by decide) (by decide)
        refine lv_aload_n hx hb dX12_odds_72 rfl (lv_at hl 0 rfl) ?_
        obtain ⟨_, ⟨rfl, t_109, hk_110⟩, o_c_108⟩ := hH h0 _ k_h0
        refine hg_get hx hb hG igX12 hown hK o_c_108 rfl 38 (by decide) (hG _ mw_1322) rfl dX12_odds_73 ?_
        refine lv_iload hx hb dX12_odds_76 (lv_at hl 4 rfl) ?_
        refine lv_iload hx hb dX12_odds_78 (lv_at hl 4 rfl) ?_
        refine lv_if_ne (tgt := 87) hx hb dX12_odds_80 (by decide) (fun c_111 => ?_) (fun c_111 => ?_)
        · have r_112 : rgI (1) (16) y5_65 := rg_w (rg_neL r_107 rl_0 c_111) (by decide) (by decide)
          refine lv_lconst (v := 0) hx hb dX12_odds_87 (by decide) ?_
          obtain ⟨_, ⟨f_114, rfl⟩, o_c_113⟩ := hH (g.2.2 138) _ hk_110.2.2.2.2.2.2.2.2.2.2.2.2.2.2.2.2.2.1
          refine hg_last hx hb hK hS o_c_113 (AF.of hk_110.2.2.2.2.2.2.2.2.2.2.2.2.2.2.2.2.2.1) (rg_in (n := 17) r_112 (by decide) (by decide)) dX12_odds_88 (fun H locs o_c_113 hz oq hS => ?_)
          generalize hff_115 : vp_updL f_114 _ 0 = f_115 at o_c_113
          have hH : HT g Ty G_65 H := hH.put hk_110.2.2.2.2.2.2.2.2.2.2.2.2.2.2.2.2.2.1 ⟨_, rfl⟩ o_c_113 oq
          have o_c_108 := o_c_108.kept (oq _ (ne_kd k_h0 hk_110.2.2.2.2.2.2.2.2.2.2.2.2.2.2.2.2.2.1 (by decide)))
          clear oq hz
          obtain ⟨x_116, ex_116⟩ : ∃ y : Int32, y = y5_65 + 1 := ⟨_, rfl⟩
          try rw [← ex_116] at hv
          have rx_116 : rgI (2) (17) x_116 := by rw [ex_116]; exact rg_w (rg_add r_112 rl_1 (by decide) (by decide)) (by decide) (by decide)
          have qx_116 : x_116.toInt = (y5_65 : Int32).toInt + 1 := by rw [ex_116]; exact rg_addE r_112 rl_1 (by decide) (by decide)
          refine lv_iinc (v := x_116) (lv' := [(5, .int x_116), (0, .ref h0), (2, .int a1), (3, .int a2), (4, .int y4_65)]) hx hb dX12_odds_89 hl (k := 4) rfl (by rw [ex_116]; rfl) (by decide) rfl (fun ls hl => ?_)
          refine lv_goto (tgt := 65) hx hb dX12_odds_92 (by decide) ?_
          exact ih_65 H locs G_65 y4_65 x_116 ls (rg_w rg104_65 (by decide) (by decide)) frL_65 ry2_65 ry3_65 ry4_65 (rg_w rx_116 (by decide) (by decide)) (by have h1 := qx_116; have h2 := r_112.1; have h3 := r_112.2; have h4 := hm_65; omega) (lv_sub hl [1, 2, 3, 4, 0] rfl) hv hH hS
        · have r_117 : rgI (0) (0) y5_65 := rg_w (rg_eq rl_0 c_111) (by decide) (by decide)
          refine lv_lconst (v := 1) hx hb dX12_odds_83 (by decide) ?_
          refine lv_goto (tgt := 88) hx hb dX12_odds_84 (by decide) ?_
          obtain ⟨_, ⟨f_119, rfl⟩, o_c_118⟩ := hH (g.2.2 138) _ hk_110.2.2.2.2.2.2.2.2.2.2.2.2.2.2.2.2.2.1
          refine hg_last hx hb hK hS o_c_118 (AF.of hk_110.2.2.2.2.2.2.2.2.2.2.2.2.2.2.2.2.2.1) (rg_in (n := 17) r_117 (by decide) (by decide)) dX12_odds_88 (fun H locs o_c_118 hz oq hS => ?_)
          generalize hff_120 : vp_updL f_119 _ 1 = f_120 at o_c_118
          have hH : HT g Ty G_65 H := hH.put hk_110.2.2.2.2.2.2.2.2.2.2.2.2.2.2.2.2.2.1 ⟨_, rfl⟩ o_c_118 oq
          have o_c_108 := o_c_108.kept (oq _ (ne_kd k_h0 hk_110.2.2.2.2.2.2.2.2.2.2.2.2.2.2.2.2.2.1 (by decide)))
          clear oq hz
          obtain ⟨x_121, ex_121⟩ : ∃ y : Int32, y = y5_65 + 1 := ⟨_, rfl⟩
          try rw [← ex_121] at hv
          have rx_121 : rgI (1) (1) x_121 := by rw [ex_121]; exact rg_w (rg_add r_117 rl_1 (by decide) (by decide)) (by decide) (by decide)
          have qx_121 : x_121.toInt = (y5_65 : Int32).toInt + 1 := by rw [ex_121]; exact rg_addE r_117 rl_1 (by decide) (by decide)
          refine lv_iinc (v := x_121) (lv' := [(5, .int x_121), (0, .ref h0), (2, .int a1), (3, .int a2), (4, .int y4_65)]) hx hb dX12_odds_89 hl (k := 4) rfl (by rw [ex_121]; rfl) (by decide) rfl (fun ls hl => ?_)
          refine lv_goto (tgt := 65) hx hb dX12_odds_92 (by decide) ?_
          exact ih_65 H locs G_65 y4_65 x_121 ls (rg_w rg104_65 (by decide) (by decide)) frL_65 ry2_65 ry3_65 ry4_65 (rg_w rx_121 (by decide) (by decide)) (by have h1 := qx_121; have h2 := r_117.1; have h3 := r_117.2; have h4 := hm_65; omega) (lv_sub hl [1, 2, 3, 4, 0] rfl) hv hH hS
  refine lv_aload_n hx hb dX12_odds_0 rfl (lv_at hl 0 rfl) ?_
  refine lv_iconst (v := 0) hx hb dX12_odds_1 (by decide) ?_
  obtain ⟨_, ⟨rfl, t_123, hk_124⟩, o_c_122⟩ := hH h0 _ k_h0
  refine hg_put (ty := .int) hx hb hG igX12 tyX12 tyX12_ok nmX12 hown hK hS o_c_122 (AF.of k_h0) rfl 5 (by decide) (hG _ mw_1289) rfl (by decide +kernel) rfl rfl (Nat.le_of_ble_eq_true rfl) dX12_odds_2 (fun H locs o_c_122 hz oq hS => ?_)
  obtain ⟨G_125, eG_125⟩ : ∃ z : Gh, z = gset G 105 0 := ⟨_, rfl⟩
  have hH : HT g Ty G_125 H := by rw [eG_125]; exact HT.putN 105 0 hH k_h0 ⟨rfl, t_123, hk_124⟩ o_c_122 oq (Or.inr (Or.inr (Or.inr (Or.inr (Or.inr ⟨by decide, t_123⟩)))))
  have fr_126 : FR [104, 105] [] [] G G_125 := FR.n FR.rf eG_125 (by decide)
  have u_127 : G_125.1 102 = (G.1 102) := by rw [eG_125]; exact (gs_ne (by decide))
  have u_128 : G_125.1 104 = (G.1 104) := by rw [eG_125]; exact (gs_ne (by decide))
  have u_129 : G_125.1 113 = (G.1 113) := by rw [eG_125]; exact (gs_ne (by decide))
  have u_130 : G_125.1 122 = (G.1 122) := by rw [eG_125]; exact (gs_ne (by decide))
  have u_131 : G_125.1 133 = (G.1 133) := by rw [eG_125]; exact (gs_ne (by decide))
  have u_132 : G_125.1 137 = (G.1 137) := by rw [eG_125]; exact (gs_ne (by decide))
  have u_133 : G_125.1 105 = 0 := by rw [eG_125]; exact gs_eq
  have w_134 : G_125.2.1 (g.2.2 100) = (G.2.1 (g.2.2 100)) := by rw [eG_125]; exact rfl
  have w_135 : G_125.2.1 (g.2.2 121) = (G.2.1 (g.2.2 121)) := by rw [eG_125]; exact rfl
  have w_136 : G_125.2.1 (g.2.2 140) = (G.2.1 (g.2.2 140)) := by rw [eG_125]; exact rfl
  have w_137 : G_125.2.1 (g.2.2 141) = (G.2.1 (g.2.2 141)) := by rw [eG_125]; exact rfl
  have w_138 : G_125.2.1 (g.2.2 111) = (G.2.1 (g.2.2 111)) := by rw [eG_125]; exact rfl
  have u_139 : G_125.2.2 111 = some (g.2.2 111) := by rw [eG_125]; exact hI.r111
  have u_140 : G_125.2.2 112 = some (g.2.2 112) := by rw [eG_125]; exact hI.r112
  clear oq hz
  refine lv_aload_n hx hb dX12_odds_5 rfl (lv_at hl 0 rfl) ?_
  obtain ⟨_, ⟨rfl, t_142, hk_143⟩, o_c_141⟩ := hH h0 _ k_h0
  refine hg_get hx hb hG igX12 hown hK o_c_141 rfl 0 (by decide) (hG _ mw_1284) rfl dX12_odds_6 ?_
  refine lv_iload_n hx hb dX12_odds_9 rfl (lv_at hl 1 rfl) ?_
  refine vp_callSi (W.runS (As := [.ref (g.2.2 100), .int a0]) (rest := []) ⟨hx, hb, hml, hown, hts⟩ (c_X12_isThere l g Ty G_125 (g.2.2 100) a0 (hk_143.1)) (cwSx 2 hts hG (gwC mw_1520) mw_88 mw_1518 mw_1519 rfl rfl rfl hd_X12_isThere ⟨Nat.le_of_ble_eq_true rfl, Nat.le_of_ble_eq_true rfl⟩) ⟨PcH_blind, PcH_pre hK hH⟩ rfl rfl hl.1 rfl (lv_room (Nat.le_of_ble_eq_true rfl)) dX12_odds_10 ⟨Nat.zero_le _, Nat.zero_le _⟩) (fun x_144 hx_144 => ?_)
  have rx_144 : rgI (0) (1) x_144 := hx_144.1
  try rw [← hx_144.2.2] at hv
  have ex_145 : x_144 = F_X12_isThere (G.2.1 (g.2.2 100)) a0 := by rw [← w_134]; exact hx_144.2.2
  try rw [← ex_145] at hv
  refine lv_if_eq (tgt := 36) hx hb dX12_odds_13 (by decide) (fun c_146 => ?_) (fun c_146 => ?_)
  · rw [if_pos c_146] at hv
    have r_147 : rgI (0) (0) x_144 := rg_w (rg_eq rl_0 c_146) (by decide) (by decide)
    refine lv_iconst (v := (-1)) hx hb dX12_odds_36 (by decide) ?_
    exact W.iret hx hb hr (fun t ht hWm => ⟨⟨(-1), (Ty, G_125), rfl, ⟨rfl, ⟨fr_126, ⟨⟨(by rw [u_127]; exact (rg_w hI.a102 (by decide) (by decide))), (by rw [u_128]; exact (rg_w hI.a104 (by decide) (by decide))), (by rw [u_129]; exact (rg_w hI.a113 (by decide) (by decide))), (by rw [u_130]; exact (rg_w hI.a122 (by decide) (by decide))), (by rw [u_131]; exact (rg_w hI.a133 (by decide) (by decide))), (by rw [u_132]; exact (rg_w hI.a137 (by decide) (by decide))), u_139, u_140, (by rw [w_134]; exact (hI.ti.hi (show Bd ≤ Bd + 1000 by omega))), (hI.un2 (show Bd ≤ Bd + 1000 by omega) w_135 u_130), (hI.ke2 (show Bd ≤ Bd + 1000 by omega) w_136 w_137)⟩, hv.symm⟩⟩⟩, by show HT g Ty G_125 t.heap; rw [ht]; exact hH⟩, hS.F ht⟩) hS.2.2 dX12_odds_37
  · rw [if_neg c_146] at hv
    have th_148 : thr (G.2.1 (g.2.2 100)) a0 := F_isThere_thr (by rw [← ex_145]; exact c_146)
    have r_149 : rgI (1) (1) x_144 := rg_w (rg_neL rx_144 rl_0 c_146) (by decide) (by decide)
    have r_150 : rgI (0) (23) a0 := rg_w (hx_144.2.1.resolve_left c_146) (by decide) (by decide)
    refine lv_iload_n hx hb dX12_odds_16 rfl (lv_at hl 2 rfl) ?_
    refine lv_iconst (v := 0) hx hb dX12_odds_17 (by decide) ?_
    refine lv_bipush (v := 16) hx hb dX12_odds_18 (by decide) ?_
    refine vp_callSi (W.runS (As := [.int a1, .int 0, .int 16]) (rest := []) ⟨hx, hb, hml, hown, hts⟩ (c_X12_in l g Ty G_125 a1 0 16 ) (cwSx 3 hts hG (gwC mw_1426) mw_88 mw_1424 mw_1425 rfl rfl rfl hd_X12_in ⟨Nat.le_of_ble_eq_true rfl, Nat.le_of_ble_eq_true rfl⟩) ⟨PcH_blind, PcH_pre hK hH⟩ rfl rfl hl.1 rfl (lv_room (Nat.le_of_ble_eq_true rfl)) dX12_odds_20 ⟨Nat.zero_le _, Nat.zero_le _⟩) (fun x_151 hx_151 => ?_)
    have rx_151 : rgI (0) (1) x_151 := hx_151.1
    try rw [← hx_151.2.2] at hv
    try rw [← hx_151.2.2] at hv
    refine lv_if_eq (tgt := 36) hx hb dX12_odds_23 (by decide) (fun c_152 => ?_) (fun c_152 => ?_)
    · rw [if_pos c_152] at hv
      have r_153 : rgI (0) (0) x_151 := rg_w (rg_eq rl_0 c_152) (by decide) (by decide)
      refine lv_iconst (v := (-1)) hx hb dX12_odds_36 (by decide) ?_
      exact W.iret hx hb hr (fun t ht hWm => ⟨⟨(-1), (Ty, G_125), rfl, ⟨rfl, ⟨fr_126, ⟨⟨(by rw [u_127]; exact (rg_w hI.a102 (by decide) (by decide))), (by rw [u_128]; exact (rg_w hI.a104 (by decide) (by decide))), (by rw [u_129]; exact (rg_w hI.a113 (by decide) (by decide))), (by rw [u_130]; exact (rg_w hI.a122 (by decide) (by decide))), (by rw [u_131]; exact (rg_w hI.a133 (by decide) (by decide))), (by rw [u_132]; exact (rg_w hI.a137 (by decide) (by decide))), u_139, u_140, (by rw [w_134]; exact (hI.ti.hi (show Bd ≤ Bd + 1000 by omega))), (hI.un2 (show Bd ≤ Bd + 1000 by omega) w_135 u_130), (hI.ke2 (show Bd ≤ Bd + 1000 by omega) w_136 w_137)⟩, hv.symm⟩⟩⟩, by show HT g Ty G_125 t.heap; rw [ht]; exact hH⟩, hS.F ht⟩) hS.2.2 dX12_odds_37
    · rw [if_neg c_152] at hv
      have r_154 : rgI (1) (1) x_151 := rg_w (rg_neL rx_151 rl_0 c_152) (by decide) (by decide)
      have r_155 : rgI (0) (16) a1 := rg_w (in_rng hx_151.2.1 c_152 rl_0 rl_16) (by decide) (by decide)
      refine lv_iload_n hx hb dX12_odds_26 rfl (lv_at hl 3 rfl) ?_
      refine lv_iconst (v := 0) hx hb dX12_odds_27 (by decide) ?_
      refine lv_bipush (v := 10) hx hb dX12_odds_28 (by decide) ?_
      refine vp_callSi (W.runS (As := [.int a2, .int 0, .int 10]) (rest := []) ⟨hx, hb, hml, hown, hts⟩ (c_X12_in l g Ty G_125 a2 0 10 ) (cwSx 3 hts hG (gwC mw_1426) mw_88 mw_1424 mw_1425 rfl rfl rfl hd_X12_in ⟨Nat.le_of_ble_eq_true rfl, Nat.le_of_ble_eq_true rfl⟩) ⟨PcH_blind, PcH_pre hK hH⟩ rfl rfl hl.1 rfl (lv_room (Nat.le_of_ble_eq_true rfl)) dX12_odds_30 ⟨Nat.zero_le _, Nat.zero_le _⟩) (fun x_156 hx_156 => ?_)
      have rx_156 : rgI (0) (1) x_156 := hx_156.1
      try rw [← hx_156.2.2] at hv
      try rw [← hx_156.2.2] at hv
      refine lv_if_ne (tgt := 38) hx hb dX12_odds_33 (by decide) (fun c_157 => ?_) (fun c_157 => ?_)
      · rw [if_neg c_157] at hv
        have r_158 : rgI (1) (1) x_156 := rg_w (rg_neL rx_156 rl_0 c_157) (by decide) (by decide)
        have r_159 : rgI (0) (10) a2 := rg_w (in_rng hx_156.2.1 c_157 rl_0 rl_10) (by decide) (by decide)
        refine lv_aload_n hx hb dX12_odds_38 rfl (lv_at hl 0 rfl) ?_
        refine hg_get hx hb hG igX12 hown hK o_c_141 rfl 0 (by decide) (hG _ mw_1284) rfl dX12_odds_39 ?_
        refine lv_iload_n hx hb dX12_odds_42 rfl (lv_at hl 1 rfl) ?_
        refine vp_callSi (W.runS (As := [.ref (g.2.2 100), .int a0]) (rest := []) ⟨hx, hb, hml, hown, hts⟩ (c_X12_spreadOf l g Ty G_125 (g.2.2 100) a0 (hk_143.1) (by rw [w_134]; exact th_148)) (cwSx 2 hts hG (gwC mw_1560) mw_88 mw_1558 mw_1559 rfl rfl rfl hd_X12_spreadOf ⟨Nat.le_of_ble_eq_true rfl, Nat.le_of_ble_eq_true rfl⟩) ⟨PcH_blind, PcH_pre hK hH⟩ rfl rfl hl.1 rfl (lv_room (Nat.le_of_ble_eq_true rfl)) dX12_odds_43 ⟨Nat.zero_le _, Nat.zero_le _⟩) (fun x_160 hx_160 => ?_)
        try rw [← hx_160.2] at hv
        have ex_161 : x_160 = F_X12_spreadOf (G.2.1 (g.2.2 100)) a0 := by rw [← w_134]; exact hx_160.2
        have tx_162 := hx_160.1
        try rw [w_134] at tx_162
        try rw [w_138] at tx_162
        try rw [u_129] at tx_162
        try rw [← ex_161] at hv
        refine vp_callSi (W.runS (As := [.int x_160]) (rest := []) ⟨hx, hb, hml, hown, hts⟩ (c_J6_bitCount_x l g Ty G_125 x_160 ) (cwSx 1 hts hG (gwC mw_620) mw_99 mw_1553 mw_619 rfl rfl rfl hd_J6_bitCount_0f7a4 ⟨Nat.le_of_ble_eq_true rfl, Nat.le_of_ble_eq_true rfl⟩) ⟨PcH_blind, PcH_pre hK hH⟩ rfl rfl hl.1 rfl (lv_room (Nat.le_of_ble_eq_true rfl)) dX12_odds_46 ⟨Nat.zero_le _, Nat.zero_le _⟩) (fun x_163 hx_163 => ?_)
        have rx_163 : rgI (0) (63) x_163 := hx_163.1
        try rw [← hx_163.2] at hv
        try rw [← hx_163.2] at hv
        refine lv_iconst (v := 1) hx hb dX12_odds_49 (by decide) ?_
        refine lv_isub hx hb dX12_odds_50 ?_
        refine lv_topi (fun x_164 ex_164 => ?_)
        try rw [← ex_164] at hv
        have rx_164 : rgI (-1) (62) x_164 := by rw [ex_164]; exact rg_w (rg_sub rx_163 rl_1 (by decide) (by decide)) (by decide) (by decide)
        refine lv_istore (lv' := [(4, .int x_164), (0, .ref h0), (1, .int a0), (2, .int a1), (3, .int a2)]) hx hb dX12_odds_51 hl (by decide) rfl (fun ls hl => ?_)
        refine lv_iload hx hb dX12_odds_53 (lv_at hl 0 rfl) ?_
        refine lv_bipush (v := 16) hx hb dX12_odds_55 (by decide) ?_
        refine lv_icmp_le (tgt := 62) hx hb dX12_odds_57 (by decide) (fun c_165 => ?_) (fun c_165 => ?_)
        · rw [if_pos c_165] at hv
          have r_166 : rgI (-1) (16) x_164 := rg_w (rg_leL rx_164 rl_16 c_165) (by decide) (by decide)
          refine lv_iconst (v := 0) hx hb dX12_odds_62 (by decide) ?_
          refine lv_istore (lv' := [(5, .int 0), (4, .int x_164), (0, .ref h0), (1, .int a0), (2, .int a1), (3, .int a2)]) hx hb dX12_odds_63 hl (by decide) rfl (fun ls hl => ?_)
          exact L_65 19 H locs G_125 x_164 0 ls (by rw [u_128]; exact rg_w hI.a104 (by decide) (by decide)) fr_126 r_155 r_159 r_166 (rg_w rl_0 (by decide) (by decide)) (by decide) (lv_sub hl [2, 4, 5, 1, 0] rfl) hv hH hS
        · rw [if_neg c_165] at hv
          have r_167 : rgI (17) (62) x_164 := rg_w (rg_ltR rl_16 rx_164 (nle_lt c_165)) (by decide) (by decide)
          refine lv_iconst (v := (-1)) hx hb dX12_odds_60 (by decide) ?_
          exact W.iret hx hb hr (fun t ht hWm => ⟨⟨(-1), (Ty, G_125), rfl, ⟨rfl, ⟨fr_126, ⟨⟨(by rw [u_127]; exact (rg_w hI.a102 (by decide) (by decide))), (by rw [u_128]; exact (rg_w hI.a104 (by decide) (by decide))), (by rw [u_129]; exact (rg_w hI.a113 (by decide) (by decide))), (by rw [u_130]; exact (rg_w hI.a122 (by decide) (by decide))), (by rw [u_131]; exact (rg_w hI.a133 (by decide) (by decide))), (by rw [u_132]; exact (rg_w hI.a137 (by decide) (by decide))), u_139, u_140, (by rw [w_134]; exact (hI.ti.hi (show Bd ≤ Bd + 1000 by omega))), (hI.un2 (show Bd ≤ Bd + 1000 by omega) w_135 u_130), (hI.ke2 (show Bd ≤ Bd + 1000 by omega) w_136 w_137)⟩, hv.symm⟩⟩⟩, by show HT g Ty G_125 t.heap; rw [ht]; exact hH⟩, hS.F ht⟩) hS.2.2 dX12_odds_61
      · rw [if_pos c_157] at hv
        have r_168 : rgI (0) (0) x_156 := rg_w (rg_eq rl_0 c_157) (by decide) (by decide)
        refine lv_iconst (v := (-1)) hx hb dX12_odds_36 (by decide) ?_
        exact W.iret hx hb hr (fun t ht hWm => ⟨⟨(-1), (Ty, G_125), rfl, ⟨rfl, ⟨fr_126, ⟨⟨(by rw [u_127]; exact (rg_w hI.a102 (by decide) (by decide))), (by rw [u_128]; exact (rg_w hI.a104 (by decide) (by decide))), (by rw [u_129]; exact (rg_w hI.a113 (by decide) (by decide))), (by rw [u_130]; exact (rg_w hI.a122 (by decide) (by decide))), (by rw [u_131]; exact (rg_w hI.a133 (by decide) (by decide))), (by rw [u_132]; exact (rg_w hI.a137 (by decide) (by decide))), u_139, u_140, (by rw [w_134]; exact (hI.ti.hi (show Bd ≤ Bd + 1000 by omega))), (hI.un2 (show Bd ≤ Bd + 1000 by omega) w_135 u_130), (hI.ke2 (show Bd ≤ Bd + 1000 by omega) w_136 w_137)⟩, hv.symm⟩⟩⟩, by show HT g Ty G_125 t.heap; rw [ht]; exact hH⟩, hS.F ht⟩) hS.2.2 dX12_odds_37

def F_X12_fits_x (r0 : Nat → Int32) : Int32 := (F_X12_tellBits_x (F_X12_fitting_x r0))
set_option maxHeartbeats 4000000 in
set_option maxRecDepth 100000 in
theorem c_X12_fits_x (l : Launch) (g : Gx) (Ty : TyM) (G : Gh) (sz : Nat) (h0 : Nat) (k_h0 : Ty h0 = some (22, 0)) (Bd : Int) (hI : OI g Bd G) (hBd : Bd ≤ 1900000) (hLD : LD g) (h133 : G.1 133 = 0) : Met l yX12_fits (wsG yX12_fits cX12_fits 1 (some .int)) ({ frames := 6, cells := 0, slots := 0, locals := 137 }) (PcT g Ty G sz [.ref h0]) (QwI g Ty sz (fun r u => u.1 = Ty ∧ FR [104, 105] [] [] G u.2 ∧ OI g (Bd + 1000) u.2 ∧ F_X12_fits_x (G.2.1 (g.2.2 100)) = r)) 0 0 (AF Ty sz) := by
  refine Met.ofW (cc := cX12_fits) (maxL := 1) (ret := (some .int)) (by decide) rfl ?_
  intro p e s m args below meth c s₁ B hml hv
  obtain ⟨rfl, hsz, hK, hH⟩ := hv
  subst hsz
  have hx := B.exec
  have hb := B.bytes
  have hr := B.returns
  have hts := atoms_spec (ws := (wsG yX12_fits cX12_fits 1 (some .int))) B.pre
  have hG : ∀ w ∈ GW, w.before ([.ref h0] : List Value).toArray s = true := fun w h => hts w (List.mem_cons_of_mem _ h)
  have hown : s.vm.findClass RX12 = some m.cls := findClass_of_methodNamed B.named
  have hlocks := B.notSynchronized
  have hl := lv_entry [.ref h0] (n := 1) (Nat.le_of_ble_eq_true rfl)
  rw [lg_entry_eq]
  generalize (lg_sl [.ref h0] ++ List.replicate (1 - (lg_sl [.ref h0]).length) Slot.unset).toArray = ls at hl ⊢
  have hl : lv_has ls 1 [(0, .ref h0)] := hl
  have hmk : mdK g Ty := mdk_of hH k_h0
  have hv : (F_X12_tellBits_x (F_X12_fitting_x (G.2.1 (g.2.2 100)))) = F_X12_fits_x (G.2.1 (g.2.2 100)) := rfl
  have hS : va_S (AF Ty s.heap.size) s.heap s.heap [] := va_S.rf
  obtain ⟨⟨σ0, hTS0⟩, h10, hBB0⟩ := id hI.ti
  obtain ⟨ρ, hT⟩ := hTS0.1
  refine lv_aload_n hx hb dX12_fits_0 rfl (lv_at hl 0 rfl) ?_
  refine lv_iconst (v := 0) hx hb dX12_fits_1 (by decide) ?_
  obtain ⟨_, ⟨rfl, t_2, hk_3⟩, o_c_1⟩ := hH h0 _ k_h0
  refine hg_put (ty := .int) hx hb hG igX12 tyX12 tyX12_ok nmX12 hown hK hS o_c_1 (AF.of k_h0) rfl 5 (by decide) (hG _ mw_1289) rfl (by decide +kernel) rfl rfl (Nat.le_of_ble_eq_true rfl) dX12_fits_2 (fun H locs o_c_1 hz oq hS => ?_)
  obtain ⟨G_4, eG_4⟩ : ∃ z : Gh, z = gset G 105 0 := ⟨_, rfl⟩
  have hH : HT g Ty G_4 H := by rw [eG_4]; exact HT.putN 105 0 hH k_h0 ⟨rfl, t_2, hk_3⟩ o_c_1 oq (Or.inr (Or.inr (Or.inr (Or.inr (Or.inr ⟨by decide, t_2⟩)))))
  have fr_5 : FR [104, 105] [] [] G G_4 := FR.n FR.rf eG_4 (by decide)
  have u_6 : G_4.1 102 = (G.1 102) := by rw [eG_4]; exact (gs_ne (by decide))
  have u_7 : G_4.1 104 = (G.1 104) := by rw [eG_4]; exact (gs_ne (by decide))
  have u_8 : G_4.1 113 = (G.1 113) := by rw [eG_4]; exact (gs_ne (by decide))
  have u_9 : G_4.1 122 = (G.1 122) := by rw [eG_4]; exact (gs_ne (by decide))
  have u_10 : G_4.1 133 = 0 := by rw [eG_4]; exact (gs_ne (by decide)).trans h133
  have u_11 : G_4.1 137 = (G.1 137) := by rw [eG_4]; exact (gs_ne (by decide))
  have u_12 : G_4.1 105 = 0 := by rw [eG_4]; exact gs_eq
  have w_13 : G_4.2.1 (g.2.2 100) = (G.2.1 (g.2.2 100)) := by rw [eG_4]; exact rfl
  have w_14 : G_4.2.1 (g.2.2 121) = (G.2.1 (g.2.2 121)) := by rw [eG_4]; exact rfl
  have w_15 : G_4.2.1 (g.2.2 140) = (G.2.1 (g.2.2 140)) := by rw [eG_4]; exact rfl
  have w_16 : G_4.2.1 (g.2.2 141) = (G.2.1 (g.2.2 141)) := by rw [eG_4]; exact rfl
  have w_17 : G_4.2.1 (g.2.2 111) = (G.2.1 (g.2.2 111)) := by rw [eG_4]; exact rfl
  have u_18 : G_4.2.2 111 = some (g.2.2 111) := by rw [eG_4]; exact hI.r111
  have u_19 : G_4.2.2 112 = some (g.2.2 112) := by rw [eG_4]; exact hI.r112
  clear oq hz
  refine lv_aload_n hx hb dX12_fits_5 rfl (lv_at hl 0 rfl) ?_
  refine lv_aload_n hx hb dX12_fits_6 rfl (lv_at hl 0 rfl) ?_
  obtain ⟨_, ⟨rfl, t_21, hk_22⟩, o_c_20⟩ := hH h0 _ k_h0
  refine vp_callSi (W.runV (As := []) (rest := [.ref h0]) ⟨hx, hb, hml, hown, hts⟩ (c_X12_fitting_x l g Ty G_4 h0 k_h0 Bd ⟨(by rw [u_6]; exact (rg_w hI.a102 (by decide) (by decide))), (by rw [u_7]; exact (rg_w hI.a104 (by decide) (by decide))), (by rw [u_8]; exact (rg_w hI.a113 (by decide) (by decide))), (by rw [u_9]; exact (rg_w hI.a122 (by decide) (by decide))), (by rw [u_10]; exact (rg_w rl_0 (by decide) (by decide))), (by rw [u_11]; exact (rg_w hI.a137 (by decide) (by decide))), u_18, u_19, (by rw [w_13]; exact (hI.ti.hi (show Bd ≤ Bd by omega))), (hI.un2 (show Bd ≤ Bd by omega) w_14 u_9), (hI.ke2 (show Bd ≤ Bd by omega) w_15 w_16)⟩ hBd hLD u_10) (cwV 0 hts (gwV mw_1785 mw_1787 mw_69 mw_88 mw_1788) rfl rfl rfl hv_X12_fitting ⟨Nat.le_of_ble_eq_true rfl, Nat.le_of_ble_eq_true rfl⟩) ⟨PcH_blind, hg_recv hK o_c_20 rfl, PcH_pre hK hH⟩ rfl rfl hl.1 rfl (lv_room (Nat.le_of_ble_eq_true rfl)) dX12_fits_7 ⟨Nat.zero_le _, Nat.zero_le _⟩) (fun x_23 hx_23 => ?_)
  try rw [← hx_23.2] at hv
  have tx_24 := hx_23.1
  try rw [w_17] at tx_24
  try rw [u_8] at tx_24
  try rw [w_13] at tx_24
  have ex_25 : x_23 = F_X12_fitting_x (G.2.1 (g.2.2 100)) := hx_23.2.trans (by rw [w_13])
  try rw [← ex_25] at hv
  refine va_calli (va_runV (As := [.int x_23]) (rest := []) ⟨hx, hb, hml, hown, hts⟩ (c_X12_tellBits_x l g Ty G_4 H.size h0 x_23 k_h0) (cwV 1 hts (gwV mw_1704 mw_1706 mw_67 mw_88 mw_1707) rfl rfl rfl hv_X12_tellBits ⟨Nat.le_of_ble_eq_true rfl, Nat.le_of_ble_eq_true rfl⟩) ⟨PcT_blind, hg_recv hK o_c_20 rfl, PcT_pre hK hH⟩ rfl rfl hl.1 rfl (lv_room (Nat.le_of_ble_eq_true rfl)) dX12_fits_10 ⟨Nat.zero_le _, Nat.zero_le _⟩) hS (fun q _ h => AF.mono hS.1 h) (fun q h => AF.mono hS.1 h) (fun x_26 ux_26 t H locs ht hvm hx_26 hB hz hk hS => ?_)
  obtain ⟨eTx_26, eGx_26⟩ := hx_26
  obtain ⟨G_27, eG_27⟩ : ∃ z, z = ux_26.2 := ⟨_, rfl⟩
  rw [← eG_27] at eGx_26
  obtain ⟨hfr_28, hex_29⟩ := eGx_26
  have fr_30 : FR [104, 105] [] [] G G_27 := FR.tr fr_5 hfr_28 (by decide) (fun _ _ => trivial) (by decide)
  have u_31 : G_27.1 102 = (G.1 102) := (hfr_28.1 102 (by decide)).trans u_6
  have u_32 : G_27.1 113 = (G.1 113) := (hfr_28.1 113 (by decide)).trans u_8
  have u_33 : G_27.1 122 = (G.1 122) := (hfr_28.1 122 (by decide)).trans u_9
  have u_34 : G_27.1 133 = 0 := (hfr_28.1 133 (by decide)).trans u_10
  have u_35 : G_27.1 137 = (G.1 137) := (hfr_28.1 137 (by decide)).trans u_11
  have u_36 : G_27.1 105 = 0 := (hfr_28.1 105 (by decide)).trans u_12
  have w_37 : G_27.2.1 (g.2.2 100) = (G.2.1 (g.2.2 100)) := (hfr_28.2.1 (g.2.2 100) trivial).trans w_13
  have w_38 : G_27.2.1 (g.2.2 121) = (G.2.1 (g.2.2 121)) := (hfr_28.2.1 (g.2.2 121) trivial).trans w_14
  have w_39 : G_27.2.1 (g.2.2 140) = (G.2.1 (g.2.2 140)) := (hfr_28.2.1 (g.2.2 140) trivial).trans w_15
  have w_40 : G_27.2.1 (g.2.2 141) = (G.2.1 (g.2.2 141)) := (hfr_28.2.1 (g.2.2 141) trivial).trans w_16
  have w_41 : G_27.2.1 (g.2.2 111) = (G.2.1 (g.2.2 111)) := (hfr_28.2.1 (g.2.2 111) trivial).trans w_17
  have u_42 : G_27.2.2 111 = some (g.2.2 111) := (hfr_28.2.2 111 (by decide)).trans u_18
  have u_43 : G_27.2.2 112 = some (g.2.2 112) := (hfr_28.2.2 112 (by decide)).trans u_19
  obtain ⟨xa_44, xb_45⟩ := hex_29
  have hq_46 : F_X12_tellBits_x x_23 = x_26 := by have q := xb_45; exact q
  try rw [hq_46] at hv
  have t4_47 : rgI (1) (1) (G_27.1 104) := xa_44
  have hH : HT g Ty G_27 H := by rw [← ht, ← eTx_26, eG_27]; exact hB
  exact W.iret hx hb hr (fun t ht hWm => ⟨⟨x_26, (Ty, G_27), rfl, ⟨rfl, ⟨fr_30, ⟨⟨(by rw [u_31]; exact (rg_w hI.a102 (by decide) (by decide))), (rg_w t4_47 (by decide) (by decide)), (by rw [u_32]; exact (rg_w hI.a113 (by decide) (by decide))), (by rw [u_33]; exact (rg_w hI.a122 (by decide) (by decide))), (by rw [u_34]; exact (rg_w rl_0 (by decide) (by decide))), (by rw [u_35]; exact (rg_w hI.a137 (by decide) (by decide))), u_42, u_43, (by rw [w_37]; exact (hI.ti.hi (show Bd ≤ Bd + 1000 by omega))), (hI.un2 (show Bd ≤ Bd + 1000 by omega) w_38 u_33), (hI.ke2 (show Bd ≤ Bd + 1000 by omega) w_39 w_40)⟩, hv.symm⟩⟩⟩, by show HT g Ty G_27 t.heap; rw [ht]; exact hH⟩, hS.F ht⟩) hS.2.2 dX12_fits_13

def F_X12_asks_x_58 : Nat → Int32 → Int32 → Int32 → Int32 → Int32 → Int32 → (Nat → Int32) → Int32
  | 0, _, _, _, _, y5, _, _ => y5
  | n + 1, y1, y2, y3, y4, y5, y6, yr0 => (if (24 : Int32) ≤ y6 then y5 else (if (F_X12_has y1 y6) = (0 : Int32) then (F_X12_asks_x_58 n y1 y2 y3 y4 (y5 + (0 : Int32)) (y6 + (1 : Int32)) yr0) else (if (F_X12_isSo_x yr0 y6 (y4 / (10 : Int32)) (jrem y4 (10 : Int32))) = (0 : Int32) then (F_X12_asks_x_58 n y1 y2 y3 y4 (y5 + (0 : Int32)) (y6 + (1 : Int32)) yr0) else (F_X12_asks_x_58 n y1 y2 y3 y4 (y5 + (1 : Int32)) (y6 + (1 : Int32)) yr0))))
def F_X12_asks_x_26 : Nat → Int32 → Int32 → Int32 → Int32 → (Nat → Int32) → Int32 × Int32
  | 0, _, y2, y3, _, _ => (y2, y3)
  | n + 1, y1, y2, y3, y4, yr0 => (if (50 : Int32) ≤ y4 then (y2, y3) else (if (jrem y4 (10 : Int32)) ≤ (F_X12_highOf (y4 / (10 : Int32))) then (if (if (F_X12_asks_x_58 26 y1 y2 y3 y4 (0 : Int32) (0 : Int32) yr0) < ((F_J6_bitCount_0f7a4 y1) - (F_X12_asks_x_58 26 y1 y2 y3 y4 (0 : Int32) (0 : Int32) yr0)) then ((F_J6_bitCount_0f7a4 y1) - (F_X12_asks_x_58 26 y1 y2 y3 y4 (0 : Int32) (0 : Int32) yr0)) else (F_X12_asks_x_58 26 y1 y2 y3 y4 (0 : Int32) (0 : Int32) yr0)) < y3 then (F_X12_asks_x_26 n y1 y4 (if (F_X12_asks_x_58 26 y1 y2 y3 y4 (0 : Int32) (0 : Int32) yr0) < ((F_J6_bitCount_0f7a4 y1) - (F_X12_asks_x_58 26 y1 y2 y3 y4 (0 : Int32) (0 : Int32) yr0)) then ((F_J6_bitCount_0f7a4 y1) - (F_X12_asks_x_58 26 y1 y2 y3 y4 (0 : Int32) (0 : Int32) yr0)) else (F_X12_asks_x_58 26 y1 y2 y3 y4 (0 : Int32) (0 : Int32) yr0)) (y4 + (1 : Int32)) yr0) else (F_X12_asks_x_26 n y1 y2 y3 (y4 + (1 : Int32)) yr0)) else (F_X12_asks_x_26 n y1 y2 y3 (y4 + (1 : Int32)) yr0)))
def F_X12_asks_x (r0 : Nat → Int32) : Int32 := (if (F_X12_fitting_x r0) = (0 : Int32) then (-2 : Int32) else (tu2 (F_X12_asks_x_26 52 (F_X12_fitting_x r0) (-1 : Int32) (1000000 : Int32) (0 : Int32) r0) (fun z7 z8 => z7)))
set_option maxHeartbeats 4000000 in
set_option maxRecDepth 100000 in
theorem c_X12_asks_x (l : Launch) (g : Gx) (Ty : TyM) (G : Gh) (sz : Nat) (h0 : Nat) (k_h0 : Ty h0 = some (22, 0)) (Bd : Int) (hI : OI g Bd G) (hBd : Bd ≤ 1900000) (hLD : LD g) (h133 : G.1 133 = 0) : Met l yX12_asks (wsG yX12_asks cX12_asks 7 (some .int)) ({ frames := 6, cells := 0, slots := 0, locals := 137 }) (PcT g Ty G sz [.ref h0]) (QwI g Ty sz (fun r u => u.1 = Ty ∧ FR [104, 105] [] [] G u.2 ∧ OI g (Bd + 1000) u.2 ∧ F_X12_asks_x (G.2.1 (g.2.2 100)) = r)) 0 0 (AF Ty sz) := by
  refine Met.ofW (cc := cX12_asks) (maxL := 7) (ret := (some .int)) (by decide) rfl ?_
  intro p e s m args below meth c s₁ B hml hv
  obtain ⟨rfl, hsz, hK, hH⟩ := hv
  subst hsz
  have hx := B.exec
  have hb := B.bytes
  have hr := B.returns
  have hts := atoms_spec (ws := (wsG yX12_asks cX12_asks 7 (some .int))) B.pre
  have hG : ∀ w ∈ GW, w.before ([.ref h0] : List Value).toArray s = true := fun w h => hts w (List.mem_cons_of_mem _ h)
  have hown : s.vm.findClass RX12 = some m.cls := findClass_of_methodNamed B.named
  have hlocks := B.notSynchronized
  have hl := lv_entry [.ref h0] (n := 7) (Nat.le_of_ble_eq_true rfl)
  rw [lg_entry_eq]
  generalize (lg_sl [.ref h0] ++ List.replicate (7 - (lg_sl [.ref h0]).length) Slot.unset).toArray = ls at hl ⊢
  have hl : lv_has ls 7 [(0, .ref h0)] := hl
  have hmk : mdK g Ty := mdk_of hH k_h0
  have hv : (if (F_X12_fitting_x (G.2.1 (g.2.2 100))) = (0 : Int32) then (-2 : Int32) else (tu2 (F_X12_asks_x_26 52 (F_X12_fitting_x (G.2.1 (g.2.2 100))) (-1 : Int32) (1000000 : Int32) (0 : Int32) (G.2.1 (g.2.2 100))) (fun z5 z6 => z5))) = F_X12_asks_x (G.2.1 (g.2.2 100)) := rfl
  have hS : va_S (AF Ty s.heap.size) s.heap s.heap [] := va_S.rf
  obtain ⟨⟨σ0, hTS0⟩, h10, hBB0⟩ := id hI.ti
  obtain ⟨ρ, hT⟩ := hTS0.1
  have L_26 : ∀ (n_26 : Nat) (H : Heap) (locs : List Loc) (G_26 : Gh) (y1_26 : Int32) (y2_26 : Int32) (y3_26 : Int32) (y4_26 : Int32) (ls : Array Slot), rgI (0) (32) (G_26.1 104) → FR [104, 105] [] [] G G_26 → rgI (-1) (49) y2_26 → rgI (-2147483648) (1000000) y3_26 → rgI (0) (50) y4_26 → SB (G.2.1 (g.2.2 100)) y1_26 → (50 - (y4_26).toInt).toNat < n_26 → lv_has ls 7 [(0, .ref h0), (1, .int y1_26), (2, .int y2_26), (3, .int y3_26), (4, .int y4_26)] → (tu2 (F_X12_asks_x_26 n_26 y1_26 y2_26 y3_26 y4_26 (G.2.1 (g.2.2 100))) (fun z1 z2 => z1)) = F_X12_asks_x (G.2.1 (g.2.2 100)) → HT g Ty G_26 H → va_S (AF Ty s.heap.size) s.heap H locs → Wm p l e (wsG yX12_asks cX12_asks 7 (some .int)) ({ frames := 6, cells := 0, slots := 0, locals := 137 }) s m [.ref h0] below meth c H locs (0) (0) (QwI g Ty s.heap.size (fun r u => u.1 = Ty ∧ FR [104, 105] [] [] G u.2 ∧ OI g (Bd + 1000) u.2 ∧ F_X12_asks_x (G.2.1 (g.2.2 100)) = r)) 0 0 (AF Ty s.heap.size) (F0 m 26 ls []) := by
    intro n_26
    induction n_26 with
    | zero => intro H locs G_26 y1_26 y2_26 y3_26 y4_26 ls rg104_26 frL_26 ry2_26 ry3_26 ry4_26 hi0_26 hm; exact absurd hm (Nat.not_lt_zero _)
    | succ n_26 ih_26 =>
      intro H locs G_26 y1_26 y2_26 y3_26 y4_26 ls rg104_26 frL_26 ry2_26 ry3_26 ry4_26 hi0_26 hm_26 hl hv hH hS
      have L_58 : ∀ (n_58 : Nat) (H : Heap) (locs : List Loc) (G_58 : Gh) (y5_58 : Int32) (y6_58 : Int32) (ls : Array Slot), rgI (0) (32) (G_58.1 104) → FR [104, 105] [] [] G G_58 → rgI (-1) (49) y2_26 → rgI (-2147483648) (1000000) y3_26 → rgI (0) (49) y4_26 → rgI (0) (24) y6_58 → (24 - (y6_58).toInt).toNat < n_58 → lv_has ls 7 [(0, .ref h0), (1, .int y1_26), (2, .int y2_26), (3, .int y3_26), (4, .int y4_26), (5, .int y5_58), (6, .int y6_58)] → (tu2 (if (if (F_X12_asks_x_58 n_58 y1_26 y2_26 y3_26 y4_26 y5_58 y6_58 (G.2.1 (g.2.2 100))) < ((F_J6_bitCount_0f7a4 y1_26) - (F_X12_asks_x_58 n_58 y1_26 y2_26 y3_26 y4_26 y5_58 y6_58 (G.2.1 (g.2.2 100)))) then ((F_J6_bitCount_0f7a4 y1_26) - (F_X12_asks_x_58 n_58 y1_26 y2_26 y3_26 y4_26 y5_58 y6_58 (G.2.1 (g.2.2 100)))) else (F_X12_asks_x_58 n_58 y1_26 y2_26 y3_26 y4_26 y5_58 y6_58 (G.2.1 (g.2.2 100)))) < y3_26 then (F_X12_asks_x_26 n_26 y1_26 y4_26 (if (F_X12_asks_x_58 n_58 y1_26 y2_26 y3_26 y4_26 y5_58 y6_58 (G.2.1 (g.2.2 100))) < ((F_J6_bitCount_0f7a4 y1_26) - (F_X12_asks_x_58 n_58 y1_26 y2_26 y3_26 y4_26 y5_58 y6_58 (G.2.1 (g.2.2 100)))) then ((F_J6_bitCount_0f7a4 y1_26) - (F_X12_asks_x_58 n_58 y1_26 y2_26 y3_26 y4_26 y5_58 y6_58 (G.2.1 (g.2.2 100)))) else (F_X12_asks_x_58 n_58 y1_26 y2_26 y3_26 y4_26 y5_58 y6_58 (G.2.1 (g.2.2 100)))) (y4_26 + (1 : Int32)) (G.2.1 (g.2.2 100))) else (F_X12_asks_x_26 n_26 y1_26 y2_26 y3_26 (y4_26 + (1 : Int32)) (G.2.1 (g.2.2 100)))) (fun z3 z4 => z3)) = F_X12_asks_x (G.2.1 (g.2.2 100)) → HT g Ty G_58 H → va_S (AF Ty s.heap.size) s.heap H locs → Wm p l e (wsG yX12_asks cX12_asks 7 (some .int)) ({ frames := 6, cells := 0, slots := 0, locals := 137 }) s m [.ref h0] below meth c H locs (0) (0) (QwI g Ty s.heap.size (fun r u => u.1 = Ty ∧ FR [104, 105] [] [] G u.2 ∧ OI g (Bd + 1000) u.2 ∧ F_X12_asks_x (G.2.1 (g.2.2 100)) = r)) 0 0 (AF Ty s.heap.size) (F0 m 58 ls []) := by
        intro n_58
        induction n_58 with
        | zero => intro H locs G_58 y5_58 y6_58 ls rg104_58 frL_58 ry2_58 ry3_58 ry4_58 ry6_58 hm; exact absurd hm (Nat.not_lt_zero _)
        | succ n_58 ih_58 =>
          intro H locs G_58 y5_58 y6_58 ls rg104_58 frL_58 ry2_58 ry3_58 ry4_58 ry6_58 hm_58 hl hv hH hS
          rw [F_X12_asks_x_58] at hv
          refine lv_iload hx hb dX12_asks_58 (lv_at hl 6 rfl) ?_
          refine lv_bipush (v := 24) hx hb dX12_asks_60 (by decide) ?_
          refine lv_icmp_ge (tgt := 109) hx hb dX12_asks_62 (by decide) (fun c_1 => ?_) (fun c_1 => ?_)
          · rw [if_pos c_1] at hv
            have r_2 : rgI (24) (24) y6_58 := rg_w (rg_leR rl_24 ry6_58 c_1) (by decide) (by decide)
            refine lv_iload hx hb dX12_asks_109 (lv_at hl 5 rfl) ?_
            refine lv_iload_n hx hb dX12_asks_111 rfl (lv_at hl 1 rfl) ?_
            refine vp_callSi (W.runS (As := [.int y1_26]) (rest := [.int y5_58]) ⟨hx, hb, hml, hown, hts⟩ (c_J6_bitCount_x l g Ty G_58 y1_26 ) (cwSx 1 hts hG (gwC mw_620) mw_99 mw_1553 mw_619 rfl rfl rfl hd_J6_bitCount_0f7a4 ⟨Nat.le_of_ble_eq_true rfl, Nat.le_of_ble_eq_true rfl⟩) ⟨PcH_blind, PcH_pre hK hH⟩ rfl rfl hl.1 rfl (lv_room (Nat.le_of_ble_eq_true rfl)) dX12_asks_112 ⟨Nat.zero_le _, Nat.zero_le _⟩) (fun x_3 hx_3 => ?_)
            have rx_3 : rgI (0) (63) x_3 := hx_3.1
            try rw [← hx_3.2] at hv
            try rw [← hx_3.2] at hv
            refine lv_iload hx hb dX12_asks_115 (lv_at hl 5 rfl) ?_
            refine lv_isub hx hb dX12_asks_117 ?_
            refine lv_topi (fun x_4 ex_4 => ?_)
            try rw [← ex_4] at hv
            refine va_mmax hx hb (by rw [hml]; exact hl.1.symm) hown (hG _ mw_1741) (hG _ mw_473) (hG _ mw_91) (hG _ mw_474) (Nat.le_of_ble_eq_true rfl) (Nat.le_of_ble_eq_true rfl) (Nat.le_of_ble_eq_true rfl) (Nat.le_of_ble_eq_true rfl) dX12_asks_118 ?_
            refine lv_topi (fun x_5 ex_5 => ?_)
            try rw [← ex_5] at hv
            refine lv_istore (lv' := [(6, .int x_5), (0, .ref h0), (1, .int y1_26), (2, .int y2_26), (3, .int y3_26), (4, .int y4_26), (5, .int y5_58)]) hx hb dX12_asks_121 hl (by decide) rfl (fun ls hl => ?_)
            refine lv_iload hx hb dX12_asks_123 (lv_at hl 0 rfl) ?_
            refine lv_iload_n hx hb dX12_asks_125 rfl (lv_at hl 4 rfl) ?_
            refine lv_icmp_lt (tgt := 132) hx hb dX12_asks_126 (by decide) (fun c_6 => ?_) (fun c_6 => ?_)
            · rw [if_pos c_6] at hv
              have r_7 : rgI (-2147483648) (999999) x_5 := rg_w (rg_ltL (rg_top x_5) ry3_58 c_6) (by decide) (by decide)
              have r_8 : rgI (-2147483647) (1000000) y3_26 := rg_w (rg_ltR (rg_top x_5) ry3_58 c_6) (by decide) (by decide)
              refine lv_iload hx hb dX12_asks_132 (lv_at hl 5 rfl) ?_
              refine lv_istore_n (lv' := [(2, .int y4_26), (6, .int x_5), (0, .ref h0), (1, .int y1_26), (3, .int y3_26), (4, .int y4_26), (5, .int y5_58)]) hx hb dX12_asks_134 rfl hl (by decide) rfl (fun ls hl => ?_)
              refine lv_iload hx hb dX12_asks_135 (lv_at hl 1 rfl) ?_
              refine lv_istore_n (lv' := [(3, .int x_5), (2, .int y4_26), (6, .int x_5), (0, .ref h0), (1, .int y1_26), (4, .int y4_26), (5, .int y5_58)]) hx hb dX12_asks_137 rfl hl (by decide) rfl (fun ls hl => ?_)
              obtain ⟨x_9, ex_9⟩ : ∃ y : Int32, y = y4_26 + 1 := ⟨_, rfl⟩
              try rw [← ex_9] at hv
              have rx_9 : rgI (1) (50) x_9 := by rw [ex_9]; exact rg_w (rg_add ry4_58 rl_1 (by decide) (by decide)) (by decide) (by decide)
              have qx_9 : x_9.toInt = (y4_26 : Int32).toInt + 1 := by rw [ex_9]; exact rg_addE ry4_58 rl_1 (by decide) (by decide)
              refine lv_iinc (v := x_9) (lv' := [(4, .int x_9), (3, .int x_5), (2, .int y4_26), (6, .int x_5), (0, .ref h0), (1, .int y1_26), (5, .int y5_58)]) hx hb dX12_asks_138 hl (k := 5) rfl (by rw [ex_9]; rfl) (by decide) rfl (fun ls hl => ?_)
              refine lv_goto (tgt := 26) hx hb dX12_asks_141 (by decide) ?_
              exact ih_26 H locs G_58 y1_26 y4_26 x_5 x_9 ls (rg_w rg104_58 (by decide) (by decide)) frL_58 (rg_w ry4_58 (by decide) (by decide)) (rg_w r_7 (by decide) (by decide)) (rg_w rx_9 (by decide) (by decide)) hi0_26 (by have h1 := qx_9; have h2 := ry4_58.1; have h3 := ry4_58.2; have h4 := hm_26; omega) (lv_sub hl [4, 5, 2, 1, 0] rfl) hv hH hS
            · rw [if_neg c_6] at hv
              refine lv_goto (tgt := 138) hx hb dX12_asks_129 (by decide) ?_
              obtain ⟨x_10, ex_10⟩ : ∃ y : Int32, y = y4_26 + 1 := ⟨_, rfl⟩
              try rw [← ex_10] at hv
              have rx_10 : rgI (1) (50) x_10 := by rw [ex_10]; exact rg_w (rg_add ry4_58 rl_1 (by decide) (by decide)) (by decide) (by decide)
              have qx_10 : x_10.toInt = (y4_26 : Int32).toInt + 1 := by rw [ex_10]; exact rg_addE ry4_58 rl_1 (by decide) (by decide)
              refine lv_iinc (v := x_10) (lv' := [(4, .int x_10), (6, .int x_5), (0, .ref h0), (1, .int y1_26), (2, .int y2_26), (3, .int y3_26), (5, .int y5_58)]) hx hb dX12_asks_138 hl (k := 5) rfl (by rw [ex_10]; rfl) (by decide) rfl (fun ls hl => ?_)
              refine lv_goto (tgt := 26) hx hb dX12_asks_141 (by decide) ?_
              exact ih_26 H locs G_58 y1_26 y2_26 y3_26 x_10 ls (rg_w rg104_58 (by decide) (by decide)) frL_58 ry2_58 ry3_58 (rg_w rx_10 (by decide) (by decide)) hi0_26 (by have h1 := qx_10; have h2 := ry4_58.1; have h3 := ry4_58.2; have h4 := hm_26; omega) (lv_sub hl [2, 3, 4, 5, 0] rfl) hv hH hS
          · rw [if_neg c_1] at hv
            have r_11 : rgI (0) (23) y6_58 := rg_w (rg_ltL ry6_58 rl_24 (nle_lt c_1)) (by decide) (by decide)
            refine lv_iload hx hb dX12_asks_65 (lv_at hl 5 rfl) ?_
            refine lv_iload_n hx hb dX12_asks_67 rfl (lv_at hl 1 rfl) ?_
            refine lv_iload hx hb dX12_asks_68 (lv_at hl 6 rfl) ?_
            refine vp_callSi (W.runS (As := [.int y1_26, .int y6_58]) (rest := [.int y5_58]) ⟨hx, hb, hml, hown, hts⟩ (c_X12_has l g Ty G_58 y1_26 y6_58 ) (cwSx 2 hts hG (gwC mw_1563) mw_88 mw_1561 mw_1562 rfl rfl rfl hd_X12_has ⟨Nat.le_of_ble_eq_true rfl, Nat.le_of_ble_eq_true rfl⟩) ⟨PcH_blind, PcH_pre hK hH⟩ rfl rfl hl.1 rfl (lv_room (Nat.le_of_ble_eq_true rfl)) dX12_asks_70 ⟨Nat.zero_le _, Nat.zero_le _⟩) (fun x_12 hx_12 => ?_)
            have rx_12 : rgI (0) (1) x_12 := hx_12.1
            try rw [← hx_12.2] at hv
            try rw [← hx_12.2] at hv
            refine lv_if_eq (tgt := 99) hx hb dX12_asks_73 (by decide) (fun c_13 => ?_) (fun c_13 => ?_)
            · rw [if_pos c_13] at hv
              have r_14 : rgI (0) (0) x_12 := rg_w (rg_eq rl_0 c_13) (by decide) (by decide)
              have hb_15 : bt y1_26 (y6_58 : Int32).toNatClampNeg = false := has_0 (rg_w r_11 (by decide) (by decide)) (by rw [← hx_12.2]; exact c_13)
              refine lv_iconst (v := 0) hx hb dX12_asks_99 (by decide) ?_
              refine lv_iadd hx hb dX12_asks_100 ?_
              refine lv_topi (fun x_16 ex_16 => ?_)
              try rw [← ex_16] at hv
              refine lv_istore (lv' := [(5, .int x_16), (0, .ref h0), (1, .int y1_26), (2, .int y2_26), (3, .int y3_26), (4, .int y4_26), (6, .int y6_58)]) hx hb dX12_asks_101 hl (by decide) rfl (fun ls hl => ?_)
              obtain ⟨x_17, ex_17⟩ : ∃ y : Int32, y = y6_58 + 1 := ⟨_, rfl⟩
              try rw [← ex_17] at hv
              have rx_17 : rgI (1) (24) x_17 := by rw [ex_17]; exact rg_w (rg_add r_11 rl_1 (by decide) (by decide)) (by decide) (by decide)
              have qx_17 : x_17.toInt = (y6_58 : Int32).toInt + 1 := by rw [ex_17]; exact rg_addE r_11 rl_1 (by decide) (by decide)
              refine lv_iinc (v := x_17) (lv' := [(6, .int x_17), (5, .int x_16), (0, .ref h0), (1, .int y1_26), (2, .int y2_26), (3, .int y3_26), (4, .int y4_26)]) hx hb dX12_asks_103 hl (k := 6) rfl (by rw [ex_17]; rfl) (by decide) rfl (fun ls hl => ?_)
              refine lv_goto (tgt := 58) hx hb dX12_asks_106 (by decide) ?_
              exact ih_58 H locs G_58 x_16 x_17 ls (rg_w rg104_58 (by decide) (by decide)) frL_58 ry2_58 ry3_58 ry4_58 (rg_w rx_17 (by decide) (by decide)) (by have h1 := qx_17; have h2 := r_11.1; have h3 := r_11.2; have h4 := hm_58; omega) (lv_sub hl [2, 3, 4, 5, 6, 1, 0] rfl) hv hH hS
            · rw [if_neg c_13] at hv
              have r_18 : rgI (1) (1) x_12 := rg_w (rg_neL rx_12 rl_0 c_13) (by decide) (by decide)
              have hb_19 : bt y1_26 (y6_58 : Int32).toNatClampNeg = true := has_1 (rg_w r_11 (by decide) (by decide)) (by rw [← hx_12.2]; exact c_13)
              have th_20 : thr (G.2.1 (g.2.2 100)) y6_58 := SB.th hi0_26 r_11 hb_19
              refine lv_aload_n hx hb dX12_asks_76 rfl (lv_at hl 0 rfl) ?_
              refine lv_iload hx hb dX12_asks_77 (lv_at hl 6 rfl) ?_
              refine lv_iload hx hb dX12_asks_79 (lv_at hl 4 rfl) ?_
              refine lv_bipush (v := 10) hx hb dX12_asks_81 (by decide) ?_
              refine lv_idiv hx hb dX12_asks_83 (by decide) ?_
              refine lv_topi (fun x_21 ex_21 => ?_)
              try rw [← ex_21] at hv
              have rx_21 : rgI (0) (4) x_21 := by rw [ex_21]; exact rg_w (rg_div ry4_58 rl_10 (by decide) (by decide)) (by decide) (by decide)
              try rw [← ex_21] at hv
              refine lv_iload hx hb dX12_asks_84 (lv_at hl 4 rfl) ?_
              refine lv_bipush (v := 10) hx hb dX12_asks_86 (by decide) ?_
              refine lv_irem hx hb dX12_asks_88 (by decide) ?_
              refine lv_topi (fun x_22 ex_22 => ?_)
              try rw [← ex_22] at hv
              have rx_22 : rgI (0) (9) x_22 := by rw [ex_22]; exact rg_w (rg_rem ry4_58 rl_10 (by decide) (by decide)) (by decide) (by decide)
              try rw [show jrem y4_26 10 = x_22 from ex_22.symm] at hv
              obtain ⟨_, ⟨rfl, t_24, hk_25⟩, o_c_23⟩ := hH h0 _ k_h0
              refine vp_callSi (W.runV (As := [.int y6_58, .int x_21, .int x_22]) (rest := [.int y5_58]) ⟨hx, hb, hml, hown, hts⟩ (c_X12_isSo_x l g Ty G_58 h0 y6_58 x_21 x_22 k_h0 (rg_w r_11 (by decide) (by decide)) Bd ⟨(by rw [(frL_58.1 102 (by decide))]; exact (rg_w hI.a102 (by decide) (by decide))), (rg_w rg104_58 (by decide) (by decide)), (by rw [(frL_58.1 113 (by decide))]; exact (rg_w hI.a113 (by decide) (by decide))), (by rw [(frL_58.1 122 (by decide))]; exact (rg_w hI.a122 (by decide) (by decide))), (by rw [((frL_58.1 133 (by decide)).trans h133)]; exact (rg_w rl_0 (by decide) (by decide))), (by rw [(frL_58.1 137 (by decide))]; exact (rg_w hI.a137 (by decide) (by decide))), ((frL_58.2.2 111 (by decide)).trans hI.r111), ((frL_58.2.2 112 (by decide)).trans hI.r112), (by rw [(frL_58.2.1 (g.2.2 100) trivial)]; exact (hI.ti.hi (show Bd ≤ Bd by omega))), (hI.un2 (show Bd ≤ Bd by omega) (frL_58.2.1 (g.2.2 121) trivial) (frL_58.1 122 (by decide))), (hI.ke2 (show Bd ≤ Bd by omega) (frL_58.2.1 (g.2.2 140) trivial) (frL_58.2.1 (g.2.2 141) trivial))⟩ hBd hLD (by rw [(frL_58.2.1 (g.2.2 100) trivial)]; exact th_20)) (cwV 3 hts (gwV mw_1789 mw_1791 mw_70 mw_88 mw_1792) rfl rfl rfl hv_X12_isSo ⟨Nat.le_of_ble_eq_true rfl, Nat.le_of_ble_eq_true rfl⟩) ⟨PcH_blind, hg_recv hK o_c_23 rfl, PcH_pre hK hH⟩ rfl rfl hl.1 rfl (lv_room (Nat.le_of_ble_eq_true rfl)) dX12_asks_89 ⟨Nat.zero_le _, Nat.zero_le _⟩) (fun x_26 hx_26 => ?_)
              have rx_26 : rgI (0) (1) x_26 := hx_26.1
              try rw [← hx_26.2] at hv
              have ex_27 : x_26 = F_X12_isSo_x (G.2.1 (g.2.2 100)) y6_58 x_21 x_22 := hx_26.2.trans (by rw [(frL_58.2.1 (g.2.2 100) trivial)])
              try rw [← ex_27] at hv
              refine lv_if_eq (tgt := 99) hx hb dX12_asks_92 (by decide) (fun c_28 => ?_) (fun c_28 => ?_)
              · rw [if_pos c_28] at hv
                have r_29 : rgI (0) (0) x_26 := rg_w (rg_eq rl_0 c_28) (by decide) (by decide)
                refine lv_iconst (v := 0) hx hb dX12_asks_99 (by decide) ?_
                refine lv_iadd hx hb dX12_asks_100 ?_
                refine lv_topi (fun x_30 ex_30 => ?_)
                try rw [← ex_30] at hv
                refine lv_istore (lv' := [(5, .int x_30), (0, .ref h0), (1, .int y1_26), (2, .int y2_26), (3, .int y3_26), (4, .int y4_26), (6, .int y6_58)]) hx hb dX12_asks_101 hl (by decide) rfl (fun ls hl => ?_)
                obtain ⟨x_31, ex_31⟩ : ∃ y : Int32, y = y6_58 + 1 := ⟨_, rfl⟩
                try rw [← ex_31] at hv
                have rx_31 : rgI (1) (24) x_31 := by rw [ex_31]; exact rg_w (rg_add r_11 rl_1 (by decide) (by decide)) (by decide) (by decide)
                have qx_31 : x_31.toInt = (y6_58 : Int32).toInt + 1 := by rw [ex_31]; exact rg_addE r_11 rl_1 (by decide) (by decide)
                refine lv_iinc (v := x_31) (lv' := [(6, .int x_31), (5, .int x_30), (0, .ref h0), (1, .int y1_26), (2, .int y2_26), (3, .int y3_26), (4, .int y4_26)]) hx hb dX12_asks_103 hl (k := 6) rfl (by rw [ex_31]; rfl) (by decide) rfl (fun ls hl => ?_)
                refine lv_goto (tgt := 58) hx hb dX12_asks_106 (by decide) ?_
                exact ih_58 H locs G_58 x_30 x_31 ls (rg_w rg104_58 (by decide) (by decide)) frL_58 ry2_58 ry3_58 ry4_58 (rg_w rx_31 (by decide) (by decide)) (by have h1 := qx_31; have h2 := r_11.1; have h3 := r_11.2; have h4 := hm_58; omega) (lv_sub hl [2, 3, 4, 5, 6, 1, 0] rfl) hv hH hS
              · rw [if_neg c_28] at hv
                have r_32 : rgI (1) (1) x_26 := rg_w (rg_neL rx_26 rl_0 c_28) (by decide) (by decide)
                refine lv_iconst (v := 1) hx hb dX12_asks_95 (by decide) ?_
                refine lv_goto (tgt := 100) hx hb dX12_asks_96 (by decide) ?_
                refine lv_iadd hx hb dX12_asks_100 ?_
                refine lv_topi (fun x_33 ex_33 => ?_)
                try rw [← ex_33] at hv
                refine lv_istore (lv' := [(5, .int x_33), (0, .ref h0), (1, .int y1_26), (2, .int y2_26), (3, .int y3_26), (4, .int y4_26), (6, .int y6_58)]) hx hb dX12_asks_101 hl (by decide) rfl (fun ls hl => ?_)
                obtain ⟨x_34, ex_34⟩ : ∃ y : Int32, y = y6_58 + 1 := ⟨_, rfl⟩
                try rw [← ex_34] at hv
                have rx_34 : rgI (1) (24) x_34 := by rw [ex_34]; exact rg_w (rg_add r_11 rl_1 (by decide) (by decide)) (by decide) (by decide)
                have qx_34 : x_34.toInt = (y6_58 : Int32).toInt + 1 := by rw [ex_34]; exact rg_addE r_11 rl_1 (by decide) (by decide)
                refine lv_iinc (v := x_34) (lv' := [(6, .int x_34), (5, .int x_33), (0, .ref h0), (1, .int y1_26), (2, .int y2_26), (3, .int y3_26), (4, .int y4_26)]) hx hb dX12_asks_103 hl (k := 6) rfl (by rw [ex_34]; rfl) (by decide) rfl (fun ls hl => ?_)
                refine lv_goto (tgt := 58) hx hb dX12_asks_106 (by decide) ?_
                exact ih_58 H locs G_58 x_33 x_34 ls (rg_w rg104_58 (by decide) (by decide)) frL_58 ry2_58 ry3_58 ry4_58 (rg_w rx_34 (by decide) (by decide)) (by have h1 := qx_34; have h2 := r_11.1; have h3 := r_11.2; have h4 := hm_58; omega) (lv_sub hl [2, 3, 4, 5, 6, 1, 0] rfl) hv hH hS
      rw [F_X12_asks_x_26] at hv
      refine lv_iload hx hb dX12_asks_26 (lv_at hl 4 rfl) ?_
      refine lv_bipush (v := 50) hx hb dX12_asks_28 (by decide) ?_
      refine lv_icmp_ge (tgt := 144) hx hb dX12_asks_30 (by decide) (fun c_35 => ?_) (fun c_35 => ?_)
      · rw [if_pos c_35] at hv
        have r_36 : rgI (50) (50) y4_26 := rg_w (rg_leR rl_50 ry4_26 c_35) (by decide) (by decide)
        rw [tu2_eq] at hv
        refine lv_aload_n hx hb dX12_asks_144 rfl (lv_at hl 0 rfl) ?_
        refine lv_iconst (v := 0) hx hb dX12_asks_145 (by decide) ?_
        obtain ⟨_, ⟨rfl, t_38, hk_39⟩, o_c_37⟩ := hH h0 _ k_h0
        refine hg_put (ty := .int) hx hb hG igX12 tyX12 tyX12_ok nmX12 hown hK hS o_c_37 (AF.of k_h0) rfl 4 (by decide) (hG _ mw_1288) rfl (by decide +kernel) rfl rfl (Nat.le_of_ble_eq_true rfl) dX12_asks_146 (fun H locs o_c_37 hz oq hS => ?_)
        obtain ⟨G_40, eG_40⟩ : ∃ z : Gh, z = gset G_26 104 0 := ⟨_, rfl⟩
        have hH : HT g Ty G_40 H := by rw [eG_40]; exact HT.putN 104 0 hH k_h0 ⟨rfl, t_38, hk_39⟩ o_c_37 oq (Or.inr (Or.inr (Or.inr (Or.inr (Or.inr ⟨by decide, t_38⟩)))))
        have fr_41 : FR [104, 105] [] [] G G_40 := FR.n frL_26 eG_40 (by decide)
        have u_42 : G_40.1 102 = (G.1 102) := by rw [eG_40]; exact (gs_ne (by decide)).trans (frL_26.1 102 (by decide))
        have u_43 : G_40.1 113 = (G.1 113) := by rw [eG_40]; exact (gs_ne (by decide)).trans (frL_26.1 113 (by decide))
        have u_44 : G_40.1 122 = (G.1 122) := by rw [eG_40]; exact (gs_ne (by decide)).trans (frL_26.1 122 (by decide))
        have u_45 : G_40.1 133 = 0 := by rw [eG_40]; exact (gs_ne (by decide)).trans ((frL_26.1 133 (by decide)).trans h133)
        have u_46 : G_40.1 137 = (G.1 137) := by rw [eG_40]; exact (gs_ne (by decide)).trans (frL_26.1 137 (by decide))
        have u_47 : G_40.1 104 = 0 := by rw [eG_40]; exact gs_eq
        have w_48 : G_40.2.1 (g.2.2 100) = (G.2.1 (g.2.2 100)) := by rw [eG_40]; exact (frL_26.2.1 (g.2.2 100) trivial)
        have w_49 : G_40.2.1 (g.2.2 121) = (G.2.1 (g.2.2 121)) := by rw [eG_40]; exact (frL_26.2.1 (g.2.2 121) trivial)
        have w_50 : G_40.2.1 (g.2.2 140) = (G.2.1 (g.2.2 140)) := by rw [eG_40]; exact (frL_26.2.1 (g.2.2 140) trivial)
        have w_51 : G_40.2.1 (g.2.2 141) = (G.2.1 (g.2.2 141)) := by rw [eG_40]; exact (frL_26.2.1 (g.2.2 141) trivial)
        have w_52 : G_40.2.1 (g.2.2 111) = (G.2.1 (g.2.2 111)) := by rw [eG_40]; exact (frL_26.2.1 (g.2.2 111) trivial)
        have u_53 : G_40.2.2 111 = some (g.2.2 111) := by rw [eG_40]; exact ((frL_26.2.2 111 (by decide)).trans hI.r111)
        have u_54 : G_40.2.2 112 = some (g.2.2 112) := by rw [eG_40]; exact ((frL_26.2.2 112 (by decide)).trans hI.r112)
        clear oq hz
        refine lv_aload_n hx hb dX12_asks_149 rfl (lv_at hl 0 rfl) ?_
        refine lv_iload_n hx hb dX12_asks_150 rfl (lv_at hl 3 rfl) ?_
        refine lv_i2l hx hb dX12_asks_151 rfl ?_
        refine lv_topl (fun u_55 eu_55 => ?_)
        obtain ⟨_, ⟨rfl, t_57, hk_58⟩, o_c_56⟩ := hH h0 _ k_h0
        refine va_callv (va_runV (As := [.long u_55]) (rest := []) ⟨hx, hb, hml, hown, hts⟩ (c_X12_tell l g Ty G_40 H.size h0 u_55 k_h0 (by rw [u_47]; exact rg_w rl_0 (by decide) (by decide))) (cwV 1 hts (gwV mw_1510 mw_1512 mw_48 mw_88 mw_1513) rfl rfl rfl hv_X12_tell ⟨Nat.le_of_ble_eq_true rfl, Nat.le_of_ble_eq_true rfl⟩) ⟨PcT_blind, hg_recv hK o_c_56 rfl, PcT_pre hK hH⟩ rfl rfl hl.1 rfl (lv_room (Nat.le_of_ble_eq_true rfl)) dX12_asks_152 ⟨Nat.zero_le _, Nat.zero_le _⟩) hS (fun q _ h => AF.mono hS.1 h) (fun q h => AF.mono hS.1 h) (fun ux_59 t H locs ht hvm hx_59 hB hz hk hS => ?_)
        obtain ⟨eTx_59, eGx_59⟩ := hx_59
        obtain ⟨G_60, eG_60⟩ : ∃ z, z = ux_59.2 := ⟨_, rfl⟩
        rw [← eG_60] at eGx_59
        obtain ⟨x_61, ex_61⟩ : ∃ z : Int32, z = 0 + 1 := ⟨_, rfl⟩
        have e_62 : G_60 = gset G_40 104 x_61 := by rw [ex_61, ← u_47]; exact eGx_59
        have rx_61 : rgI (1) (1) x_61 := by rw [ex_61]; exact rg_w (rg_add rl_0 rl_1 (by decide) (by decide)) (by decide) (by decide)
        have fr_63 : FR [104, 105] [] [] G G_60 := FR.n fr_41 e_62 (by decide)
        have u_64 : G_60.1 102 = (G.1 102) := by rw [e_62]; exact (gs_ne (by decide)).trans u_42
        have u_65 : G_60.1 113 = (G.1 113) := by rw [e_62]; exact (gs_ne (by decide)).trans u_43
        have u_66 : G_60.1 122 = (G.1 122) := by rw [e_62]; exact (gs_ne (by decide)).trans u_44
        have u_67 : G_60.1 133 = 0 := by rw [e_62]; exact (gs_ne (by decide)).trans u_45
        have u_68 : G_60.1 137 = (G.1 137) := by rw [e_62]; exact (gs_ne (by decide)).trans u_46
        have u_69 : G_60.1 104 = x_61 := by rw [e_62]; exact gs_eq
        have w_70 : G_60.2.1 (g.2.2 100) = (G.2.1 (g.2.2 100)) := by rw [e_62]; exact w_48
        have w_71 : G_60.2.1 (g.2.2 121) = (G.2.1 (g.2.2 121)) := by rw [e_62]; exact w_49
        have w_72 : G_60.2.1 (g.2.2 140) = (G.2.1 (g.2.2 140)) := by rw [e_62]; exact w_50
        have w_73 : G_60.2.1 (g.2.2 141) = (G.2.1 (g.2.2 141)) := by rw [e_62]; exact w_51
        have w_74 : G_60.2.1 (g.2.2 111) = (G.2.1 (g.2.2 111)) := by rw [e_62]; exact w_52
        have u_75 : G_60.2.2 111 = some (g.2.2 111) := by rw [e_62]; exact u_53
        have u_76 : G_60.2.2 112 = some (g.2.2 112) := by rw [e_62]; exact u_54
        have hH : HT g Ty G_60 H := by rw [← ht, ← eTx_59, eG_60]; exact hB
        refine lv_iload_n hx hb dX12_asks_155 rfl (lv_at hl 2 rfl) ?_
        exact W.iret hx hb hr (fun t ht hWm => ⟨⟨y2_26, (Ty, G_60), rfl, ⟨rfl, ⟨fr_63, ⟨⟨(by rw [u_64]; exact (rg_w hI.a102 (by decide) (by decide))), (by rw [u_69]; exact (rg_w rx_61 (by decide) (by decide))), (by rw [u_65]; exact (rg_w hI.a113 (by decide) (by decide))), (by rw [u_66]; exact (rg_w hI.a122 (by decide) (by decide))), (by rw [u_67]; exact (rg_w rl_0 (by decide) (by decide))), (by rw [u_68]; exact (rg_w hI.a137 (by decide) (by decide))), u_75, u_76, (by rw [w_70]; exact (hI.ti.hi (show Bd ≤ Bd + 1000 by omega))), (hI.un2 (show Bd ≤ Bd + 1000 by omega) w_71 u_66), (hI.ke2 (show Bd ≤ Bd + 1000 by omega) w_72 w_73)⟩, hv.symm⟩⟩⟩, by show HT g Ty G_60 t.heap; rw [ht]; exact hH⟩, hS.F ht⟩) hS.2.2 dX12_asks_156
      · rw [if_neg c_35] at hv
        have r_77 : rgI (0) (49) y4_26 := rg_w (rg_ltL ry4_26 rl_50 (nle_lt c_35)) (by decide) (by decide)
        refine lv_iload hx hb dX12_asks_33 (lv_at hl 4 rfl) ?_
        refine lv_bipush (v := 10) hx hb dX12_asks_35 (by decide) ?_
        refine lv_irem hx hb dX12_asks_37 (by decide) ?_
        refine lv_topi (fun x_78 ex_78 => ?_)
        try rw [← ex_78] at hv
        have rx_78 : rgI (0) (9) x_78 := by rw [ex_78]; exact rg_w (rg_rem r_77 rl_10 (by decide) (by decide)) (by decide) (by decide)
        try rw [show jrem y4_26 10 = x_78 from ex_78.symm] at hv
        refine lv_iload hx hb dX12_asks_38 (lv_at hl 4 rfl) ?_
        refine lv_bipush (v := 10) hx hb dX12_asks_40 (by decide) ?_
        refine lv_idiv hx hb dX12_asks_42 (by decide) ?_
        refine lv_topi (fun x_79 ex_79 => ?_)
        try rw [← ex_79] at hv
        have rx_79 : rgI (0) (4) x_79 := by rw [ex_79]; exact rg_w (rg_div r_77 rl_10 (by decide) (by decide)) (by decide) (by decide)
        try rw [← ex_79] at hv
        refine vp_callSi (W.runS (As := [.int x_79]) (rest := [.int x_78]) ⟨hx, hb, hml, hown, hts⟩ (c_X12_highOf l g Ty G_26 x_79 ) (cwSx 1 hts hG (gwC mw_1776) mw_88 mw_1774 mw_1775 rfl rfl rfl hd_X12_highOf ⟨Nat.le_of_ble_eq_true rfl, Nat.le_of_ble_eq_true rfl⟩) ⟨PcH_blind, PcH_pre hK hH⟩ rfl rfl hl.1 rfl (lv_room (Nat.le_of_ble_eq_true rfl)) dX12_asks_43 ⟨Nat.zero_le _, Nat.zero_le _⟩) (fun x_80 hx_80 => ?_)
        have rx_80 : rgI (4) (9) x_80 := hx_80.1
        try rw [← hx_80.2] at hv
        try rw [← hx_80.2] at hv
        refine lv_icmp_le (tgt := 52) hx hb dX12_asks_46 (by decide) (fun c_81 => ?_) (fun c_81 => ?_)
        · rw [if_pos c_81] at hv
          refine lv_iconst (v := 0) hx hb dX12_asks_52 (by decide) ?_
          refine lv_istore (lv' := [(5, .int 0), (0, .ref h0), (1, .int y1_26), (2, .int y2_26), (3, .int y3_26), (4, .int y4_26)]) hx hb dX12_asks_53 hl (by decide) rfl (fun ls hl => ?_)
          refine lv_iconst (v := 0) hx hb dX12_asks_55 (by decide) ?_
          refine lv_istore (lv' := [(6, .int 0), (5, .int 0), (0, .ref h0), (1, .int y1_26), (2, .int y2_26), (3, .int y3_26), (4, .int y4_26)]) hx hb dX12_asks_56 hl (by decide) rfl (fun ls hl => ?_)
          exact L_58 26 H locs G_26 0 0 ls (rg_w rg104_26 (by decide) (by decide)) frL_26 ry2_26 ry3_26 r_77 (rg_w rl_0 (by decide) (by decide)) (by decide) (lv_sub hl [2, 3, 4, 5, 6, 1, 0] rfl) hv hH hS
        · rw [if_neg c_81] at hv
          have r_82 : rgI (4) (8) x_80 := rg_w (rg_ltL rx_80 rx_78 (nle_lt c_81)) (by decide) (by decide)
          have r_83 : rgI (5) (9) x_78 := rg_w (rg_ltR rx_80 rx_78 (nle_lt c_81)) (by decide) (by decide)
          refine lv_goto (tgt := 138) hx hb dX12_asks_49 (by decide) ?_
          obtain ⟨x_84, ex_84⟩ : ∃ y : Int32, y = y4_26 + 1 := ⟨_, rfl⟩
          try rw [← ex_84] at hv
          have rx_84 : rgI (1) (50) x_84 := by rw [ex_84]; exact rg_w (rg_add r_77 rl_1 (by decide) (by decide)) (by decide) (by decide)
          have qx_84 : x_84.toInt = (y4_26 : Int32).toInt + 1 := by rw [ex_84]; exact rg_addE r_77 rl_1 (by decide) (by decide)
          refine lv_iinc (v := x_84) (lv' := [(4, .int x_84), (0, .ref h0), (1, .int y1_26), (2, .int y2_26), (3, .int y3_26)]) hx hb dX12_asks_138 hl (k := 4) rfl (by rw [ex_84]; rfl) (by decide) rfl (fun ls hl => ?_)
          refine lv_goto (tgt := 26) hx hb dX12_asks_141 (by decide) ?_
          exact ih_26 H locs G_26 y1_26 y2_26 y3_26 x_84 ls (rg_w rg104_26 (by decide) (by decide)) frL_26 ry2_26 ry3_26 (rg_w rx_84 (by decide) (by decide)) hi0_26 (by have h1 := qx_84; have h2 := r_77.1; have h3 := r_77.2; have h4 := hm_26; omega) (lv_sub hl [1, 2, 3, 4, 0] rfl) hv hH hS
  refine lv_aload_n hx hb dX12_asks_0 rfl (lv_at hl 0 rfl) ?_
  refine lv_iconst (v := 0) hx hb dX12_asks_1 (by decide) ?_
  obtain ⟨_, ⟨rfl, t_86, hk_87⟩, o_c_85⟩ := hH h0 _ k_h0
  refine hg_put (ty := .int) hx hb hG igX12 tyX12 tyX12_ok nmX12 hown hK hS o_c_85 (AF.of k_h0) rfl 5 (by decide) (hG _ mw_1289) rfl (by decide +kernel) rfl rfl (Nat.le_of_ble_eq_true rfl) dX12_asks_2 (fun H locs o_c_85 hz oq hS => ?_)
  obtain ⟨G_88, eG_88⟩ : ∃ z : Gh, z = gset G 105 0 := ⟨_, rfl⟩
  have hH : HT g Ty G_88 H := by rw [eG_88]; exact HT.putN 105 0 hH k_h0 ⟨rfl, t_86, hk_87⟩ o_c_85 oq (Or.inr (Or.inr (Or.inr (Or.inr (Or.inr ⟨by decide, t_86⟩)))))
  have fr_89 : FR [104, 105] [] [] G G_88 := FR.n FR.rf eG_88 (by decide)
  have u_90 : G_88.1 102 = (G.1 102) := by rw [eG_88]; exact (gs_ne (by decide))
  have u_91 : G_88.1 104 = (G.1 104) := by rw [eG_88]; exact (gs_ne (by decide))
  have u_92 : G_88.1 113 = (G.1 113) := by rw [eG_88]; exact (gs_ne (by decide))
  have u_93 : G_88.1 122 = (G.1 122) := by rw [eG_88]; exact (gs_ne (by decide))
  have u_94 : G_88.1 133 = 0 := by rw [eG_88]; exact (gs_ne (by decide)).trans h133
  have u_95 : G_88.1 137 = (G.1 137) := by rw [eG_88]; exact (gs_ne (by decide))
  have u_96 : G_88.1 105 = 0 := by rw [eG_88]; exact gs_eq
  have w_97 : G_88.2.1 (g.2.2 100) = (G.2.1 (g.2.2 100)) := by rw [eG_88]; exact rfl
  have w_98 : G_88.2.1 (g.2.2 121) = (G.2.1 (g.2.2 121)) := by rw [eG_88]; exact rfl
  have w_99 : G_88.2.1 (g.2.2 140) = (G.2.1 (g.2.2 140)) := by rw [eG_88]; exact rfl
  have w_100 : G_88.2.1 (g.2.2 141) = (G.2.1 (g.2.2 141)) := by rw [eG_88]; exact rfl
  have w_101 : G_88.2.1 (g.2.2 111) = (G.2.1 (g.2.2 111)) := by rw [eG_88]; exact rfl
  have u_102 : G_88.2.2 111 = some (g.2.2 111) := by rw [eG_88]; exact hI.r111
  have u_103 : G_88.2.2 112 = some (g.2.2 112) := by rw [eG_88]; exact hI.r112
  clear oq hz
  refine lv_aload_n hx hb dX12_asks_5 rfl (lv_at hl 0 rfl) ?_
  obtain ⟨_, ⟨rfl, t_105, hk_106⟩, o_c_104⟩ := hH h0 _ k_h0
  refine vp_callSi (W.runV (As := []) (rest := []) ⟨hx, hb, hml, hown, hts⟩ (c_X12_fitting_x l g Ty G_88 h0 k_h0 Bd ⟨(by rw [u_90]; exact (rg_w hI.a102 (by decide) (by decide))), (by rw [u_91]; exact (rg_w hI.a104 (by decide) (by decide))), (by rw [u_92]; exact (rg_w hI.a113 (by decide) (by decide))), (by rw [u_93]; exact (rg_w hI.a122 (by decide) (by decide))), (by rw [u_94]; exact (rg_w rl_0 (by decide) (by decide))), (by rw [u_95]; exact (rg_w hI.a137 (by decide) (by decide))), u_102, u_103, (by rw [w_97]; exact (hI.ti.hi (show Bd ≤ Bd by omega))), (hI.un2 (show Bd ≤ Bd by omega) w_98 u_93), (hI.ke2 (show Bd ≤ Bd by omega) w_99 w_100)⟩ hBd hLD u_94) (cwV 0 hts (gwV mw_1785 mw_1787 mw_69 mw_88 mw_1788) rfl rfl rfl hv_X12_fitting ⟨Nat.le_of_ble_eq_true rfl, Nat.le_of_ble_eq_true rfl⟩) ⟨PcH_blind, hg_recv hK o_c_104 rfl, PcH_pre hK hH⟩ rfl rfl hl.1 rfl (lv_room (Nat.le_of_ble_eq_true rfl)) dX12_asks_6 ⟨Nat.zero_le _, Nat.zero_le _⟩) (fun x_107 hx_107 => ?_)
  try rw [← hx_107.2] at hv
  have tx_108 := hx_107.1
  try rw [w_101] at tx_108
  try rw [u_92] at tx_108
  try rw [w_97] at tx_108
  have ex_109 : x_107 = F_X12_fitting_x (G.2.1 (g.2.2 100)) := hx_107.2.trans (by rw [w_97])
  try rw [← ex_109] at hv
  refine lv_istore_n (lv' := [(1, .int x_107), (0, .ref h0)]) hx hb dX12_asks_9 rfl hl (by decide) rfl (fun ls hl => ?_)
  refine lv_iload_n hx hb dX12_asks_10 rfl (lv_at hl 0 rfl) ?_
  refine lv_if_ne (tgt := 17) hx hb dX12_asks_11 (by decide) (fun c_110 => ?_) (fun c_110 => ?_)
  · rw [if_neg c_110] at hv
    refine lv_iconst (v := (-1)) hx hb dX12_asks_17 (by decide) ?_
    refine lv_istore_n (lv' := [(2, .int (-1)), (1, .int x_107), (0, .ref h0)]) hx hb dX12_asks_18 rfl hl (by decide) rfl (fun ls hl => ?_)
    refine lv_ldcw (v := 1000000) hx hb hown (hG _ mw_1797) dX12_asks_19 ?_
    refine lv_istore_n (lv' := [(3, .int 1000000), (2, .int (-1)), (1, .int x_107), (0, .ref h0)]) hx hb dX12_asks_22 rfl hl (by decide) rfl (fun ls hl => ?_)
    refine lv_iconst (v := 0) hx hb dX12_asks_23 (by decide) ?_
    refine lv_istore (lv' := [(4, .int 0), (3, .int 1000000), (2, .int (-1)), (1, .int x_107), (0, .ref h0)]) hx hb dX12_asks_24 hl (by decide) rfl (fun ls hl => ?_)
    exact L_26 52 H locs G_88 x_107 (-1) 1000000 0 ls (by rw [u_91]; exact rg_w hI.a104 (by decide) (by decide)) fr_89 (rg_w rl_m1 (by decide) (by decide)) (rg_w rl_1000000 (by decide) (by decide)) (rg_w rl_0 (by decide) (by decide)) tx_108 (by decide) (lv_sub hl [4, 3, 2, 1, 0] rfl) hv hH hS
  · rw [if_pos c_110] at hv
    have r_111 : rgI (0) (0) x_107 := rg_w (rg_eq rl_0 c_110) (by decide) (by decide)
    refine lv_bipush (v := (-2)) hx hb dX12_asks_14 (by decide) ?_
    exact W.iret hx hb hr (fun t ht hWm => ⟨⟨(-2), (Ty, G_88), rfl, ⟨rfl, ⟨fr_89, ⟨⟨(by rw [u_90]; exact (rg_w hI.a102 (by decide) (by decide))), (by rw [u_91]; exact (rg_w hI.a104 (by decide) (by decide))), (by rw [u_92]; exact (rg_w hI.a113 (by decide) (by decide))), (by rw [u_93]; exact (rg_w hI.a122 (by decide) (by decide))), (by rw [u_94]; exact (rg_w rl_0 (by decide) (by decide))), (by rw [u_95]; exact (rg_w hI.a137 (by decide) (by decide))), u_102, u_103, (by rw [w_97]; exact (hI.ti.hi (show Bd ≤ Bd + 1000 by omega))), (hI.un2 (show Bd ≤ Bd + 1000 by omega) w_98 u_93), (hI.ke2 (show Bd ≤ Bd + 1000 by omega) w_99 w_100)⟩, hv.symm⟩⟩⟩, by show HT g Ty G_88 t.heap; rw [ht]; exact hH⟩, hS.F ht⟩) hS.2.2 dX12_asks_16

def F_X12_trees_x (r0 : Nat → Int32) (r1 : Nat → Int32) (r2 : Nat → Int32) (r3 : Nat → Int32) (m113 : Int32) (m127 : Int32) (a0 : Int32) (a1 : Int32) (a2 : Int32) : Int32 := (if (0 : Int32) ≤ (F_X12_refusesTree_x r0 a0 a1 a2) then (F_X12_tellCame_x (F_X12_goTree_x r0 r1 r2 r3 m113 m127 a0 a1 a2)) else (F_X12_refusesTree_x r0 a0 a1 a2))
set_option maxHeartbeats 4000000 in
set_option maxRecDepth 100000 in
theorem c_X12_trees_x (l : Launch) (g : Gx) (Ty : TyM) (G : Gh) (sz : Nat) (h0 : Nat) (a0 : Int32) (a1 : Int32) (a2 : Int32) (k_h0 : Ty h0 = some (22, 0)) (Bd : Int) (hI : OI g Bd G) (hBd : Bd ≤ 1900000) (hLD : LD g) : Met l yX12_trees (wsG yX12_trees cX12_trees 5 (some .int)) ({ frames := 342, cells := 0, slots := 0, locals := 8026 }) (PcT g Ty G sz [.ref h0, .int a0, .int a1, .int a2]) (QwI g Ty sz (fun r u => u.1 = Ty ∧ FR [107, 108, 109, 110, 114, 127, 128, 104, 105, 122] [(g.2.2 100), (g.2.2 115), (g.2.2 125), (g.2.2 126), (g.2.2 121), (g.2.2 129)] [106] G u.2 ∧ OI g (Bd + 1000) u.2 ∧ F_X12_trees_x (G.2.1 (g.2.2 100)) (G.2.1 (g.2.2 111)) (G.2.1 (g.2.2 125)) (G.2.1 (g.2.2 126)) (G.1 113) (G.1 127) a0 a1 a2 = r)) 0 0 (AF Ty sz) := by
  refine Met.ofW (cc := cX12_trees) (maxL := 5) (ret := (some .int)) (by decide) rfl ?_
  intro p e s m args below meth c s₁ B hml hv
  obtain ⟨rfl, hsz, hK, hH⟩ := hv
  subst hsz
  have hx := B.exec
  have hb := B.bytes
  have hr := B.returns
  have hts := atoms_spec (ws := (wsG yX12_trees cX12_trees 5 (some .int))) B.pre
  have hG : ∀ w ∈ GW, w.before ([.ref h0, .int a0, .int a1, .int a2] : List Value).toArray s = true := fun w h => hts w (List.mem_cons_of_mem _ h)
  have hown : s.vm.findClass RX12 = some m.cls := findClass_of_methodNamed B.named
  have hlocks := B.notSynchronized
  have hl := lv_entry [.ref h0, .int a0, .int a1, .int a2] (n := 5) (Nat.le_of_ble_eq_true rfl)
  rw [lg_entry_eq]
  generalize (lg_sl [.ref h0, .int a0, .int a1, .int a2] ++ List.replicate (5 - (lg_sl [.ref h0, .int a0, .int a1, .int a2]).length) Slot.unset).toArray = ls at hl ⊢
  have hl : lv_has ls 5 [(0, .ref h0), (1, .int a0), (2, .int a1), (3, .int a2)] := hl
  have hmk : mdK g Ty := mdk_of hH k_h0
  have hv : (if (0 : Int32) ≤ (F_X12_refusesTree_x (G.2.1 (g.2.2 100)) a0 a1 a2) then (F_X12_tellCame_x (F_X12_goTree_x (G.2.1 (g.2.2 100)) (G.2.1 (g.2.2 111)) (G.2.1 (g.2.2 125)) (G.2.1 (g.2.2 126)) (G.1 113) (G.1 127) a0 a1 a2)) else (F_X12_refusesTree_x (G.2.1 (g.2.2 100)) a0 a1 a2)) = F_X12_trees_x (G.2.1 (g.2.2 100)) (G.2.1 (g.2.2 111)) (G.2.1 (g.2.2 125)) (G.2.1 (g.2.2 126)) (G.1 113) (G.1 127) a0 a1 a2 := rfl
  have hS : va_S (AF Ty s.heap.size) s.heap s.heap [] := va_S.rf
  obtain ⟨⟨σ0, hTS0⟩, h10, hBB0⟩ := id hI.ti
  obtain ⟨ρ, hT⟩ := hTS0.1
  refine lv_aload_n hx hb dX12_trees_0 rfl (lv_at hl 0 rfl) ?_
  refine lv_iconst (v := 0) hx hb dX12_trees_1 (by decide) ?_
  obtain ⟨_, ⟨rfl, t_2, hk_3⟩, o_c_1⟩ := hH h0 _ k_h0
  refine hg_put (ty := .int) hx hb hG igX12 tyX12 tyX12_ok nmX12 hown hK hS o_c_1 (AF.of k_h0) rfl 5 (by decide) (hG _ mw_1289) rfl (by decide +kernel) rfl rfl (Nat.le_of_ble_eq_true rfl) dX12_trees_2 (fun H locs o_c_1 hz oq hS => ?_)
  obtain ⟨G_4, eG_4⟩ : ∃ z : Gh, z = gset G 105 0 := ⟨_, rfl⟩
  have hH : HT g Ty G_4 H := by rw [eG_4]; exact HT.putN 105 0 hH k_h0 ⟨rfl, t_2, hk_3⟩ o_c_1 oq (Or.inr (Or.inr (Or.inr (Or.inr (Or.inr ⟨by decide, t_2⟩)))))
  have fr_5 : FR [107, 108, 109, 110, 114, 127, 128, 104, 105, 122] [(g.2.2 100), (g.2.2 115), (g.2.2 125), (g.2.2 126), (g.2.2 121), (g.2.2 129)] [106] G G_4 := FR.n FR.rf eG_4 (by decide)
  have u_6 : G_4.1 102 = (G.1 102) := by rw [eG_4]; exact (gs_ne (by decide))
  have u_7 : G_4.1 104 = (G.1 104) := by rw [eG_4]; exact (gs_ne (by decide))
  have u_8 : G_4.1 113 = (G.1 113) := by rw [eG_4]; exact (gs_ne (by decide))
  have u_9 : G_4.1 122 = (G.1 122) := by rw [eG_4]; exact (gs_ne (by decide))
  have u_10 : G_4.1 133 = (G.1 133) := by rw [eG_4]; exact (gs_ne (by decide))
  have u_11 : G_4.1 137 = (G.1 137) := by rw [eG_4]; exact (gs_ne (by decide))
  have u_12 : G_4.1 127 = (G.1 127) := by rw [eG_4]; exact (gs_ne (by decide))
  have u_13 : G_4.1 105 = 0 := by rw [eG_4]; exact gs_eq
  have w_14 : G_4.2.1 (g.2.2 100) = (G.2.1 (g.2.2 100)) := by rw [eG_4]; exact rfl
  have w_15 : G_4.2.1 (g.2.2 121) = (G.2.1 (g.2.2 121)) := by rw [eG_4]; exact rfl
  have w_16 : G_4.2.1 (g.2.2 140) = (G.2.1 (g.2.2 140)) := by rw [eG_4]; exact rfl
  have w_17 : G_4.2.1 (g.2.2 141) = (G.2.1 (g.2.2 141)) := by rw [eG_4]; exact rfl
  have w_18 : G_4.2.1 (g.2.2 111) = (G.2.1 (g.2.2 111)) := by rw [eG_4]; exact rfl
  have w_19 : G_4.2.1 (g.2.2 129) = (G.2.1 (g.2.2 129)) := by rw [eG_4]; exact rfl
  have w_20 : G_4.2.1 (g.2.2 125) = (G.2.1 (g.2.2 125)) := by rw [eG_4]; exact rfl
  have w_21 : G_4.2.1 (g.2.2 126) = (G.2.1 (g.2.2 126)) := by rw [eG_4]; exact rfl
  have u_22 : G_4.2.2 111 = some (g.2.2 111) := by rw [eG_4]; exact hI.r111
  have u_23 : G_4.2.2 112 = some (g.2.2 112) := by rw [eG_4]; exact hI.r112
  clear oq hz
  refine lv_aload_n hx hb dX12_trees_5 rfl (lv_at hl 0 rfl) ?_
  refine lv_aload_n hx hb dX12_trees_6 rfl (lv_at hl 0 rfl) ?_
  obtain ⟨_, ⟨rfl, t_25, hk_26⟩, o_c_24⟩ := hH h0 _ k_h0
  refine hg_get hx hb hG igX12 hown hK o_c_24 rfl 0 (by decide) (hG _ mw_1284) rfl dX12_trees_7 ?_
  refine lv_iload_n hx hb dX12_trees_10 rfl (lv_at hl 1 rfl) ?_
  refine lv_iload_n hx hb dX12_trees_11 rfl (lv_at hl 2 rfl) ?_
  refine lv_iload_n hx hb dX12_trees_12 rfl (lv_at hl 3 rfl) ?_
  refine vp_callSi (W.runV (As := [.ref (g.2.2 100), .int a0, .int a1, .int a2]) (rest := []) ⟨hx, hb, hml, hown, hts⟩ (c_X12_refusesTree_x l g Ty G_4 h0 (g.2.2 100) a0 a1 a2 k_h0 (hk_26.1) ρ (by rw [w_14]; exact hT)) (cwV 4 hts (gwV mw_1621 mw_1623 mw_59 mw_88 mw_1624) rfl rfl rfl hv_X12_refusesTree ⟨Nat.le_of_ble_eq_true rfl, Nat.le_of_ble_eq_true rfl⟩) ⟨PcH_blind, hg_recv hK o_c_24 rfl, PcH_pre hK hH⟩ rfl rfl hl.1 rfl (lv_room (Nat.le_of_ble_eq_true rfl)) dX12_trees_13 ⟨Nat.zero_le _, Nat.zero_le _⟩) (fun x_27 hx_27 => ?_)
  have rx_27 : rgI (-9) (0) x_27 := hx_27.1
  try rw [← hx_27.2.2] at hv
  have ex_28 : x_27 = F_X12_refusesTree_x (G.2.1 (g.2.2 100)) a0 a1 a2 := by rw [← w_14]; exact hx_27.2.2
  have tx_29 := hx_27.2.1
  try rw [w_14] at tx_29
  try rw [w_18] at tx_29
  try rw [u_8] at tx_29
  have ex_30 : x_27 = F_X12_refusesTree_x (G.2.1 (g.2.2 100)) a0 a1 a2 := hx_27.2.2.trans (by rw [w_14])
  try rw [← ex_30] at hv
  refine lv_istore (lv' := [(4, .int x_27), (0, .ref h0), (1, .int a0), (2, .int a1), (3, .int a2)]) hx hb dX12_trees_16 hl (by decide) rfl (fun ls hl => ?_)
  refine lv_iload hx hb dX12_trees_18 (lv_at hl 0 rfl) ?_
  refine lv_if_ge (tgt := 26) hx hb dX12_trees_20 (by decide) (fun c_31 => ?_) (fun c_31 => ?_)
  · rw [if_pos c_31] at hv
    have r_32 : rgI (0) (0) x_27 := rg_w (rg_leR rl_0 rx_27 c_31) (by decide) (by decide)
    refine lv_aload_n hx hb dX12_trees_26 rfl (lv_at hl 1 rfl) ?_
    have c0_33 := tx_29 (rg_00 r_32 c_31)
    have r_34 : rgI (0) (23) a0 := rg_w (c0_33.1.1) (by decide) (by decide)
    have r_35 : rgI (0) (23) a1 := rg_w (c0_33.2.1.1) (by decide) (by decide)
    have r_36 : rgI (0) (3) a2 := rg_w (c0_33.2.2.1) (by decide) (by decide)
    refine lv_aload_n hx hb dX12_trees_27 rfl (lv_at hl 1 rfl) ?_
    refine hg_get hx hb hG igX12 hown hK o_c_24 rfl 0 (by decide) (hG _ mw_1284) rfl dX12_trees_28 ?_
    refine va_callv (va_runV (As := [.ref (g.2.2 100)]) (rest := []) ⟨hx, hb, hml, hown, hts⟩ (c_X12_remember l g Ty G_4 H.size h0 (g.2.2 100) k_h0 (hk_26.1) Bd (by rw [w_14]; exact hI.ti) (by rw [u_9]; exact (rg_w hI.a122 (by decide) (by decide))) (by rw [u_9, w_15]; exact hI.un)) (cwV 1 hts (gwV mw_1577 mw_1579 mw_53 mw_88 mw_1580) rfl rfl rfl hv_X12_remember ⟨Nat.le_of_ble_eq_true rfl, Nat.le_of_ble_eq_true rfl⟩) ⟨PcT_blind, hg_recv hK o_c_24 rfl, PcT_pre hK hH⟩ rfl rfl hl.1 rfl (lv_room (Nat.le_of_ble_eq_true rfl)) dX12_trees_31 ⟨Nat.zero_le _, Nat.zero_le _⟩) hS (fun q _ h => AF.mono hS.1 h) (fun q h => AF.mono hS.1 h) (fun ux_37 t H locs ht hvm hx_37 hB hz hk hS => ?_)
    obtain ⟨eTx_37, eGx_37⟩ := hx_37
    obtain ⟨G_38, eG_38⟩ : ∃ z, z = ux_37.2 := ⟨_, rfl⟩
    rw [← eG_38] at eGx_37
    obtain ⟨hfr_39, hex_40⟩ := eGx_37
    have fr_41 : FR [107, 108, 109, 110, 114, 127, 128, 104, 105, 122] [(g.2.2 100), (g.2.2 115), (g.2.2 125), (g.2.2 126), (g.2.2 121), (g.2.2 129)] [106] G G_38 := FR.tr fr_5 hfr_39 (by decide) (fun b h => ⟨h.2.2.2.2.1, trivial⟩) (by decide)
    have u_42 : G_38.1 102 = (G.1 102) := (hfr_39.1 102 (by decide)).trans u_6
    have u_43 : G_38.1 104 = (G.1 104) := (hfr_39.1 104 (by decide)).trans u_7
    have u_44 : G_38.1 113 = (G.1 113) := (hfr_39.1 113 (by decide)).trans u_8
    have u_45 : G_38.1 133 = (G.1 133) := (hfr_39.1 133 (by decide)).trans u_10
    have u_46 : G_38.1 137 = (G.1 137) := (hfr_39.1 137 (by decide)).trans u_11
    have u_47 : G_38.1 127 = (G.1 127) := (hfr_39.1 127 (by decide)).trans u_12
    have u_48 : G_38.1 105 = 0 := (hfr_39.1 105 (by decide)).trans u_13
    have w_49 : G_38.2.1 (g.2.2 100) = (G.2.1 (g.2.2 100)) := (hfr_39.2.1 (g.2.2 100) ⟨(ne_kd hmk.1 hmk.2.2.2.2.2.1 (by decide)), trivial⟩).trans w_14
    have w_50 : G_38.2.1 (g.2.2 140) = (G.2.1 (g.2.2 140)) := (hfr_39.2.1 (g.2.2 140) ⟨(ne_kd hmk.2.2.2.2.2.2.2.2.2.2.2.2.2.2.2.2.2.2.1 hmk.2.2.2.2.2.1 (by decide)), trivial⟩).trans w_16
    have w_51 : G_38.2.1 (g.2.2 141) = (G.2.1 (g.2.2 141)) := (hfr_39.2.1 (g.2.2 141) ⟨(ne_kd hmk.2.2.2.2.2.2.2.2.2.2.2.2.2.2.2.2.2.2.2.1 hmk.2.2.2.2.2.1 (by decide)), trivial⟩).trans w_17
    have w_52 : G_38.2.1 (g.2.2 111) = (G.2.1 (g.2.2 111)) := (hfr_39.2.1 (g.2.2 111) ⟨(ne_kd hmk.2.2.2.2.2.2.2.2.2.2.2.2.2.2.2.2.2.2.2.2.1 hmk.2.2.2.2.2.1 (by decide)), trivial⟩).trans w_18
    have w_53 : G_38.2.1 (g.2.2 129) = (G.2.1 (g.2.2 129)) := (hfr_39.2.1 (g.2.2 129) ⟨(ne_kd hmk.2.2.2.2.2.2.2.2.2.2.1 hmk.2.2.2.2.2.1 (by decide)), trivial⟩).trans w_19
    have w_54 : G_38.2.1 (g.2.2 125) = (G.2.1 (g.2.2 125)) := (hfr_39.2.1 (g.2.2 125) ⟨(ne_kd hmk.2.2.2.2.2.2.2.2.1 hmk.2.2.2.2.2.1 (by decide)), trivial⟩).trans w_20
    have w_55 : G_38.2.1 (g.2.2 126) = (G.2.1 (g.2.2 126)) := (hfr_39.2.1 (g.2.2 126) ⟨(ne_kd hmk.2.2.2.2.2.2.2.2.2.1 hmk.2.2.2.2.2.1 (by decide)), trivial⟩).trans w_21
    have u_56 : G_38.2.2 111 = some (g.2.2 111) := (hfr_39.2.2 111 (by decide)).trans u_22
    have u_57 : G_38.2.2 112 = some (g.2.2 112) := (hfr_39.2.2 112 (by decide)).trans u_23
    obtain ⟨f_58, ef_58⟩ : ∃ z : Nat → Int32, G_38.2.1 (g.2.2 121) = z := ⟨_, rfl⟩
    obtain ⟨n_59, en_59⟩ : ∃ z : Int32, G_38.1 122 = z := ⟨_, rfl⟩
    have rm_60 := hex_40
    rw [ef_58, en_59] at rm_60
    have hH : HT g Ty G_38 H := by rw [← ht, ← eTx_37, eG_38]; exact hB
    refine lv_aload_n hx hb dX12_trees_34 rfl (lv_at hl 1 rfl) ?_
    refine lv_aload_n hx hb dX12_trees_35 rfl (lv_at hl 1 rfl) ?_
    refine lv_aload_n hx hb dX12_trees_36 rfl (lv_at hl 1 rfl) ?_
    obtain ⟨_, ⟨rfl, t_62, hk_63⟩, o_c_61⟩ := hH h0 _ k_h0
    refine hg_get hx hb hG igX12 hown hK o_c_61 rfl 0 (by decide) (hG _ mw_1284) rfl dX12_trees_37 ?_
    refine lv_iload_n hx hb dX12_trees_40 rfl (lv_at hl 2 rfl) ?_
    refine lv_iload_n hx hb dX12_trees_41 rfl (lv_at hl 3 rfl) ?_
    refine lv_iload_n hx hb dX12_trees_42 rfl (lv_at hl 4 rfl) ?_
    refine va_calli (va_runV (As := [.ref (g.2.2 100), .int a0, .int a1, .int a2]) (rest := [.ref h0]) ⟨hx, hb, hml, hown, hts⟩ (c_X12_goTree_x l g Ty G_38 H.size h0 (g.2.2 100) a0 a1 a2 k_h0 (hk_63.1) (rg_w r_34 (by decide) (by decide)) (rg_w r_35 (by decide) (by decide)) (rg_w r_36 (by decide) (by decide)) (hLD 100 (by decide) 129 (by decide) (by decide)) Bd (by rw [w_49]; exact hI.ti) (Int.le_trans hBd (by decide)) (g.2.2 111) hmk.2.2.2.2.2.2.2.2.2.2.2.2.2.2.2.2.2.2.2.2.1 u_56 (by rw [u_44]; exact hI.a113) hLD (by rw [w_49]; exact c0_33)) (cwV 4 hts (gwV mw_1628 mw_1630 mw_60 mw_88 mw_1631) rfl rfl rfl hv_X12_goTree ⟨Nat.le_of_ble_eq_true rfl, Nat.le_of_ble_eq_true rfl⟩) ⟨PcT_blind, hg_recv hK o_c_61 rfl, PcT_pre hK hH⟩ rfl rfl hl.1 rfl (lv_room (Nat.le_of_ble_eq_true rfl)) dX12_trees_43 ⟨Nat.zero_le _, Nat.zero_le _⟩) hS (fun q _ h => AF.mono hS.1 h) (fun q h => AF.mono hS.1 h) (fun x_64 ux_64 t H locs ht hvm hx_64 hB hz hk hS => ?_)
    obtain ⟨eTx_64, eGx_64⟩ := hx_64
    obtain ⟨G_65, eG_65⟩ : ∃ z, z = ux_64.2 := ⟨_, rfl⟩
    rw [← eG_65] at eGx_64
    obtain ⟨hfr_66, hex_67⟩ := eGx_64
    have fr_68 : FR [107, 108, 109, 110, 114, 127, 128, 104, 105, 122] [(g.2.2 100), (g.2.2 115), (g.2.2 125), (g.2.2 126), (g.2.2 121), (g.2.2 129)] [106] G G_65 := FR.tr fr_41 hfr_66 (by decide) (fun b h => ⟨h.1, h.2.1, h.2.2.1, h.2.2.2.1, h.2.2.2.2.2.1, trivial⟩) (by decide)
    have u_69 : G_65.1 102 = (G.1 102) := (hfr_66.1 102 (by decide)).trans u_42
    have u_70 : G_65.1 104 = (G.1 104) := (hfr_66.1 104 (by decide)).trans u_43
    have u_71 : G_65.1 113 = (G.1 113) := (hfr_66.1 113 (by decide)).trans u_44
    have u_72 : G_65.1 133 = (G.1 133) := (hfr_66.1 133 (by decide)).trans u_45
    have u_73 : G_65.1 137 = (G.1 137) := (hfr_66.1 137 (by decide)).trans u_46
    have u_74 : G_65.1 105 = 0 := (hfr_66.1 105 (by decide)).trans u_48
    have u_75 : G_65.1 122 = n_59 := (hfr_66.1 122 (by decide)).trans en_59
    have w_76 : G_65.2.1 (g.2.2 140) = (G.2.1 (g.2.2 140)) := (hfr_66.2.1 (g.2.2 140) ⟨(ne_kd hmk.2.2.2.2.2.2.2.2.2.2.2.2.2.2.2.2.2.2.1 hmk.1 (by decide)), (ne_kd hmk.2.2.2.2.2.2.2.2.2.2.2.2.2.2.2.2.2.2.1 hmk.2.2.2.1 (by decide)), (ne_kd hmk.2.2.2.2.2.2.2.2.2.2.2.2.2.2.2.2.2.2.1 hmk.2.2.2.2.2.2.2.2.1 (by decide)), (ne_kd hmk.2.2.2.2.2.2.2.2.2.2.2.2.2.2.2.2.2.2.1 hmk.2.2.2.2.2.2.2.2.2.1 (by decide)), (ne_kd hmk.2.2.2.2.2.2.2.2.2.2.2.2.2.2.2.2.2.2.1 hmk.2.2.2.2.2.2.2.2.2.2.1 (by decide)), trivial⟩).trans w_50
    have w_77 : G_65.2.1 (g.2.2 141) = (G.2.1 (g.2.2 141)) := (hfr_66.2.1 (g.2.2 141) ⟨(ne_kd hmk.2.2.2.2.2.2.2.2.2.2.2.2.2.2.2.2.2.2.2.1 hmk.1 (by decide)), (ne_kd hmk.2.2.2.2.2.2.2.2.2.2.2.2.2.2.2.2.2.2.2.1 hmk.2.2.2.1 (by decide)), (ne_kd hmk.2.2.2.2.2.2.2.2.2.2.2.2.2.2.2.2.2.2.2.1 hmk.2.2.2.2.2.2.2.2.1 (by decide)), (ne_kd hmk.2.2.2.2.2.2.2.2.2.2.2.2.2.2.2.2.2.2.2.1 hmk.2.2.2.2.2.2.2.2.2.1 (by decide)), (ne_kd hmk.2.2.2.2.2.2.2.2.2.2.2.2.2.2.2.2.2.2.2.1 hmk.2.2.2.2.2.2.2.2.2.2.1 (by decide)), trivial⟩).trans w_51
    have w_78 : G_65.2.1 (g.2.2 111) = (G.2.1 (g.2.2 111)) := (hfr_66.2.1 (g.2.2 111) ⟨(ne_kd hmk.2.2.2.2.2.2.2.2.2.2.2.2.2.2.2.2.2.2.2.2.1 hmk.1 (by decide)), (ne_kd hmk.2.2.2.2.2.2.2.2.2.2.2.2.2.2.2.2.2.2.2.2.1 hmk.2.2.2.1 (by decide)), (ne_kd hmk.2.2.2.2.2.2.2.2.2.2.2.2.2.2.2.2.2.2.2.2.1 hmk.2.2.2.2.2.2.2.2.1 (by decide)), (ne_kd hmk.2.2.2.2.2.2.2.2.2.2.2.2.2.2.2.2.2.2.2.2.1 hmk.2.2.2.2.2.2.2.2.2.1 (by decide)), (ne_kd hmk.2.2.2.2.2.2.2.2.2.2.2.2.2.2.2.2.2.2.2.2.1 hmk.2.2.2.2.2.2.2.2.2.2.1 (by decide)), trivial⟩).trans w_52
    have w_79 : G_65.2.1 (g.2.2 121) = f_58 := (hfr_66.2.1 (g.2.2 121) ⟨(ne_kd hmk.2.2.2.2.2.1 hmk.1 (by decide)), (ne_kd hmk.2.2.2.2.2.1 hmk.2.2.2.1 (by decide)), (ne_kd hmk.2.2.2.2.2.1 hmk.2.2.2.2.2.2.2.2.1 (by decide)), (ne_kd hmk.2.2.2.2.2.1 hmk.2.2.2.2.2.2.2.2.2.1 (by decide)), (ne_kd hmk.2.2.2.2.2.1 hmk.2.2.2.2.2.2.2.2.2.2.1 (by decide)), trivial⟩).trans ef_58
    have u_80 : G_65.2.2 111 = some (g.2.2 111) := (hfr_66.2.2 111 (by decide)).trans u_56
    have u_81 : G_65.2.2 112 = some (g.2.2 112) := (hfr_66.2.2 112 (by decide)).trans u_57
    obtain ⟨xa_82, xb_83⟩ := hex_67
    have hq_84 : F_X12_goTree_x (G.2.1 (g.2.2 100)) (G.2.1 (g.2.2 111)) (G.2.1 (g.2.2 125)) (G.2.1 (g.2.2 126)) (G.1 113) (G.1 127) a0 a1 a2 = x_64 := by have q := xb_83; rw [w_49, w_52, w_54, w_55, u_44, u_47] at q; exact q
    try rw [hq_84] at hv
    obtain ⟨f_85, ef_85⟩ : ∃ z : Nat → Int32, G_65.2.1 (g.2.2 100) = z := ⟨_, rfl⟩
    have ti_86 := xa_82
    rw [ef_85] at ti_86
    have hH : HT g Ty G_65 H := by rw [← ht, ← eTx_64, eG_65]; exact hB
    obtain ⟨_, ⟨rfl, t_88, hk_89⟩, o_c_87⟩ := hH h0 _ k_h0
    refine va_calli (va_runV (As := [.int x_64]) (rest := []) ⟨hx, hb, hml, hown, hts⟩ (c_X12_tellCame_x l g Ty G_65 H.size h0 x_64 k_h0) (cwV 1 hts (gwV mw_1605 mw_1607 mw_57 mw_88 mw_1608) rfl rfl rfl hv_X12_tellCame ⟨Nat.le_of_ble_eq_true rfl, Nat.le_of_ble_eq_true rfl⟩) ⟨PcT_blind, hg_recv hK o_c_87 rfl, PcT_pre hK hH⟩ rfl rfl hl.1 rfl (lv_room (Nat.le_of_ble_eq_true rfl)) dX12_trees_46 ⟨Nat.zero_le _, Nat.zero_le _⟩) hS (fun q _ h => AF.mono hS.1 h) (fun q h => AF.mono hS.1 h) (fun x_90 ux_90 t H locs ht hvm hx_90 hB hz hk hS => ?_)
    obtain ⟨eTx_90, eGx_90⟩ := hx_90
    obtain ⟨G_91, eG_91⟩ : ∃ z, z = ux_90.2 := ⟨_, rfl⟩
    rw [← eG_91] at eGx_90
    obtain ⟨hfr_92, hex_93⟩ := eGx_90
    have fr_94 : FR [107, 108, 109, 110, 114, 127, 128, 104, 105, 122] [(g.2.2 100), (g.2.2 115), (g.2.2 125), (g.2.2 126), (g.2.2 121), (g.2.2 129)] [106] G G_91 := FR.tr fr_68 hfr_92 (by decide) (fun _ _ => trivial) (by decide)
    have u_95 : G_91.1 102 = (G.1 102) := (hfr_92.1 102 (by decide)).trans u_69
    have u_96 : G_91.1 113 = (G.1 113) := (hfr_92.1 113 (by decide)).trans u_71
    have u_97 : G_91.1 133 = (G.1 133) := (hfr_92.1 133 (by decide)).trans u_72
    have u_98 : G_91.1 137 = (G.1 137) := (hfr_92.1 137 (by decide)).trans u_73
    have u_99 : G_91.1 105 = 0 := (hfr_92.1 105 (by decide)).trans u_74
    have u_100 : G_91.1 122 = n_59 := (hfr_92.1 122 (by decide)).trans u_75
    have w_101 : G_91.2.1 (g.2.2 140) = (G.2.1 (g.2.2 140)) := (hfr_92.2.1 (g.2.2 140) trivial).trans w_76
    have w_102 : G_91.2.1 (g.2.2 141) = (G.2.1 (g.2.2 141)) := (hfr_92.2.1 (g.2.2 141) trivial).trans w_77
    have w_103 : G_91.2.1 (g.2.2 111) = (G.2.1 (g.2.2 111)) := (hfr_92.2.1 (g.2.2 111) trivial).trans w_78
    have w_104 : G_91.2.1 (g.2.2 121) = f_58 := (hfr_92.2.1 (g.2.2 121) trivial).trans w_79
    have w_105 : G_91.2.1 (g.2.2 100) = f_85 := (hfr_92.2.1 (g.2.2 100) trivial).trans ef_85
    have u_106 : G_91.2.2 111 = some (g.2.2 111) := (hfr_92.2.2 111 (by decide)).trans u_80
    have u_107 : G_91.2.2 112 = some (g.2.2 112) := (hfr_92.2.2 112 (by decide)).trans u_81
    obtain ⟨xa_108, xb_109⟩ := hex_93
    have hq_110 : F_X12_tellCame_x x_64 = x_90 := by have q := xb_109; exact q
    try rw [hq_110] at hv
    have t4_111 : rgI (2) (2) (G_91.1 104) := xa_108
    have hH : HT g Ty G_91 H := by rw [← ht, ← eTx_90, eG_91]; exact hB
    exact W.iret hx hb hr (fun t ht hWm => ⟨⟨x_90, (Ty, G_91), rfl, ⟨rfl, ⟨fr_94, ⟨⟨(by rw [u_95]; exact (rg_w hI.a102 (by decide) (by decide))), (rg_w t4_111 (by decide) (by decide)), (by rw [u_96]; exact (rg_w hI.a113 (by decide) (by decide))), (by rw [u_100]; exact (rg_w rm_60.1 (by decide) (by decide))), (by rw [u_97]; exact (rg_w hI.a133 (by decide) (by decide))), (by rw [u_98]; exact (rg_w hI.a137 (by decide) (by decide))), u_106, u_107, (by rw [w_105]; exact (TI.hi ti_86 (by omega))), (by rw [w_104, u_100]; exact fun i hi => TI.hi (rm_60.2 i hi) (by omega)), (hI.ke2 (show Bd ≤ Bd + 1000 by omega) w_101 w_102)⟩, hv.symm⟩⟩⟩, by show HT g Ty G_91 t.heap; rw [ht]; exact hH⟩, hS.F ht⟩) hS.2.2 dX12_trees_49
  · rw [if_neg c_31] at hv
    have r_112 : rgI (-9) (-1) x_27 := rg_w (rg_ltL rx_27 rl_0 (nle_lt c_31)) (by decide) (by decide)
    refine lv_iload hx hb dX12_trees_23 (lv_at hl 0 rfl) ?_
    exact W.iret hx hb hr (fun t ht hWm => ⟨⟨x_27, (Ty, G_4), rfl, ⟨rfl, ⟨fr_5, ⟨⟨(by rw [u_6]; exact (rg_w hI.a102 (by decide) (by decide))), (by rw [u_7]; exact (rg_w hI.a104 (by decide) (by decide))), (by rw [u_8]; exact (rg_w hI.a113 (by decide) (by decide))), (by rw [u_9]; exact (rg_w hI.a122 (by decide) (by decide))), (by rw [u_10]; exact (rg_w hI.a133 (by decide) (by decide))), (by rw [u_11]; exact (rg_w hI.a137 (by decide) (by decide))), u_22, u_23, (by rw [w_14]; exact (hI.ti.hi (show Bd ≤ Bd + 1000 by omega))), (hI.un2 (show Bd ≤ Bd + 1000 by omega) w_15 u_9), (hI.ke2 (show Bd ≤ Bd + 1000 by omega) w_16 w_17)⟩, hv.symm⟩⟩⟩, by show HT g Ty G_4 t.heap; rw [ht]; exact hH⟩, hS.F ht⟩) hS.2.2 dX12_trees_25
