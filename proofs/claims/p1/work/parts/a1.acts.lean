def KeepN (k k' : Nat → Int32) (r a : Int32) : Prop := (r = 0 ∧ (a < 0 ∨ (1 : Int32) < a) ∧ k' = k) ∨ (r = 1 ∧ rgI 0 1 a ∧ k' = upd k a.toNatClampNeg 1)
def AgainN (k : Nat → Int32) (r a : Int32) : Prop := (r = 1 ∧ rgI 0 1 a ∧ ¬ k a.toNatClampNeg = 0) ∨ (r = 0 ∧ ¬ (rgI 0 1 a ∧ ¬ k a.toNatClampNeg = 0))
theorem kp2_lt {a : Int32} (h : rgI 0 1 a) : a.toNatClampNeg < 2 := by have := cl_nat h.1; have := h.2; omega

theorem ud_1 {n m : Int32} (h : rgI 0 12 n) (c : ¬ n = 0) (e : m = n - 1) : m.toInt + 1 = n.toInt := by
  have h1 := h.1; have h2 := h.2
  have q : m.toInt = n.toInt - 1 := by rw [e]; exact ti_sub (y := 1) (by show _ ≤ n.toInt - 1; omega) (by show n.toInt - 1 ≤ _; omega)
  omega

set_option maxHeartbeats 4000000 in
set_option maxRecDepth 100000 in
theorem c_X12_mounts (l : Launch) (g : Gx) (Ty : TyM) (G : Gh) (sz : Nat) (h0 : Nat) (a0 : Int32) (a1 : Int32) (k_h0 : Ty h0 = some (22, 0)) (Bd : Int) (hI : OI g Bd G) (hBd : Bd ≤ 1900000) (hLD : LD g) : Met l yX12_mounts (wsG yX12_mounts cX12_mounts 4 (some .int)) ({ frames := 341, cells := 0, slots := 0, locals := 8001 }) (PcT g Ty G sz [.ref h0, .int a0, .int a1]) (QwI g Ty sz (fun r u => u.1 = Ty ∧ FR [107, 108, 109, 110, 114, 127, 128, 104, 105, 122] [(g.2.2 100), (g.2.2 115), (g.2.2 125), (g.2.2 126), (g.2.2 121)] [106] G u.2 ∧ OI g (Bd + 1000) u.2)) 0 0 (AF Ty sz) := by
  refine Met.ofW (cc := cX12_mounts) (maxL := 4) (ret := (some .int)) (by decide) rfl ?_
  intro p e s m args below meth c s₁ B hml hv
  obtain ⟨rfl, hsz, hK, hH⟩ := hv
  subst hsz
  have hx := B.exec
  have hb := B.bytes
  have hr := B.returns
  have hts := atoms_spec (ws := (wsG yX12_mounts cX12_mounts 4 (some .int))) B.pre
  have hG : ∀ w ∈ GW, w.before ([.ref h0, .int a0, .int a1] : List Value).toArray s = true := fun w h => hts w (List.mem_cons_of_mem _ h)
  have hown : s.vm.findClass RX12 = some m.cls := findClass_of_methodNamed B.named
  have hlocks := B.notSynchronized
  have hl := lv_entry [.ref h0, .int a0, .int a1] (n := 4) (Nat.le_of_ble_eq_true rfl)
  rw [lg_entry_eq]
  generalize (lg_sl [.ref h0, .int a0, .int a1] ++ List.replicate (4 - (lg_sl [.ref h0, .int a0, .int a1]).length) Slot.unset).toArray = ls at hl ⊢
  have hl : lv_has ls 4 [(0, .ref h0), (1, .int a0), (2, .int a1)] := hl
  have hmk : mdK g Ty := mdk_of hH k_h0
  have hS : va_S (AF Ty s.heap.size) s.heap s.heap [] := va_S.rf
  obtain ⟨⟨σ0, hTS0⟩, h10, hBB0⟩ := id hI.ti
  obtain ⟨ρ, hT⟩ := hTS0.1
  refine lv_aload_n hx hb dX12_mounts_0 rfl (lv_at hl 0 rfl) ?_
  refine lv_iconst (v := 0) hx hb dX12_mounts_1 (by decide) ?_
  obtain ⟨_, ⟨rfl, t_2, hk_3⟩, o_c_1⟩ := hH h0 _ k_h0
  refine hg_put (ty := .int) hx hb hG igX12 tyX12 tyX12_ok nmX12 hown hK hS o_c_1 (AF.of k_h0) rfl 5 (by decide) (hG _ mw_1289) rfl (by decide +kernel) rfl rfl (Nat.le_of_ble_eq_true rfl) dX12_mounts_2 (fun H locs o_c_1 hz oq hS => ?_)
  obtain ⟨G_4, eG_4⟩ : ∃ z : Gh, z = gset G 105 0 := ⟨_, rfl⟩
  have hH : HT g Ty G_4 H := by rw [eG_4]; exact HT.putN 105 0 hH k_h0 ⟨rfl, t_2, hk_3⟩ o_c_1 oq (Or.inr (Or.inr (Or.inr (Or.inr (Or.inr ⟨by decide, t_2⟩)))))
  have fr_5 : FR [107, 108, 109, 110, 114, 127, 128, 104, 105, 122] [(g.2.2 100), (g.2.2 115), (g.2.2 125), (g.2.2 126), (g.2.2 121)] [106] G G_4 := FR.n FR.rf eG_4 (by decide)
  have u_6 : G_4.1 102 = (G.1 102) := by rw [eG_4]; exact (gs_ne (by decide))
  have u_7 : G_4.1 104 = (G.1 104) := by rw [eG_4]; exact (gs_ne (by decide))
  have u_8 : G_4.1 113 = (G.1 113) := by rw [eG_4]; exact (gs_ne (by decide))
  have u_9 : G_4.1 122 = (G.1 122) := by rw [eG_4]; exact (gs_ne (by decide))
  have u_10 : G_4.1 133 = (G.1 133) := by rw [eG_4]; exact (gs_ne (by decide))
  have u_11 : G_4.1 137 = (G.1 137) := by rw [eG_4]; exact (gs_ne (by decide))
  have u_12 : G_4.1 105 = 0 := by rw [eG_4]; exact gs_eq
  have w_13 : G_4.2.1 (g.2.2 100) = (G.2.1 (g.2.2 100)) := by rw [eG_4]; exact rfl
  have w_14 : G_4.2.1 (g.2.2 121) = (G.2.1 (g.2.2 121)) := by rw [eG_4]; exact rfl
  have w_15 : G_4.2.1 (g.2.2 140) = (G.2.1 (g.2.2 140)) := by rw [eG_4]; exact rfl
  have w_16 : G_4.2.1 (g.2.2 141) = (G.2.1 (g.2.2 141)) := by rw [eG_4]; exact rfl
  have w_17 : G_4.2.1 (g.2.2 111) = (G.2.1 (g.2.2 111)) := by rw [eG_4]; exact rfl
  have u_18 : G_4.2.2 111 = some (g.2.2 111) := by rw [eG_4]; exact hI.r111
  have u_19 : G_4.2.2 112 = some (g.2.2 112) := by rw [eG_4]; exact hI.r112
  clear oq hz
  refine lv_aload_n hx hb dX12_mounts_5 rfl (lv_at hl 0 rfl) ?_
  refine lv_aload_n hx hb dX12_mounts_6 rfl (lv_at hl 0 rfl) ?_
  obtain ⟨_, ⟨rfl, t_21, hk_22⟩, o_c_20⟩ := hH h0 _ k_h0
  refine hg_get hx hb hG igX12 hown hK o_c_20 rfl 0 (by decide) (hG _ mw_1284) rfl dX12_mounts_7 ?_
  refine lv_iload_n hx hb dX12_mounts_10 rfl (lv_at hl 1 rfl) ?_
  refine lv_iload_n hx hb dX12_mounts_11 rfl (lv_at hl 2 rfl) ?_
  refine va_calli (va_runV (As := [.ref (g.2.2 100), .int a0, .int a1]) (rest := []) ⟨hx, hb, hml, hown, hts⟩ (c_X12_refusesComing l g Ty G_4 H.size h0 (g.2.2 100) a0 a1 k_h0 (hk_22.1) ρ (by rw [w_13]; exact hT) (g.2.2 111) hmk.2.2.2.2.2.2.2.2.2.2.2.2.2.2.2.2.2.2.2.2.1 u_18 (by rw [u_8]; exact hI.a113)) (cwV 3 hts (gwV mw_1546 mw_1548 mw_50 mw_88 mw_1549) rfl rfl rfl hv_X12_refusesComing ⟨Nat.le_of_ble_eq_true rfl, Nat.le_of_ble_eq_true rfl⟩) ⟨PcT_blind, hg_recv hK o_c_20 rfl, PcT_pre hK hH⟩ rfl rfl hl.1 rfl (lv_room (Nat.le_of_ble_eq_true rfl)) dX12_mounts_12 ⟨Nat.zero_le _, Nat.zero_le _⟩) hS (fun q _ h => AF.mono hS.1 h) (fun q h => AF.mono hS.1 h) (fun x_23 ux_23 t H locs ht hvm hx_23 hB hz hk hS => ?_)
  obtain ⟨hx_23, fx_23⟩ := hx_23
  obtain ⟨eTx_23, eGx_23⟩ := fx_23
  obtain ⟨G_24, eG_24⟩ : ∃ z, z = ux_23.2 := ⟨_, rfl⟩
  rw [← eG_24] at eGx_23
  have fr_25 : FR [107, 108, 109, 110, 114, 127, 128, 104, 105, 122] [(g.2.2 100), (g.2.2 115), (g.2.2 125), (g.2.2 126), (g.2.2 121)] [106] G G_24 := FR.tr fr_5 eGx_23 (by decide) (fun b h => ⟨h.2.1, trivial⟩) (by decide)
  have u_26 : G_24.1 102 = (G.1 102) := (eGx_23.1 102 (by decide)).trans u_6
  have u_27 : G_24.1 104 = (G.1 104) := (eGx_23.1 104 (by decide)).trans u_7
  have u_28 : G_24.1 113 = (G.1 113) := (eGx_23.1 113 (by decide)).trans u_8
  have u_29 : G_24.1 122 = (G.1 122) := (eGx_23.1 122 (by decide)).trans u_9
  have u_30 : G_24.1 133 = (G.1 133) := (eGx_23.1 133 (by decide)).trans u_10
  have u_31 : G_24.1 137 = (G.1 137) := (eGx_23.1 137 (by decide)).trans u_11
  have u_32 : G_24.1 105 = 0 := (eGx_23.1 105 (by decide)).trans u_12
  have w_33 : G_24.2.1 (g.2.2 100) = (G.2.1 (g.2.2 100)) := (eGx_23.2.1 (g.2.2 100) ⟨(ne_kd hmk.1 hmk.2.2.2.1 (by decide)), trivial⟩).trans w_13
  have w_34 : G_24.2.1 (g.2.2 121) = (G.2.1 (g.2.2 121)) := (eGx_23.2.1 (g.2.2 121) ⟨(ne_kd hmk.2.2.2.2.2.1 hmk.2.2.2.1 (by decide)), trivial⟩).trans w_14
  have w_35 : G_24.2.1 (g.2.2 140) = (G.2.1 (g.2.2 140)) := (eGx_23.2.1 (g.2.2 140) ⟨(ne_kd hmk.2.2.2.2.2.2.2.2.2.2.2.2.2.2.2.2.2.2.1 hmk.2.2.2.1 (by decide)), trivial⟩).trans w_15
  have w_36 : G_24.2.1 (g.2.2 141) = (G.2.1 (g.2.2 141)) := (eGx_23.2.1 (g.2.2 141) ⟨(ne_kd hmk.2.2.2.2.2.2.2.2.2.2.2.2.2.2.2.2.2.2.2.1 hmk.2.2.2.1 (by decide)), trivial⟩).trans w_16
  have w_37 : G_24.2.1 (g.2.2 111) = (G.2.1 (g.2.2 111)) := (eGx_23.2.1 (g.2.2 111) ⟨(ne_kd hmk.2.2.2.2.2.2.2.2.2.2.2.2.2.2.2.2.2.2.2.2.1 hmk.2.2.2.1 (by decide)), trivial⟩).trans w_17
  have u_38 : G_24.2.2 111 = some (g.2.2 111) := (eGx_23.2.2 111 (by decide)).trans u_18
  have u_39 : G_24.2.2 112 = some (g.2.2 112) := (eGx_23.2.2 112 (by decide)).trans u_19
  have hH : HT g Ty G_24 H := by rw [← ht, ← eTx_23, eG_24]; exact hB
  have rx_23 : rgI (-9) (0) x_23 := hx_23.1
  have tx_40 := hx_23.2
  try rw [w_13] at tx_40
  try rw [w_17] at tx_40
  try rw [u_8] at tx_40
  refine lv_istore_n (lv' := [(3, .int x_23), (0, .ref h0), (1, .int a0), (2, .int a1)]) hx hb dX12_mounts_15 rfl hl (by decide) rfl (fun ls hl => ?_)
  refine lv_iload_n hx hb dX12_mounts_16 rfl (lv_at hl 0 rfl) ?_
  refine lv_if_ge (tgt := 22) hx hb dX12_mounts_17 (by decide) (fun c_41 => ?_) (fun c_41 => ?_)
  · have r_42 : rgI (0) (0) x_23 := rg_w (rg_leR rl_0 rx_23 c_41) (by decide) (by decide)
    have c0_43 := tx_40 (rg_00 r_42 c_41)
    have r_44 : rgI (0) (23) a0 := rg_w (c0_43.1.1) (by decide) (by decide)
    have r_45 : rgI (0) (3) a1 := rg_w (c0_43.2.1) (by decide) (by decide)
    obtain ⟨⟨σ_46, hts_47⟩, h1_48, hb_49⟩ := id hI.ti
    refine lv_aload_n hx hb dX12_mounts_22 rfl (lv_at hl 1 rfl) ?_
    refine lv_aload_n hx hb dX12_mounts_23 rfl (lv_at hl 1 rfl) ?_
    obtain ⟨_, ⟨rfl, t_51, hk_52⟩, o_c_50⟩ := hH h0 _ k_h0
    refine hg_get hx hb hG igX12 hown hK o_c_50 rfl 0 (by decide) (hG _ mw_1284) rfl dX12_mounts_24 ?_
    refine va_callv (va_runV (As := [.ref (g.2.2 100)]) (rest := []) ⟨hx, hb, hml, hown, hts⟩ (c_X12_remember l g Ty G_24 H.size h0 (g.2.2 100) k_h0 (hk_52.1) Bd (by rw [w_33]; exact hI.ti) (by rw [u_29]; exact (rg_w hI.a122 (by decide) (by decide))) (by rw [u_29, w_34]; exact hI.un)) (cwV 1 hts (gwV mw_1577 mw_1579 mw_53 mw_88 mw_1580) rfl rfl rfl hv_X12_remember ⟨Nat.le_of_ble_eq_true rfl, Nat.le_of_ble_eq_true rfl⟩) ⟨PcT_blind, hg_recv hK o_c_50 rfl, PcT_pre hK hH⟩ rfl rfl hl.1 rfl (lv_room (Nat.le_of_ble_eq_true rfl)) dX12_mounts_27 ⟨Nat.zero_le _, Nat.zero_le _⟩) hS (fun q _ h => AF.mono hS.1 h) (fun q h => AF.mono hS.1 h) (fun ux_53 t H locs ht hvm hx_53 hB hz hk hS => ?_)
    obtain ⟨eTx_53, eGx_53⟩ := hx_53
    obtain ⟨G_54, eG_54⟩ : ∃ z, z = ux_53.2 := ⟨_, rfl⟩
    rw [← eG_54] at eGx_53
    obtain ⟨hfr_55, hex_56⟩ := eGx_53
    have fr_57 : FR [107, 108, 109, 110, 114, 127, 128, 104, 105, 122] [(g.2.2 100), (g.2.2 115), (g.2.2 125), (g.2.2 126), (g.2.2 121)] [106] G G_54 := FR.tr fr_25 hfr_55 (by decide) (fun b h => ⟨h.2.2.2.2.1, trivial⟩) (by decide)
    have u_58 : G_54.1 102 = (G.1 102) := (hfr_55.1 102 (by decide)).trans u_26
    have u_59 : G_54.1 104 = (G.1 104) := (hfr_55.1 104 (by decide)).trans u_27
    have u_60 : G_54.1 113 = (G.1 113) := (hfr_55.1 113 (by decide)).trans u_28
    have u_61 : G_54.1 133 = (G.1 133) := (hfr_55.1 133 (by decide)).trans u_30
    have u_62 : G_54.1 137 = (G.1 137) := (hfr_55.1 137 (by decide)).trans u_31
    have u_63 : G_54.1 105 = 0 := (hfr_55.1 105 (by decide)).trans u_32
    have w_64 : G_54.2.1 (g.2.2 100) = (G.2.1 (g.2.2 100)) := (hfr_55.2.1 (g.2.2 100) ⟨(ne_kd hmk.1 hmk.2.2.2.2.2.1 (by decide)), trivial⟩).trans w_33
    have w_65 : G_54.2.1 (g.2.2 140) = (G.2.1 (g.2.2 140)) := (hfr_55.2.1 (g.2.2 140) ⟨(ne_kd hmk.2.2.2.2.2.2.2.2.2.2.2.2.2.2.2.2.2.2.1 hmk.2.2.2.2.2.1 (by decide)), trivial⟩).trans w_35
    have w_66 : G_54.2.1 (g.2.2 141) = (G.2.1 (g.2.2 141)) := (hfr_55.2.1 (g.2.2 141) ⟨(ne_kd hmk.2.2.2.2.2.2.2.2.2.2.2.2.2.2.2.2.2.2.2.1 hmk.2.2.2.2.2.1 (by decide)), trivial⟩).trans w_36
    have w_67 : G_54.2.1 (g.2.2 111) = (G.2.1 (g.2.2 111)) := (hfr_55.2.1 (g.2.2 111) ⟨(ne_kd hmk.2.2.2.2.2.2.2.2.2.2.2.2.2.2.2.2.2.2.2.2.1 hmk.2.2.2.2.2.1 (by decide)), trivial⟩).trans w_37
    have u_68 : G_54.2.2 111 = some (g.2.2 111) := (hfr_55.2.2 111 (by decide)).trans u_38
    have u_69 : G_54.2.2 112 = some (g.2.2 112) := (hfr_55.2.2 112 (by decide)).trans u_39
    obtain ⟨f_70, ef_70⟩ : ∃ z : Nat → Int32, G_54.2.1 (g.2.2 121) = z := ⟨_, rfl⟩
    obtain ⟨n_71, en_71⟩ : ∃ z : Int32, G_54.1 122 = z := ⟨_, rfl⟩
    have rm_72 := hex_56
    rw [ef_70, en_71] at rm_72
    have hH : HT g Ty G_54 H := by rw [← ht, ← eTx_53, eG_54]; exact hB
    refine lv_aload_n hx hb dX12_mounts_30 rfl (lv_at hl 1 rfl) ?_
    refine lv_aload_n hx hb dX12_mounts_31 rfl (lv_at hl 1 rfl) ?_
    refine lv_aload_n hx hb dX12_mounts_32 rfl (lv_at hl 1 rfl) ?_
    obtain ⟨_, ⟨rfl, t_74, hk_75⟩, o_c_73⟩ := hH h0 _ k_h0
    refine hg_get hx hb hG igX12 hown hK o_c_73 rfl 0 (by decide) (hG _ mw_1284) rfl dX12_mounts_33 ?_
    refine lv_bipush (v := 24) hx hb dX12_mounts_36 (by decide) ?_
    refine lv_iload_n hx hb dX12_mounts_38 rfl (lv_at hl 2 rfl) ?_
    refine lv_iload_n hx hb dX12_mounts_39 rfl (lv_at hl 3 rfl) ?_
    refine va_calli (va_runV (As := [.ref (g.2.2 100), .int 24, .int a0, .int a1]) (rest := [.ref h0]) ⟨hx, hb, hml, hown, hts⟩ (c_X12_goClone l g Ty G_54 H.size h0 (g.2.2 100) 24 a0 a1 k_h0 (hk_75.1) (rg_w rl_24 (by decide) (by decide)) (rg_w r_44 (by decide) (by decide)) (rg_w r_45 (by decide) (by decide)) (g.2.2 111) hmk.2.2.2.2.2.2.2.2.2.2.2.2.2.2.2.2.2.2.2.2.1 u_68 (by rw [u_60]; exact hI.a113) hLD σ_46 (by rw [w_64]; exact hts_47) (by rw [w_64]; exact h1_48) Bd (by rw [w_64]; exact hb_49) (by rw [w_64]; exact (Int.le_trans hb_49 (Int.le_trans hBd (by decide)))) (Or.inl rfl) (by rw [w_64, w_67, u_60]; exact c0_43)) (cwV 4 hts (gwV mw_1584 mw_1586 mw_54 mw_88 mw_1587) rfl rfl rfl hv_X12_goClone ⟨Nat.le_of_ble_eq_true rfl, Nat.le_of_ble_eq_true rfl⟩) ⟨PcT_blind, hg_recv hK o_c_73 rfl, PcT_pre hK hH⟩ rfl rfl hl.1 rfl (lv_room (Nat.le_of_ble_eq_true rfl)) dX12_mounts_40 ⟨Nat.zero_le _, Nat.zero_le _⟩) hS (fun q _ h => AF.mono hS.1 h) (fun q h => AF.mono hS.1 h) (fun x_76 ux_76 t H locs ht hvm hx_76 hB hz hk hS => ?_)
    obtain ⟨eTx_76, eGx_76⟩ := hx_76
    obtain ⟨G_77, eG_77⟩ : ∃ z, z = ux_76.2 := ⟨_, rfl⟩
    rw [← eG_77] at eGx_76
    obtain ⟨hfr_78, hex_79⟩ := eGx_76
    have fr_80 : FR [107, 108, 109, 110, 114, 127, 128, 104, 105, 122] [(g.2.2 100), (g.2.2 115), (g.2.2 125), (g.2.2 126), (g.2.2 121)] [106] G G_77 := FR.tr fr_57 hfr_78 (by decide) (fun b h => ⟨h.1, h.2.1, h.2.2.1, h.2.2.2.1, trivial⟩) (by decide)
    have u_81 : G_77.1 102 = (G.1 102) := (hfr_78.1 102 (by decide)).trans u_58
    have u_82 : G_77.1 104 = (G.1 104) := (hfr_78.1 104 (by decide)).trans u_59
    have u_83 : G_77.1 113 = (G.1 113) := (hfr_78.1 113 (by decide)).trans u_60
    have u_84 : G_77.1 133 = (G.1 133) := (hfr_78.1 133 (by decide)).trans u_61
    have u_85 : G_77.1 137 = (G.1 137) := (hfr_78.1 137 (by decide)).trans u_62
    have u_86 : G_77.1 105 = 0 := (hfr_78.1 105 (by decide)).trans u_63
    have u_87 : G_77.1 122 = n_71 := (hfr_78.1 122 (by decide)).trans en_71
    have w_88 : G_77.2.1 (g.2.2 140) = (G.2.1 (g.2.2 140)) := (hfr_78.2.1 (g.2.2 140) ⟨(ne_kd hmk.2.2.2.2.2.2.2.2.2.2.2.2.2.2.2.2.2.2.1 hmk.1 (by decide)), (ne_kd hmk.2.2.2.2.2.2.2.2.2.2.2.2.2.2.2.2.2.2.1 hmk.2.2.2.1 (by decide)), (ne_kd hmk.2.2.2.2.2.2.2.2.2.2.2.2.2.2.2.2.2.2.1 hmk.2.2.2.2.2.2.2.2.1 (by decide)), (ne_kd hmk.2.2.2.2.2.2.2.2.2.2.2.2.2.2.2.2.2.2.1 hmk.2.2.2.2.2.2.2.2.2.1 (by decide)), trivial⟩).trans w_65
    have w_89 : G_77.2.1 (g.2.2 141) = (G.2.1 (g.2.2 141)) := (hfr_78.2.1 (g.2.2 141) ⟨(ne_kd hmk.2.2.2.2.2.2.2.2.2.2.2.2.2.2.2.2.2.2.2.1 hmk.1 (by decide)), (ne_kd hmk.2.2.2.2.2.2.2.2.2.2.2.2.2.2.2.2.2.2.2.1 hmk.2.2.2.1 (by decide)), (ne_kd hmk.2.2.2.2.2.2.2.2.2.2.2.2.2.2.2.2.2.2.2.1 hmk.2.2.2.2.2.2.2.2.1 (by decide)), (ne_kd hmk.2.2.2.2.2.2.2.2.2.2.2.2.2.2.2.2.2.2.2.1 hmk.2.2.2.2.2.2.2.2.2.1 (by decide)), trivial⟩).trans w_66
    have w_90 : G_77.2.1 (g.2.2 111) = (G.2.1 (g.2.2 111)) := (hfr_78.2.1 (g.2.2 111) ⟨(ne_kd hmk.2.2.2.2.2.2.2.2.2.2.2.2.2.2.2.2.2.2.2.2.1 hmk.1 (by decide)), (ne_kd hmk.2.2.2.2.2.2.2.2.2.2.2.2.2.2.2.2.2.2.2.2.1 hmk.2.2.2.1 (by decide)), (ne_kd hmk.2.2.2.2.2.2.2.2.2.2.2.2.2.2.2.2.2.2.2.2.1 hmk.2.2.2.2.2.2.2.2.1 (by decide)), (ne_kd hmk.2.2.2.2.2.2.2.2.2.2.2.2.2.2.2.2.2.2.2.2.1 hmk.2.2.2.2.2.2.2.2.2.1 (by decide)), trivial⟩).trans w_67
    have w_91 : G_77.2.1 (g.2.2 121) = f_70 := (hfr_78.2.1 (g.2.2 121) ⟨(ne_kd hmk.2.2.2.2.2.1 hmk.1 (by decide)), (ne_kd hmk.2.2.2.2.2.1 hmk.2.2.2.1 (by decide)), (ne_kd hmk.2.2.2.2.2.1 hmk.2.2.2.2.2.2.2.2.1 (by decide)), (ne_kd hmk.2.2.2.2.2.1 hmk.2.2.2.2.2.2.2.2.2.1 (by decide)), trivial⟩).trans ef_70
    have u_92 : G_77.2.2 111 = some (g.2.2 111) := (hfr_78.2.2 111 (by decide)).trans u_68
    have u_93 : G_77.2.2 112 = some (g.2.2 112) := (hfr_78.2.2 112 (by decide)).trans u_69
    obtain ⟨f_94, ef_94⟩ : ∃ z : Nat → Int32, G_77.2.1 (g.2.2 100) = z := ⟨_, rfl⟩
    have gc_95 := hex_79
    rw [ef_94, w_64, w_67, u_60] at gc_95
    have hH : HT g Ty G_77 H := by rw [← ht, ← eTx_76, eG_77]; exact hB
    obtain ⟨_, ⟨rfl, t_97, hk_98⟩, o_c_96⟩ := hH h0 _ k_h0
    refine va_calli (va_runV (As := [.int x_76]) (rest := []) ⟨hx, hb, hml, hown, hts⟩ (c_X12_tellCame l g Ty G_77 H.size h0 x_76 k_h0) (cwV 1 hts (gwV mw_1605 mw_1607 mw_57 mw_88 mw_1608) rfl rfl rfl hv_X12_tellCame ⟨Nat.le_of_ble_eq_true rfl, Nat.le_of_ble_eq_true rfl⟩) ⟨PcT_blind, hg_recv hK o_c_96 rfl, PcT_pre hK hH⟩ rfl rfl hl.1 rfl (lv_room (Nat.le_of_ble_eq_true rfl)) dX12_mounts_43 ⟨Nat.zero_le _, Nat.zero_le _⟩) hS (fun q _ h => AF.mono hS.1 h) (fun q h => AF.mono hS.1 h) (fun x_99 ux_99 t H locs ht hvm hx_99 hB hz hk hS => ?_)
    obtain ⟨eTx_99, eGx_99⟩ := hx_99
    obtain ⟨G_100, eG_100⟩ : ∃ z, z = ux_99.2 := ⟨_, rfl⟩
    rw [← eG_100] at eGx_99
    obtain ⟨hfr_101, hex_102⟩ := eGx_99
    have fr_103 : FR [107, 108, 109, 110, 114, 127, 128, 104, 105, 122] [(g.2.2 100), (g.2.2 115), (g.2.2 125), (g.2.2 126), (g.2.2 121)] [106] G G_100 := FR.tr fr_80 hfr_101 (by decide) (fun _ _ => trivial) (by decide)
    have u_104 : G_100.1 102 = (G.1 102) := (hfr_101.1 102 (by decide)).trans u_81
    have u_105 : G_100.1 113 = (G.1 113) := (hfr_101.1 113 (by decide)).trans u_83
    have u_106 : G_100.1 133 = (G.1 133) := (hfr_101.1 133 (by decide)).trans u_84
    have u_107 : G_100.1 137 = (G.1 137) := (hfr_101.1 137 (by decide)).trans u_85
    have u_108 : G_100.1 105 = 0 := (hfr_101.1 105 (by decide)).trans u_86
    have u_109 : G_100.1 122 = n_71 := (hfr_101.1 122 (by decide)).trans u_87
    have w_110 : G_100.2.1 (g.2.2 140) = (G.2.1 (g.2.2 140)) := (hfr_101.2.1 (g.2.2 140) trivial).trans w_88
    have w_111 : G_100.2.1 (g.2.2 141) = (G.2.1 (g.2.2 141)) := (hfr_101.2.1 (g.2.2 141) trivial).trans w_89
    have w_112 : G_100.2.1 (g.2.2 111) = (G.2.1 (g.2.2 111)) := (hfr_101.2.1 (g.2.2 111) trivial).trans w_90
    have w_113 : G_100.2.1 (g.2.2 121) = f_70 := (hfr_101.2.1 (g.2.2 121) trivial).trans w_91
    have w_114 : G_100.2.1 (g.2.2 100) = f_94 := (hfr_101.2.1 (g.2.2 100) trivial).trans ef_94
    have u_115 : G_100.2.2 111 = some (g.2.2 111) := (hfr_101.2.2 111 (by decide)).trans u_92
    have u_116 : G_100.2.2 112 = some (g.2.2 112) := (hfr_101.2.2 112 (by decide)).trans u_93
    have t4_117 : rgI (2) (2) (G_100.1 104) := hex_102
    have hH : HT g Ty G_100 H := by rw [← ht, ← eTx_99, eG_100]; exact hB
    exact W.iret hx hb hr (fun t ht hWm => ⟨⟨x_99, (Ty, G_100), rfl, ⟨rfl, ⟨fr_103, ⟨(by rw [u_104]; exact (rg_w hI.a102 (by decide) (by decide))), (rg_w t4_117 (by decide) (by decide)), (by rw [u_105]; exact (rg_w hI.a113 (by decide) (by decide))), (by rw [u_109]; exact (rg_w rm_72.1 (by decide) (by decide))), (by rw [u_106]; exact (rg_w hI.a133 (by decide) (by decide))), (by rw [u_107]; exact (rg_w hI.a137 (by decide) (by decide))), u_115, u_116, (by rw [w_114]; exact (TI.hi gc_95.1 (by omega))), (by rw [w_113, u_109]; exact fun i hi => TI.hi (rm_72.2 i hi) (by omega)), (hI.ke2 (show Bd ≤ Bd + 1000 by omega) w_110 w_111)⟩⟩⟩, by show HT g Ty G_100 t.heap; rw [ht]; exact hH⟩, hS.F ht⟩) hS.2.2 dX12_mounts_46
  · have r_118 : rgI (-9) (-1) x_23 := rg_w (rg_ltL rx_23 rl_0 (nle_lt c_41)) (by decide) (by decide)
    refine lv_iload_n hx hb dX12_mounts_20 rfl (lv_at hl 0 rfl) ?_
    exact W.iret hx hb hr (fun t ht hWm => ⟨⟨x_23, (Ty, G_24), rfl, ⟨rfl, ⟨fr_25, ⟨(by rw [u_26]; exact (rg_w hI.a102 (by decide) (by decide))), (by rw [u_27]; exact (rg_w hI.a104 (by decide) (by decide))), (by rw [u_28]; exact (rg_w hI.a113 (by decide) (by decide))), (by rw [u_29]; exact (rg_w hI.a122 (by decide) (by decide))), (by rw [u_30]; exact (rg_w hI.a133 (by decide) (by decide))), (by rw [u_31]; exact (rg_w hI.a137 (by decide) (by decide))), u_38, u_39, (by rw [w_33]; exact (hI.ti.hi (show Bd ≤ Bd + 1000 by omega))), (hI.un2 (show Bd ≤ Bd + 1000 by omega) w_34 u_29), (hI.ke2 (show Bd ≤ Bd + 1000 by omega) w_35 w_36)⟩⟩⟩, by show HT g Ty G_24 t.heap; rw [ht]; exact hH⟩, hS.F ht⟩) hS.2.2 dX12_mounts_21

set_option maxHeartbeats 4000000 in
set_option maxRecDepth 100000 in
theorem c_X12_binds (l : Launch) (g : Gx) (Ty : TyM) (G : Gh) (sz : Nat) (h0 : Nat) (a0 : Int32) (a1 : Int32) (a2 : Int32) (k_h0 : Ty h0 = some (22, 0)) (Bd : Int) (hI : OI g Bd G) (hBd : Bd ≤ 1900000) (hLD : LD g) : Met l yX12_binds (wsG yX12_binds cX12_binds 5 (some .int)) ({ frames := 342, cells := 0, slots := 0, locals := 8018 }) (PcT g Ty G sz [.ref h0, .int a0, .int a1, .int a2]) (QwI g Ty sz (fun r u => u.1 = Ty ∧ FR [107, 108, 109, 110, 114, 127, 128, 104, 105, 122] [(g.2.2 100), (g.2.2 115), (g.2.2 125), (g.2.2 126), (g.2.2 121)] [106] G u.2 ∧ OI g (Bd + 1000) u.2)) 0 0 (AF Ty sz) := by
  refine Met.ofW (cc := cX12_binds) (maxL := 5) (ret := (some .int)) (by decide) rfl ?_
  intro p e s m args below meth c s₁ B hml hv
  obtain ⟨rfl, hsz, hK, hH⟩ := hv
  subst hsz
  have hx := B.exec
  have hb := B.bytes
  have hr := B.returns
  have hts := atoms_spec (ws := (wsG yX12_binds cX12_binds 5 (some .int))) B.pre
  have hG : ∀ w ∈ GW, w.before ([.ref h0, .int a0, .int a1, .int a2] : List Value).toArray s = true := fun w h => hts w (List.mem_cons_of_mem _ h)
  have hown : s.vm.findClass RX12 = some m.cls := findClass_of_methodNamed B.named
  have hlocks := B.notSynchronized
  have hl := lv_entry [.ref h0, .int a0, .int a1, .int a2] (n := 5) (Nat.le_of_ble_eq_true rfl)
  rw [lg_entry_eq]
  generalize (lg_sl [.ref h0, .int a0, .int a1, .int a2] ++ List.replicate (5 - (lg_sl [.ref h0, .int a0, .int a1, .int a2]).length) Slot.unset).toArray = ls at hl ⊢
  have hl : lv_has ls 5 [(0, .ref h0), (1, .int a0), (2, .int a1), (3, .int a2)] := hl
  have hmk : mdK g Ty := mdk_of hH k_h0
  have hS : va_S (AF Ty s.heap.size) s.heap s.heap [] := va_S.rf
  obtain ⟨⟨σ0, hTS0⟩, h10, hBB0⟩ := id hI.ti
  obtain ⟨ρ, hT⟩ := hTS0.1
  refine lv_aload_n hx hb dX12_binds_0 rfl (lv_at hl 0 rfl) ?_
  refine lv_iconst (v := 0) hx hb dX12_binds_1 (by decide) ?_
  obtain ⟨_, ⟨rfl, t_2, hk_3⟩, o_c_1⟩ := hH h0 _ k_h0
  refine hg_put (ty := .int) hx hb hG igX12 tyX12 tyX12_ok nmX12 hown hK hS o_c_1 (AF.of k_h0) rfl 5 (by decide) (hG _ mw_1289) rfl (by decide +kernel) rfl rfl (Nat.le_of_ble_eq_true rfl) dX12_binds_2 (fun H locs o_c_1 hz oq hS => ?_)
  obtain ⟨G_4, eG_4⟩ : ∃ z : Gh, z = gset G 105 0 := ⟨_, rfl⟩
  have hH : HT g Ty G_4 H := by rw [eG_4]; exact HT.putN 105 0 hH k_h0 ⟨rfl, t_2, hk_3⟩ o_c_1 oq (Or.inr (Or.inr (Or.inr (Or.inr (Or.inr ⟨by decide, t_2⟩)))))
  have fr_5 : FR [107, 108, 109, 110, 114, 127, 128, 104, 105, 122] [(g.2.2 100), (g.2.2 115), (g.2.2 125), (g.2.2 126), (g.2.2 121)] [106] G G_4 := FR.n FR.rf eG_4 (by decide)
  have u_6 : G_4.1 102 = (G.1 102) := by rw [eG_4]; exact (gs_ne (by decide))
  have u_7 : G_4.1 104 = (G.1 104) := by rw [eG_4]; exact (gs_ne (by decide))
  have u_8 : G_4.1 113 = (G.1 113) := by rw [eG_4]; exact (gs_ne (by decide))
  have u_9 : G_4.1 122 = (G.1 122) := by rw [eG_4]; exact (gs_ne (by decide))
  have u_10 : G_4.1 133 = (G.1 133) := by rw [eG_4]; exact (gs_ne (by decide))
  have u_11 : G_4.1 137 = (G.1 137) := by rw [eG_4]; exact (gs_ne (by decide))
  have u_12 : G_4.1 105 = 0 := by rw [eG_4]; exact gs_eq
  have w_13 : G_4.2.1 (g.2.2 100) = (G.2.1 (g.2.2 100)) := by rw [eG_4]; exact rfl
  have w_14 : G_4.2.1 (g.2.2 121) = (G.2.1 (g.2.2 121)) := by rw [eG_4]; exact rfl
  have w_15 : G_4.2.1 (g.2.2 140) = (G.2.1 (g.2.2 140)) := by rw [eG_4]; exact rfl
  have w_16 : G_4.2.1 (g.2.2 141) = (G.2.1 (g.2.2 141)) := by rw [eG_4]; exact rfl
  have w_17 : G_4.2.1 (g.2.2 111) = (G.2.1 (g.2.2 111)) := by rw [eG_4]; exact rfl
  have u_18 : G_4.2.2 111 = some (g.2.2 111) := by rw [eG_4]; exact hI.r111
  have u_19 : G_4.2.2 112 = some (g.2.2 112) := by rw [eG_4]; exact hI.r112
  clear oq hz
  refine lv_aload_n hx hb dX12_binds_5 rfl (lv_at hl 0 rfl) ?_
  refine lv_aload_n hx hb dX12_binds_6 rfl (lv_at hl 0 rfl) ?_
  obtain ⟨_, ⟨rfl, t_21, hk_22⟩, o_c_20⟩ := hH h0 _ k_h0
  refine hg_get hx hb hG igX12 hown hK o_c_20 rfl 0 (by decide) (hG _ mw_1284) rfl dX12_binds_7 ?_
  refine lv_iload_n hx hb dX12_binds_10 rfl (lv_at hl 1 rfl) ?_
  refine lv_iload_n hx hb dX12_binds_11 rfl (lv_at hl 2 rfl) ?_
  refine lv_iload_n hx hb dX12_binds_12 rfl (lv_at hl 3 rfl) ?_
  refine va_calli (va_runV (As := [.ref (g.2.2 100), .int a0, .int a1, .int a2]) (rest := []) ⟨hx, hb, hml, hown, hts⟩ (c_X12_refusesBind l g Ty G_4 H.size h0 (g.2.2 100) a0 a1 a2 k_h0 (hk_22.1) ρ (by rw [w_13]; exact hT) (g.2.2 111) hmk.2.2.2.2.2.2.2.2.2.2.2.2.2.2.2.2.2.2.2.2.1 u_18 (by rw [u_8]; exact hI.a113)) (cwV 4 hts (gwV mw_1613 mw_1615 mw_58 mw_88 mw_1616) rfl rfl rfl hv_X12_refusesBind ⟨Nat.le_of_ble_eq_true rfl, Nat.le_of_ble_eq_true rfl⟩) ⟨PcT_blind, hg_recv hK o_c_20 rfl, PcT_pre hK hH⟩ rfl rfl hl.1 rfl (lv_room (Nat.le_of_ble_eq_true rfl)) dX12_binds_13 ⟨Nat.zero_le _, Nat.zero_le _⟩) hS (fun q _ h => AF.mono hS.1 h) (fun q h => AF.mono hS.1 h) (fun x_23 ux_23 t H locs ht hvm hx_23 hB hz hk hS => ?_)
  obtain ⟨hx_23, fx_23⟩ := hx_23
  obtain ⟨eTx_23, eGx_23⟩ := fx_23
  obtain ⟨G_24, eG_24⟩ : ∃ z, z = ux_23.2 := ⟨_, rfl⟩
  rw [← eG_24] at eGx_23
  have fr_25 : FR [107, 108, 109, 110, 114, 127, 128, 104, 105, 122] [(g.2.2 100), (g.2.2 115), (g.2.2 125), (g.2.2 126), (g.2.2 121)] [106] G G_24 := FR.tr fr_5 eGx_23 (by decide) (fun b h => ⟨h.2.1, trivial⟩) (by decide)
  have u_26 : G_24.1 102 = (G.1 102) := (eGx_23.1 102 (by decide)).trans u_6
  have u_27 : G_24.1 104 = (G.1 104) := (eGx_23.1 104 (by decide)).trans u_7
  have u_28 : G_24.1 113 = (G.1 113) := (eGx_23.1 113 (by decide)).trans u_8
  have u_29 : G_24.1 122 = (G.1 122) := (eGx_23.1 122 (by decide)).trans u_9
  have u_30 : G_24.1 133 = (G.1 133) := (eGx_23.1 133 (by decide)).trans u_10
  have u_31 : G_24.1 137 = (G.1 137) := (eGx_23.1 137 (by decide)).trans u_11
  have u_32 : G_24.1 105 = 0 := (eGx_23.1 105 (by decide)).trans u_12
  have w_33 : G_24.2.1 (g.2.2 100) = (G.2.1 (g.2.2 100)) := (eGx_23.2.1 (g.2.2 100) ⟨(ne_kd hmk.1 hmk.2.2.2.1 (by decide)), trivial⟩).trans w_13
  have w_34 : G_24.2.1 (g.2.2 121) = (G.2.1 (g.2.2 121)) := (eGx_23.2.1 (g.2.2 121) ⟨(ne_kd hmk.2.2.2.2.2.1 hmk.2.2.2.1 (by decide)), trivial⟩).trans w_14
  have w_35 : G_24.2.1 (g.2.2 140) = (G.2.1 (g.2.2 140)) := (eGx_23.2.1 (g.2.2 140) ⟨(ne_kd hmk.2.2.2.2.2.2.2.2.2.2.2.2.2.2.2.2.2.2.1 hmk.2.2.2.1 (by decide)), trivial⟩).trans w_15
  have w_36 : G_24.2.1 (g.2.2 141) = (G.2.1 (g.2.2 141)) := (eGx_23.2.1 (g.2.2 141) ⟨(ne_kd hmk.2.2.2.2.2.2.2.2.2.2.2.2.2.2.2.2.2.2.2.1 hmk.2.2.2.1 (by decide)), trivial⟩).trans w_16
  have w_37 : G_24.2.1 (g.2.2 111) = (G.2.1 (g.2.2 111)) := (eGx_23.2.1 (g.2.2 111) ⟨(ne_kd hmk.2.2.2.2.2.2.2.2.2.2.2.2.2.2.2.2.2.2.2.2.1 hmk.2.2.2.1 (by decide)), trivial⟩).trans w_17
  have u_38 : G_24.2.2 111 = some (g.2.2 111) := (eGx_23.2.2 111 (by decide)).trans u_18
  have u_39 : G_24.2.2 112 = some (g.2.2 112) := (eGx_23.2.2 112 (by decide)).trans u_19
  have hH : HT g Ty G_24 H := by rw [← ht, ← eTx_23, eG_24]; exact hB
  have rx_23 : rgI (-9) (0) x_23 := hx_23.1
  have tx_40 := hx_23.2
  try rw [w_13] at tx_40
  try rw [w_17] at tx_40
  try rw [u_8] at tx_40
  refine lv_istore (lv' := [(4, .int x_23), (0, .ref h0), (1, .int a0), (2, .int a1), (3, .int a2)]) hx hb dX12_binds_16 hl (by decide) rfl (fun ls hl => ?_)
  refine lv_iload hx hb dX12_binds_18 (lv_at hl 0 rfl) ?_
  refine lv_if_ge (tgt := 26) hx hb dX12_binds_20 (by decide) (fun c_41 => ?_) (fun c_41 => ?_)
  · have r_42 : rgI (0) (0) x_23 := rg_w (rg_leR rl_0 rx_23 c_41) (by decide) (by decide)
    refine lv_aload_n hx hb dX12_binds_26 rfl (lv_at hl 1 rfl) ?_
    have c0_43 := tx_40 (rg_00 r_42 c_41)
    have r_44 : rgI (0) (23) a0 := rg_w (c0_43.1.1) (by decide) (by decide)
    have r_45 : rgI (0) (23) a1 := rg_w (c0_43.2.1.1) (by decide) (by decide)
    have r_46 : rgI (0) (3) a2 := rg_w (c0_43.2.2.1) (by decide) (by decide)
    obtain ⟨⟨σ_47, hts_48⟩, h1_49, hb_50⟩ := id hI.ti
    refine lv_aload_n hx hb dX12_binds_27 rfl (lv_at hl 1 rfl) ?_
    obtain ⟨_, ⟨rfl, t_52, hk_53⟩, o_c_51⟩ := hH h0 _ k_h0
    refine hg_get hx hb hG igX12 hown hK o_c_51 rfl 0 (by decide) (hG _ mw_1284) rfl dX12_binds_28 ?_
    refine va_callv (va_runV (As := [.ref (g.2.2 100)]) (rest := []) ⟨hx, hb, hml, hown, hts⟩ (c_X12_remember l g Ty G_24 H.size h0 (g.2.2 100) k_h0 (hk_53.1) Bd (by rw [w_33]; exact hI.ti) (by rw [u_29]; exact (rg_w hI.a122 (by decide) (by decide))) (by rw [u_29, w_34]; exact hI.un)) (cwV 1 hts (gwV mw_1577 mw_1579 mw_53 mw_88 mw_1580) rfl rfl rfl hv_X12_remember ⟨Nat.le_of_ble_eq_true rfl, Nat.le_of_ble_eq_true rfl⟩) ⟨PcT_blind, hg_recv hK o_c_51 rfl, PcT_pre hK hH⟩ rfl rfl hl.1 rfl (lv_room (Nat.le_of_ble_eq_true rfl)) dX12_binds_31 ⟨Nat.zero_le _, Nat.zero_le _⟩) hS (fun q _ h => AF.mono hS.1 h) (fun q h => AF.mono hS.1 h) (fun ux_54 t H locs ht hvm hx_54 hB hz hk hS => ?_)
    obtain ⟨eTx_54, eGx_54⟩ := hx_54
    obtain ⟨G_55, eG_55⟩ : ∃ z, z = ux_54.2 := ⟨_, rfl⟩
    rw [← eG_55] at eGx_54
    obtain ⟨hfr_56, hex_57⟩ := eGx_54
    have fr_58 : FR [107, 108, 109, 110, 114, 127, 128, 104, 105, 122] [(g.2.2 100), (g.2.2 115), (g.2.2 125), (g.2.2 126), (g.2.2 121)] [106] G G_55 := FR.tr fr_25 hfr_56 (by decide) (fun b h => ⟨h.2.2.2.2.1, trivial⟩) (by decide)
    have u_59 : G_55.1 102 = (G.1 102) := (hfr_56.1 102 (by decide)).trans u_26
    have u_60 : G_55.1 104 = (G.1 104) := (hfr_56.1 104 (by decide)).trans u_27
    have u_61 : G_55.1 113 = (G.1 113) := (hfr_56.1 113 (by decide)).trans u_28
    have u_62 : G_55.1 133 = (G.1 133) := (hfr_56.1 133 (by decide)).trans u_30
    have u_63 : G_55.1 137 = (G.1 137) := (hfr_56.1 137 (by decide)).trans u_31
    have u_64 : G_55.1 105 = 0 := (hfr_56.1 105 (by decide)).trans u_32
    have w_65 : G_55.2.1 (g.2.2 100) = (G.2.1 (g.2.2 100)) := (hfr_56.2.1 (g.2.2 100) ⟨(ne_kd hmk.1 hmk.2.2.2.2.2.1 (by decide)), trivial⟩).trans w_33
    have w_66 : G_55.2.1 (g.2.2 140) = (G.2.1 (g.2.2 140)) := (hfr_56.2.1 (g.2.2 140) ⟨(ne_kd hmk.2.2.2.2.2.2.2.2.2.2.2.2.2.2.2.2.2.2.1 hmk.2.2.2.2.2.1 (by decide)), trivial⟩).trans w_35
    have w_67 : G_55.2.1 (g.2.2 141) = (G.2.1 (g.2.2 141)) := (hfr_56.2.1 (g.2.2 141) ⟨(ne_kd hmk.2.2.2.2.2.2.2.2.2.2.2.2.2.2.2.2.2.2.2.1 hmk.2.2.2.2.2.1 (by decide)), trivial⟩).trans w_36
    have w_68 : G_55.2.1 (g.2.2 111) = (G.2.1 (g.2.2 111)) := (hfr_56.2.1 (g.2.2 111) ⟨(ne_kd hmk.2.2.2.2.2.2.2.2.2.2.2.2.2.2.2.2.2.2.2.2.1 hmk.2.2.2.2.2.1 (by decide)), trivial⟩).trans w_37
    have u_69 : G_55.2.2 111 = some (g.2.2 111) := (hfr_56.2.2 111 (by decide)).trans u_38
    have u_70 : G_55.2.2 112 = some (g.2.2 112) := (hfr_56.2.2 112 (by decide)).trans u_39
    obtain ⟨f_71, ef_71⟩ : ∃ z : Nat → Int32, G_55.2.1 (g.2.2 121) = z := ⟨_, rfl⟩
    obtain ⟨n_72, en_72⟩ : ∃ z : Int32, G_55.1 122 = z := ⟨_, rfl⟩
    have rm_73 := hex_57
    rw [ef_71, en_72] at rm_73
    have hH : HT g Ty G_55 H := by rw [← ht, ← eTx_54, eG_55]; exact hB
    refine lv_aload_n hx hb dX12_binds_34 rfl (lv_at hl 1 rfl) ?_
    refine lv_aload_n hx hb dX12_binds_35 rfl (lv_at hl 1 rfl) ?_
    refine lv_aload_n hx hb dX12_binds_36 rfl (lv_at hl 1 rfl) ?_
    obtain ⟨_, ⟨rfl, t_75, hk_76⟩, o_c_74⟩ := hH h0 _ k_h0
    refine hg_get hx hb hG igX12 hown hK o_c_74 rfl 0 (by decide) (hG _ mw_1284) rfl dX12_binds_37 ?_
    refine lv_iload_n hx hb dX12_binds_40 rfl (lv_at hl 2 rfl) ?_
    refine lv_iload_n hx hb dX12_binds_41 rfl (lv_at hl 3 rfl) ?_
    refine lv_iload_n hx hb dX12_binds_42 rfl (lv_at hl 4 rfl) ?_
    refine va_calli (va_runV (As := [.ref (g.2.2 100), .int a0, .int a1, .int a2]) (rest := [.ref h0]) ⟨hx, hb, hml, hown, hts⟩ (c_X12_goClone l g Ty G_55 H.size h0 (g.2.2 100) a0 a1 a2 k_h0 (hk_76.1) (rg_w r_44 (by decide) (by decide)) (rg_w r_45 (by decide) (by decide)) (rg_w r_46 (by decide) (by decide)) (g.2.2 111) hmk.2.2.2.2.2.2.2.2.2.2.2.2.2.2.2.2.2.2.2.2.1 u_69 (by rw [u_61]; exact hI.a113) hLD σ_47 (by rw [w_65]; exact hts_48) (by rw [w_65]; exact h1_49) Bd (by rw [w_65]; exact hb_50) (by rw [w_65]; exact (Int.le_trans hb_50 (Int.le_trans hBd (by decide)))) (by rw [w_65]; exact (Or.inr c0_43.1)) (by rw [w_65, w_68, u_61]; exact c0_43.2)) (cwV 4 hts (gwV mw_1584 mw_1586 mw_54 mw_88 mw_1587) rfl rfl rfl hv_X12_goClone ⟨Nat.le_of_ble_eq_true rfl, Nat.le_of_ble_eq_true rfl⟩) ⟨PcT_blind, hg_recv hK o_c_74 rfl, PcT_pre hK hH⟩ rfl rfl hl.1 rfl (lv_room (Nat.le_of_ble_eq_true rfl)) dX12_binds_43 ⟨Nat.zero_le _, Nat.zero_le _⟩) hS (fun q _ h => AF.mono hS.1 h) (fun q h => AF.mono hS.1 h) (fun x_77 ux_77 t H locs ht hvm hx_77 hB hz hk hS => ?_)
    obtain ⟨eTx_77, eGx_77⟩ := hx_77
    obtain ⟨G_78, eG_78⟩ : ∃ z, z = ux_77.2 := ⟨_, rfl⟩
    rw [← eG_78] at eGx_77
    obtain ⟨hfr_79, hex_80⟩ := eGx_77
    have fr_81 : FR [107, 108, 109, 110, 114, 127, 128, 104, 105, 122] [(g.2.2 100), (g.2.2 115), (g.2.2 125), (g.2.2 126), (g.2.2 121)] [106] G G_78 := FR.tr fr_58 hfr_79 (by decide) (fun b h => ⟨h.1, h.2.1, h.2.2.1, h.2.2.2.1, trivial⟩) (by decide)
    have u_82 : G_78.1 102 = (G.1 102) := (hfr_79.1 102 (by decide)).trans u_59
    have u_83 : G_78.1 104 = (G.1 104) := (hfr_79.1 104 (by decide)).trans u_60
    have u_84 : G_78.1 113 = (G.1 113) := (hfr_79.1 113 (by decide)).trans u_61
    have u_85 : G_78.1 133 = (G.1 133) := (hfr_79.1 133 (by decide)).trans u_62
    have u_86 : G_78.1 137 = (G.1 137) := (hfr_79.1 137 (by decide)).trans u_63
    have u_87 : G_78.1 105 = 0 := (hfr_79.1 105 (by decide)).trans u_64
    have u_88 : G_78.1 122 = n_72 := (hfr_79.1 122 (by decide)).trans en_72
    have w_89 : G_78.2.1 (g.2.2 140) = (G.2.1 (g.2.2 140)) := (hfr_79.2.1 (g.2.2 140) ⟨(ne_kd hmk.2.2.2.2.2.2.2.2.2.2.2.2.2.2.2.2.2.2.1 hmk.1 (by decide)), (ne_kd hmk.2.2.2.2.2.2.2.2.2.2.2.2.2.2.2.2.2.2.1 hmk.2.2.2.1 (by decide)), (ne_kd hmk.2.2.2.2.2.2.2.2.2.2.2.2.2.2.2.2.2.2.1 hmk.2.2.2.2.2.2.2.2.1 (by decide)), (ne_kd hmk.2.2.2.2.2.2.2.2.2.2.2.2.2.2.2.2.2.2.1 hmk.2.2.2.2.2.2.2.2.2.1 (by decide)), trivial⟩).trans w_66
    have w_90 : G_78.2.1 (g.2.2 141) = (G.2.1 (g.2.2 141)) := (hfr_79.2.1 (g.2.2 141) ⟨(ne_kd hmk.2.2.2.2.2.2.2.2.2.2.2.2.2.2.2.2.2.2.2.1 hmk.1 (by decide)), (ne_kd hmk.2.2.2.2.2.2.2.2.2.2.2.2.2.2.2.2.2.2.2.1 hmk.2.2.2.1 (by decide)), (ne_kd hmk.2.2.2.2.2.2.2.2.2.2.2.2.2.2.2.2.2.2.2.1 hmk.2.2.2.2.2.2.2.2.1 (by decide)), (ne_kd hmk.2.2.2.2.2.2.2.2.2.2.2.2.2.2.2.2.2.2.2.1 hmk.2.2.2.2.2.2.2.2.2.1 (by decide)), trivial⟩).trans w_67
    have w_91 : G_78.2.1 (g.2.2 111) = (G.2.1 (g.2.2 111)) := (hfr_79.2.1 (g.2.2 111) ⟨(ne_kd hmk.2.2.2.2.2.2.2.2.2.2.2.2.2.2.2.2.2.2.2.2.1 hmk.1 (by decide)), (ne_kd hmk.2.2.2.2.2.2.2.2.2.2.2.2.2.2.2.2.2.2.2.2.1 hmk.2.2.2.1 (by decide)), (ne_kd hmk.2.2.2.2.2.2.2.2.2.2.2.2.2.2.2.2.2.2.2.2.1 hmk.2.2.2.2.2.2.2.2.1 (by decide)), (ne_kd hmk.2.2.2.2.2.2.2.2.2.2.2.2.2.2.2.2.2.2.2.2.1 hmk.2.2.2.2.2.2.2.2.2.1 (by decide)), trivial⟩).trans w_68
    have w_92 : G_78.2.1 (g.2.2 121) = f_71 := (hfr_79.2.1 (g.2.2 121) ⟨(ne_kd hmk.2.2.2.2.2.1 hmk.1 (by decide)), (ne_kd hmk.2.2.2.2.2.1 hmk.2.2.2.1 (by decide)), (ne_kd hmk.2.2.2.2.2.1 hmk.2.2.2.2.2.2.2.2.1 (by decide)), (ne_kd hmk.2.2.2.2.2.1 hmk.2.2.2.2.2.2.2.2.2.1 (by decide)), trivial⟩).trans ef_71
    have u_93 : G_78.2.2 111 = some (g.2.2 111) := (hfr_79.2.2 111 (by decide)).trans u_69
    have u_94 : G_78.2.2 112 = some (g.2.2 112) := (hfr_79.2.2 112 (by decide)).trans u_70
    obtain ⟨f_95, ef_95⟩ : ∃ z : Nat → Int32, G_78.2.1 (g.2.2 100) = z := ⟨_, rfl⟩
    have gc_96 := hex_80
    rw [ef_95, w_65, w_68, u_61] at gc_96
    have hH : HT g Ty G_78 H := by rw [← ht, ← eTx_77, eG_78]; exact hB
    obtain ⟨_, ⟨rfl, t_98, hk_99⟩, o_c_97⟩ := hH h0 _ k_h0
    refine va_calli (va_runV (As := [.int x_77]) (rest := []) ⟨hx, hb, hml, hown, hts⟩ (c_X12_tellCame l g Ty G_78 H.size h0 x_77 k_h0) (cwV 1 hts (gwV mw_1605 mw_1607 mw_57 mw_88 mw_1608) rfl rfl rfl hv_X12_tellCame ⟨Nat.le_of_ble_eq_true rfl, Nat.le_of_ble_eq_true rfl⟩) ⟨PcT_blind, hg_recv hK o_c_97 rfl, PcT_pre hK hH⟩ rfl rfl hl.1 rfl (lv_room (Nat.le_of_ble_eq_true rfl)) dX12_binds_46 ⟨Nat.zero_le _, Nat.zero_le _⟩) hS (fun q _ h => AF.mono hS.1 h) (fun q h => AF.mono hS.1 h) (fun x_100 ux_100 t H locs ht hvm hx_100 hB hz hk hS => ?_)
    obtain ⟨eTx_100, eGx_100⟩ := hx_100
    obtain ⟨G_101, eG_101⟩ : ∃ z, z = ux_100.2 := ⟨_, rfl⟩
    rw [← eG_101] at eGx_100
    obtain ⟨hfr_102, hex_103⟩ := eGx_100
    have fr_104 : FR [107, 108, 109, 110, 114, 127, 128, 104, 105, 122] [(g.2.2 100), (g.2.2 115), (g.2.2 125), (g.2.2 126), (g.2.2 121)] [106] G G_101 := FR.tr fr_81 hfr_102 (by decide) (fun _ _ => trivial) (by decide)
    have u_105 : G_101.1 102 = (G.1 102) := (hfr_102.1 102 (by decide)).trans u_82
    have u_106 : G_101.1 113 = (G.1 113) := (hfr_102.1 113 (by decide)).trans u_84
    have u_107 : G_101.1 133 = (G.1 133) := (hfr_102.1 133 (by decide)).trans u_85
    have u_108 : G_101.1 137 = (G.1 137) := (hfr_102.1 137 (by decide)).trans u_86
    have u_109 : G_101.1 105 = 0 := (hfr_102.1 105 (by decide)).trans u_87
    have u_110 : G_101.1 122 = n_72 := (hfr_102.1 122 (by decide)).trans u_88
    have w_111 : G_101.2.1 (g.2.2 140) = (G.2.1 (g.2.2 140)) := (hfr_102.2.1 (g.2.2 140) trivial).trans w_89
    have w_112 : G_101.2.1 (g.2.2 141) = (G.2.1 (g.2.2 141)) := (hfr_102.2.1 (g.2.2 141) trivial).trans w_90
    have w_113 : G_101.2.1 (g.2.2 111) = (G.2.1 (g.2.2 111)) := (hfr_102.2.1 (g.2.2 111) trivial).trans w_91
    have w_114 : G_101.2.1 (g.2.2 121) = f_71 := (hfr_102.2.1 (g.2.2 121) trivial).trans w_92
    have w_115 : G_101.2.1 (g.2.2 100) = f_95 := (hfr_102.2.1 (g.2.2 100) trivial).trans ef_95
    have u_116 : G_101.2.2 111 = some (g.2.2 111) := (hfr_102.2.2 111 (by decide)).trans u_93
    have u_117 : G_101.2.2 112 = some (g.2.2 112) := (hfr_102.2.2 112 (by decide)).trans u_94
    have t4_118 : rgI (2) (2) (G_101.1 104) := hex_103
    have hH : HT g Ty G_101 H := by rw [← ht, ← eTx_100, eG_101]; exact hB
    exact W.iret hx hb hr (fun t ht hWm => ⟨⟨x_100, (Ty, G_101), rfl, ⟨rfl, ⟨fr_104, ⟨(by rw [u_105]; exact (rg_w hI.a102 (by decide) (by decide))), (rg_w t4_118 (by decide) (by decide)), (by rw [u_106]; exact (rg_w hI.a113 (by decide) (by decide))), (by rw [u_110]; exact (rg_w rm_73.1 (by decide) (by decide))), (by rw [u_107]; exact (rg_w hI.a133 (by decide) (by decide))), (by rw [u_108]; exact (rg_w hI.a137 (by decide) (by decide))), u_116, u_117, (by rw [w_115]; exact (TI.hi gc_96.1 (by omega))), (by rw [w_114, u_110]; exact fun i hi => TI.hi (rm_73.2 i hi) (by omega)), (hI.ke2 (show Bd ≤ Bd + 1000 by omega) w_111 w_112)⟩⟩⟩, by show HT g Ty G_101 t.heap; rw [ht]; exact hH⟩, hS.F ht⟩) hS.2.2 dX12_binds_49
  · have r_119 : rgI (-9) (-1) x_23 := rg_w (rg_ltL rx_23 rl_0 (nle_lt c_41)) (by decide) (by decide)
    refine lv_iload hx hb dX12_binds_23 (lv_at hl 0 rfl) ?_
    exact W.iret hx hb hr (fun t ht hWm => ⟨⟨x_23, (Ty, G_24), rfl, ⟨rfl, ⟨fr_25, ⟨(by rw [u_26]; exact (rg_w hI.a102 (by decide) (by decide))), (by rw [u_27]; exact (rg_w hI.a104 (by decide) (by decide))), (by rw [u_28]; exact (rg_w hI.a113 (by decide) (by decide))), (by rw [u_29]; exact (rg_w hI.a122 (by decide) (by decide))), (by rw [u_30]; exact (rg_w hI.a133 (by decide) (by decide))), (by rw [u_31]; exact (rg_w hI.a137 (by decide) (by decide))), u_38, u_39, (by rw [w_33]; exact (hI.ti.hi (show Bd ≤ Bd + 1000 by omega))), (hI.un2 (show Bd ≤ Bd + 1000 by omega) w_34 u_29), (hI.ke2 (show Bd ≤ Bd + 1000 by omega) w_35 w_36)⟩⟩⟩, by show HT g Ty G_24 t.heap; rw [ht]; exact hH⟩, hS.F ht⟩) hS.2.2 dX12_binds_25

set_option maxHeartbeats 4000000 in
set_option maxRecDepth 100000 in
theorem c_X12_trees (l : Launch) (g : Gx) (Ty : TyM) (G : Gh) (sz : Nat) (h0 : Nat) (a0 : Int32) (a1 : Int32) (a2 : Int32) (k_h0 : Ty h0 = some (22, 0)) (Bd : Int) (hI : OI g Bd G) (hBd : Bd ≤ 1900000) (hLD : LD g) : Met l yX12_trees (wsG yX12_trees cX12_trees 5 (some .int)) ({ frames := 342, cells := 0, slots := 0, locals := 8026 }) (PcT g Ty G sz [.ref h0, .int a0, .int a1, .int a2]) (QwI g Ty sz (fun r u => u.1 = Ty ∧ FR [107, 108, 109, 110, 114, 127, 128, 104, 105, 122] [(g.2.2 100), (g.2.2 115), (g.2.2 125), (g.2.2 126), (g.2.2 121), (g.2.2 129)] [106] G u.2 ∧ OI g (Bd + 1000) u.2)) 0 0 (AF Ty sz) := by
  refine Met.ofW (cc := cX12_trees) (maxL := 5) (ret := (some .int)) (by decide) rfl ?_
  intro p e s m args below meth c s₁ B hml hv
  obtain ⟨rfl, hsz, hK, hH⟩ := hv
  subst hsz
  have hx := B.exec
  have hb := B.bytes
  have hr := B.returns
  have hts := atoms_spec (ws := (wsG yX12_trees cX12_trees 5 (some .int))) B.pre
  have hG : ∀ w ∈ GW, w.before ([.ref h0, .int a0, .int a1, .int a2] : List Value).toArray s = true := fun w h => hts w (List.mem_cons_of_mem _ h)
  have hown : s.vm.findClass RX12 = some m.cls := findClass_of_methodNamed B.named
  have hlocks := B.notSynchronized
  have hl := lv_entry [.ref h0, .int a0, .int a1, .int a2] (n := 5) (Nat.le_of_ble_eq_true rfl)
  rw [lg_entry_eq]
  generalize (lg_sl [.ref h0, .int a0, .int a1, .int a2] ++ List.replicate (5 - (lg_sl [.ref h0, .int a0, .int a1, .int a2]).length) Slot.unset).toArray = ls at hl ⊢
  have hl : lv_has ls 5 [(0, .ref h0), (1, .int a0), (2, .int a1), (3, .int a2)] := hl
  have hmk : mdK g Ty := mdk_of hH k_h0
  have hS : va_S (AF Ty s.heap.size) s.heap s.heap [] := va_S.rf
  obtain ⟨⟨σ0, hTS0⟩, h10, hBB0⟩ := id hI.ti
  obtain ⟨ρ, hT⟩ := hTS0.1
  refine lv_aload_n hx hb dX12_trees_0 rfl (lv_at hl 0 rfl) ?_
  refine lv_iconst (v := 0) hx hb dX12_trees_1 (by decide) ?_
  obtain ⟨_, ⟨rfl, t_2, hk_3⟩, o_c_1⟩ := hH h0 _ k_h0
  refine hg_put (ty := .int) hx hb hG igX12 tyX12 tyX12_ok nmX12 hown hK hS o_c_1 (AF.of k_h0) rfl 5 (by decide) (hG _ mw_1289) rfl (by decide +kernel) rfl rfl (Nat.le_of_ble_eq_true rfl) dX12_trees_2 (fun H locs o_c_1 hz oq hS => ?_)
  obtain ⟨G_4, eG_4⟩ : ∃ z : Gh, z = gset G 105 0 := ⟨_, rfl⟩
  have hH : HT g Ty G_4 H := by rw [eG_4]; exact HT.putN 105 0 hH k_h0 ⟨rfl, t_2, hk_3⟩ o_c_1 oq (Or.inr (Or.inr (Or.inr (Or.inr (Or.inr ⟨by decide, t_2⟩)))))
  have fr_5 : FR [107, 108, 109, 110, 114, 127, 128, 104, 105, 122] [(g.2.2 100), (g.2.2 115), (g.2.2 125), (g.2.2 126), (g.2.2 121), (g.2.2 129)] [106] G G_4 := FR.n FR.rf eG_4 (by decide)
  have u_6 : G_4.1 102 = (G.1 102) := by rw [eG_4]; exact (gs_ne (by decide))
  have u_7 : G_4.1 104 = (G.1 104) := by rw [eG_4]; exact (gs_ne (by decide))
  have u_8 : G_4.1 113 = (G.1 113) := by rw [eG_4]; exact (gs_ne (by decide))
  have u_9 : G_4.1 122 = (G.1 122) := by rw [eG_4]; exact (gs_ne (by decide))
  have u_10 : G_4.1 133 = (G.1 133) := by rw [eG_4]; exact (gs_ne (by decide))
  have u_11 : G_4.1 137 = (G.1 137) := by rw [eG_4]; exact (gs_ne (by decide))
  have u_12 : G_4.1 105 = 0 := by rw [eG_4]; exact gs_eq
  have w_13 : G_4.2.1 (g.2.2 100) = (G.2.1 (g.2.2 100)) := by rw [eG_4]; exact rfl
  have w_14 : G_4.2.1 (g.2.2 121) = (G.2.1 (g.2.2 121)) := by rw [eG_4]; exact rfl
  have w_15 : G_4.2.1 (g.2.2 140) = (G.2.1 (g.2.2 140)) := by rw [eG_4]; exact rfl
  have w_16 : G_4.2.1 (g.2.2 141) = (G.2.1 (g.2.2 141)) := by rw [eG_4]; exact rfl
  have w_17 : G_4.2.1 (g.2.2 111) = (G.2.1 (g.2.2 111)) := by rw [eG_4]; exact rfl
  have w_18 : G_4.2.1 (g.2.2 129) = (G.2.1 (g.2.2 129)) := by rw [eG_4]; exact rfl
  have u_19 : G_4.2.2 111 = some (g.2.2 111) := by rw [eG_4]; exact hI.r111
  have u_20 : G_4.2.2 112 = some (g.2.2 112) := by rw [eG_4]; exact hI.r112
  clear oq hz
  refine lv_aload_n hx hb dX12_trees_5 rfl (lv_at hl 0 rfl) ?_
  refine lv_aload_n hx hb dX12_trees_6 rfl (lv_at hl 0 rfl) ?_
  obtain ⟨_, ⟨rfl, t_22, hk_23⟩, o_c_21⟩ := hH h0 _ k_h0
  refine hg_get hx hb hG igX12 hown hK o_c_21 rfl 0 (by decide) (hG _ mw_1284) rfl dX12_trees_7 ?_
  refine lv_iload_n hx hb dX12_trees_10 rfl (lv_at hl 1 rfl) ?_
  refine lv_iload_n hx hb dX12_trees_11 rfl (lv_at hl 2 rfl) ?_
  refine lv_iload_n hx hb dX12_trees_12 rfl (lv_at hl 3 rfl) ?_
  refine vp_callSi (W.runV (As := [.ref (g.2.2 100), .int a0, .int a1, .int a2]) (rest := []) ⟨hx, hb, hml, hown, hts⟩ (c_X12_refusesTree l g Ty G_4 h0 (g.2.2 100) a0 a1 a2 k_h0 (hk_23.1) ρ (by rw [w_13]; exact hT)) (cwV 4 hts (gwV mw_1621 mw_1623 mw_59 mw_88 mw_1624) rfl rfl rfl hv_X12_refusesTree ⟨Nat.le_of_ble_eq_true rfl, Nat.le_of_ble_eq_true rfl⟩) ⟨PcH_blind, hg_recv hK o_c_21 rfl, PcH_pre hK hH⟩ rfl rfl hl.1 rfl (lv_room (Nat.le_of_ble_eq_true rfl)) dX12_trees_13 ⟨Nat.zero_le _, Nat.zero_le _⟩) (fun x_24 hx_24 => ?_)
  have rx_24 : rgI (-9) (0) x_24 := hx_24.1
  have tx_25 := hx_24.2
  try rw [w_13] at tx_25
  try rw [w_17] at tx_25
  try rw [u_8] at tx_25
  refine lv_istore (lv' := [(4, .int x_24), (0, .ref h0), (1, .int a0), (2, .int a1), (3, .int a2)]) hx hb dX12_trees_16 hl (by decide) rfl (fun ls hl => ?_)
  refine lv_iload hx hb dX12_trees_18 (lv_at hl 0 rfl) ?_
  refine lv_if_ge (tgt := 26) hx hb dX12_trees_20 (by decide) (fun c_26 => ?_) (fun c_26 => ?_)
  · have r_27 : rgI (0) (0) x_24 := rg_w (rg_leR rl_0 rx_24 c_26) (by decide) (by decide)
    refine lv_aload_n hx hb dX12_trees_26 rfl (lv_at hl 1 rfl) ?_
    have c0_28 := tx_25 (rg_00 r_27 c_26)
    have r_29 : rgI (0) (23) a0 := rg_w (c0_28.1.1) (by decide) (by decide)
    have r_30 : rgI (0) (23) a1 := rg_w (c0_28.2.1.1) (by decide) (by decide)
    have r_31 : rgI (0) (3) a2 := rg_w (c0_28.2.2.1) (by decide) (by decide)
    refine lv_aload_n hx hb dX12_trees_27 rfl (lv_at hl 1 rfl) ?_
    refine hg_get hx hb hG igX12 hown hK o_c_21 rfl 0 (by decide) (hG _ mw_1284) rfl dX12_trees_28 ?_
    refine va_callv (va_runV (As := [.ref (g.2.2 100)]) (rest := []) ⟨hx, hb, hml, hown, hts⟩ (c_X12_remember l g Ty G_4 H.size h0 (g.2.2 100) k_h0 (hk_23.1) Bd (by rw [w_13]; exact hI.ti) (by rw [u_9]; exact (rg_w hI.a122 (by decide) (by decide))) (by rw [u_9, w_14]; exact hI.un)) (cwV 1 hts (gwV mw_1577 mw_1579 mw_53 mw_88 mw_1580) rfl rfl rfl hv_X12_remember ⟨Nat.le_of_ble_eq_true rfl, Nat.le_of_ble_eq_true rfl⟩) ⟨PcT_blind, hg_recv hK o_c_21 rfl, PcT_pre hK hH⟩ rfl rfl hl.1 rfl (lv_room (Nat.le_of_ble_eq_true rfl)) dX12_trees_31 ⟨Nat.zero_le _, Nat.zero_le _⟩) hS (fun q _ h => AF.mono hS.1 h) (fun q h => AF.mono hS.1 h) (fun ux_32 t H locs ht hvm hx_32 hB hz hk hS => ?_)
    obtain ⟨eTx_32, eGx_32⟩ := hx_32
    obtain ⟨G_33, eG_33⟩ : ∃ z, z = ux_32.2 := ⟨_, rfl⟩
    rw [← eG_33] at eGx_32
    obtain ⟨hfr_34, hex_35⟩ := eGx_32
    have fr_36 : FR [107, 108, 109, 110, 114, 127, 128, 104, 105, 122] [(g.2.2 100), (g.2.2 115), (g.2.2 125), (g.2.2 126), (g.2.2 121), (g.2.2 129)] [106] G G_33 := FR.tr fr_5 hfr_34 (by decide) (fun b h => ⟨h.2.2.2.2.1, trivial⟩) (by decide)
    have u_37 : G_33.1 102 = (G.1 102) := (hfr_34.1 102 (by decide)).trans u_6
    have u_38 : G_33.1 104 = (G.1 104) := (hfr_34.1 104 (by decide)).trans u_7
    have u_39 : G_33.1 113 = (G.1 113) := (hfr_34.1 113 (by decide)).trans u_8
    have u_40 : G_33.1 133 = (G.1 133) := (hfr_34.1 133 (by decide)).trans u_10
    have u_41 : G_33.1 137 = (G.1 137) := (hfr_34.1 137 (by decide)).trans u_11
    have u_42 : G_33.1 105 = 0 := (hfr_34.1 105 (by decide)).trans u_12
    have w_43 : G_33.2.1 (g.2.2 100) = (G.2.1 (g.2.2 100)) := (hfr_34.2.1 (g.2.2 100) ⟨(ne_kd hmk.1 hmk.2.2.2.2.2.1 (by decide)), trivial⟩).trans w_13
    have w_44 : G_33.2.1 (g.2.2 140) = (G.2.1 (g.2.2 140)) := (hfr_34.2.1 (g.2.2 140) ⟨(ne_kd hmk.2.2.2.2.2.2.2.2.2.2.2.2.2.2.2.2.2.2.1 hmk.2.2.2.2.2.1 (by decide)), trivial⟩).trans w_15
    have w_45 : G_33.2.1 (g.2.2 141) = (G.2.1 (g.2.2 141)) := (hfr_34.2.1 (g.2.2 141) ⟨(ne_kd hmk.2.2.2.2.2.2.2.2.2.2.2.2.2.2.2.2.2.2.2.1 hmk.2.2.2.2.2.1 (by decide)), trivial⟩).trans w_16
    have w_46 : G_33.2.1 (g.2.2 111) = (G.2.1 (g.2.2 111)) := (hfr_34.2.1 (g.2.2 111) ⟨(ne_kd hmk.2.2.2.2.2.2.2.2.2.2.2.2.2.2.2.2.2.2.2.2.1 hmk.2.2.2.2.2.1 (by decide)), trivial⟩).trans w_17
    have w_47 : G_33.2.1 (g.2.2 129) = (G.2.1 (g.2.2 129)) := (hfr_34.2.1 (g.2.2 129) ⟨(ne_kd hmk.2.2.2.2.2.2.2.2.2.2.1 hmk.2.2.2.2.2.1 (by decide)), trivial⟩).trans w_18
    have u_48 : G_33.2.2 111 = some (g.2.2 111) := (hfr_34.2.2 111 (by decide)).trans u_19
    have u_49 : G_33.2.2 112 = some (g.2.2 112) := (hfr_34.2.2 112 (by decide)).trans u_20
    obtain ⟨f_50, ef_50⟩ : ∃ z : Nat → Int32, G_33.2.1 (g.2.2 121) = z := ⟨_, rfl⟩
    obtain ⟨n_51, en_51⟩ : ∃ z : Int32, G_33.1 122 = z := ⟨_, rfl⟩
    have rm_52 := hex_35
    rw [ef_50, en_51] at rm_52
    have hH : HT g Ty G_33 H := by rw [← ht, ← eTx_32, eG_33]; exact hB
    refine lv_aload_n hx hb dX12_trees_34 rfl (lv_at hl 1 rfl) ?_
    refine lv_aload_n hx hb dX12_trees_35 rfl (lv_at hl 1 rfl) ?_
    refine lv_aload_n hx hb dX12_trees_36 rfl (lv_at hl 1 rfl) ?_
    obtain ⟨_, ⟨rfl, t_54, hk_55⟩, o_c_53⟩ := hH h0 _ k_h0
    refine hg_get hx hb hG igX12 hown hK o_c_53 rfl 0 (by decide) (hG _ mw_1284) rfl dX12_trees_37 ?_
    refine lv_iload_n hx hb dX12_trees_40 rfl (lv_at hl 2 rfl) ?_
    refine lv_iload_n hx hb dX12_trees_41 rfl (lv_at hl 3 rfl) ?_
    refine lv_iload_n hx hb dX12_trees_42 rfl (lv_at hl 4 rfl) ?_
    refine va_calli (va_runV (As := [.ref (g.2.2 100), .int a0, .int a1, .int a2]) (rest := [.ref h0]) ⟨hx, hb, hml, hown, hts⟩ (c_X12_goTree l g Ty G_33 H.size h0 (g.2.2 100) a0 a1 a2 k_h0 (hk_55.1) (rg_w r_29 (by decide) (by decide)) (rg_w r_30 (by decide) (by decide)) (rg_w r_31 (by decide) (by decide)) (hLD 100 (by decide) 129 (by decide) (by decide)) Bd (by rw [w_43]; exact hI.ti) (Int.le_trans hBd (by decide)) (g.2.2 111) hmk.2.2.2.2.2.2.2.2.2.2.2.2.2.2.2.2.2.2.2.2.1 u_48 (by rw [u_39]; exact hI.a113) hLD (by rw [w_43]; exact c0_28)) (cwV 4 hts (gwV mw_1628 mw_1630 mw_60 mw_88 mw_1631) rfl rfl rfl hv_X12_goTree ⟨Nat.le_of_ble_eq_true rfl, Nat.le_of_ble_eq_true rfl⟩) ⟨PcT_blind, hg_recv hK o_c_53 rfl, PcT_pre hK hH⟩ rfl rfl hl.1 rfl (lv_room (Nat.le_of_ble_eq_true rfl)) dX12_trees_43 ⟨Nat.zero_le _, Nat.zero_le _⟩) hS (fun q _ h => AF.mono hS.1 h) (fun q h => AF.mono hS.1 h) (fun x_56 ux_56 t H locs ht hvm hx_56 hB hz hk hS => ?_)
    obtain ⟨eTx_56, eGx_56⟩ := hx_56
    obtain ⟨G_57, eG_57⟩ : ∃ z, z = ux_56.2 := ⟨_, rfl⟩
    rw [← eG_57] at eGx_56
    obtain ⟨hfr_58, hex_59⟩ := eGx_56
    have fr_60 : FR [107, 108, 109, 110, 114, 127, 128, 104, 105, 122] [(g.2.2 100), (g.2.2 115), (g.2.2 125), (g.2.2 126), (g.2.2 121), (g.2.2 129)] [106] G G_57 := FR.tr fr_36 hfr_58 (by decide) (fun b h => ⟨h.1, h.2.1, h.2.2.1, h.2.2.2.1, h.2.2.2.2.2.1, trivial⟩) (by decide)
    have u_61 : G_57.1 102 = (G.1 102) := (hfr_58.1 102 (by decide)).trans u_37
    have u_62 : G_57.1 104 = (G.1 104) := (hfr_58.1 104 (by decide)).trans u_38
    have u_63 : G_57.1 113 = (G.1 113) := (hfr_58.1 113 (by decide)).trans u_39
    have u_64 : G_57.1 133 = (G.1 133) := (hfr_58.1 133 (by decide)).trans u_40
    have u_65 : G_57.1 137 = (G.1 137) := (hfr_58.1 137 (by decide)).trans u_41
    have u_66 : G_57.1 105 = 0 := (hfr_58.1 105 (by decide)).trans u_42
    have u_67 : G_57.1 122 = n_51 := (hfr_58.1 122 (by decide)).trans en_51
    have w_68 : G_57.2.1 (g.2.2 140) = (G.2.1 (g.2.2 140)) := (hfr_58.2.1 (g.2.2 140) ⟨(ne_kd hmk.2.2.2.2.2.2.2.2.2.2.2.2.2.2.2.2.2.2.1 hmk.1 (by decide)), (ne_kd hmk.2.2.2.2.2.2.2.2.2.2.2.2.2.2.2.2.2.2.1 hmk.2.2.2.1 (by decide)), (ne_kd hmk.2.2.2.2.2.2.2.2.2.2.2.2.2.2.2.2.2.2.1 hmk.2.2.2.2.2.2.2.2.1 (by decide)), (ne_kd hmk.2.2.2.2.2.2.2.2.2.2.2.2.2.2.2.2.2.2.1 hmk.2.2.2.2.2.2.2.2.2.1 (by decide)), (ne_kd hmk.2.2.2.2.2.2.2.2.2.2.2.2.2.2.2.2.2.2.1 hmk.2.2.2.2.2.2.2.2.2.2.1 (by decide)), trivial⟩).trans w_44
    have w_69 : G_57.2.1 (g.2.2 141) = (G.2.1 (g.2.2 141)) := (hfr_58.2.1 (g.2.2 141) ⟨(ne_kd hmk.2.2.2.2.2.2.2.2.2.2.2.2.2.2.2.2.2.2.2.1 hmk.1 (by decide)), (ne_kd hmk.2.2.2.2.2.2.2.2.2.2.2.2.2.2.2.2.2.2.2.1 hmk.2.2.2.1 (by decide)), (ne_kd hmk.2.2.2.2.2.2.2.2.2.2.2.2.2.2.2.2.2.2.2.1 hmk.2.2.2.2.2.2.2.2.1 (by decide)), (ne_kd hmk.2.2.2.2.2.2.2.2.2.2.2.2.2.2.2.2.2.2.2.1 hmk.2.2.2.2.2.2.2.2.2.1 (by decide)), (ne_kd hmk.2.2.2.2.2.2.2.2.2.2.2.2.2.2.2.2.2.2.2.1 hmk.2.2.2.2.2.2.2.2.2.2.1 (by decide)), trivial⟩).trans w_45
    have w_70 : G_57.2.1 (g.2.2 111) = (G.2.1 (g.2.2 111)) := (hfr_58.2.1 (g.2.2 111) ⟨(ne_kd hmk.2.2.2.2.2.2.2.2.2.2.2.2.2.2.2.2.2.2.2.2.1 hmk.1 (by decide)), (ne_kd hmk.2.2.2.2.2.2.2.2.2.2.2.2.2.2.2.2.2.2.2.2.1 hmk.2.2.2.1 (by decide)), (ne_kd hmk.2.2.2.2.2.2.2.2.2.2.2.2.2.2.2.2.2.2.2.2.1 hmk.2.2.2.2.2.2.2.2.1 (by decide)), (ne_kd hmk.2.2.2.2.2.2.2.2.2.2.2.2.2.2.2.2.2.2.2.2.1 hmk.2.2.2.2.2.2.2.2.2.1 (by decide)), (ne_kd hmk.2.2.2.2.2.2.2.2.2.2.2.2.2.2.2.2.2.2.2.2.1 hmk.2.2.2.2.2.2.2.2.2.2.1 (by decide)), trivial⟩).trans w_46
    have w_71 : G_57.2.1 (g.2.2 121) = f_50 := (hfr_58.2.1 (g.2.2 121) ⟨(ne_kd hmk.2.2.2.2.2.1 hmk.1 (by decide)), (ne_kd hmk.2.2.2.2.2.1 hmk.2.2.2.1 (by decide)), (ne_kd hmk.2.2.2.2.2.1 hmk.2.2.2.2.2.2.2.2.1 (by decide)), (ne_kd hmk.2.2.2.2.2.1 hmk.2.2.2.2.2.2.2.2.2.1 (by decide)), (ne_kd hmk.2.2.2.2.2.1 hmk.2.2.2.2.2.2.2.2.2.2.1 (by decide)), trivial⟩).trans ef_50
    have u_72 : G_57.2.2 111 = some (g.2.2 111) := (hfr_58.2.2 111 (by decide)).trans u_48
    have u_73 : G_57.2.2 112 = some (g.2.2 112) := (hfr_58.2.2 112 (by decide)).trans u_49
    obtain ⟨f_74, ef_74⟩ : ∃ z : Nat → Int32, G_57.2.1 (g.2.2 100) = z := ⟨_, rfl⟩
    have ti_75 := hex_59
    rw [ef_74] at ti_75
    have hH : HT g Ty G_57 H := by rw [← ht, ← eTx_56, eG_57]; exact hB
    obtain ⟨_, ⟨rfl, t_77, hk_78⟩, o_c_76⟩ := hH h0 _ k_h0
    refine va_calli (va_runV (As := [.int x_56]) (rest := []) ⟨hx, hb, hml, hown, hts⟩ (c_X12_tellCame l g Ty G_57 H.size h0 x_56 k_h0) (cwV 1 hts (gwV mw_1605 mw_1607 mw_57 mw_88 mw_1608) rfl rfl rfl hv_X12_tellCame ⟨Nat.le_of_ble_eq_true rfl, Nat.le_of_ble_eq_true rfl⟩) ⟨PcT_blind, hg_recv hK o_c_76 rfl, PcT_pre hK hH⟩ rfl rfl hl.1 rfl (lv_room (Nat.le_of_ble_eq_true rfl)) dX12_trees_46 ⟨Nat.zero_le _, Nat.zero_le _⟩) hS (fun q _ h => AF.mono hS.1 h) (fun q h => AF.mono hS.1 h) (fun x_79 ux_79 t H locs ht hvm hx_79 hB hz hk hS => ?_)
    obtain ⟨eTx_79, eGx_79⟩ := hx_79
    obtain ⟨G_80, eG_80⟩ : ∃ z, z = ux_79.2 := ⟨_, rfl⟩
    rw [← eG_80] at eGx_79
    obtain ⟨hfr_81, hex_82⟩ := eGx_79
    have fr_83 : FR [107, 108, 109, 110, 114, 127, 128, 104, 105, 122] [(g.2.2 100), (g.2.2 115), (g.2.2 125), (g.2.2 126), (g.2.2 121), (g.2.2 129)] [106] G G_80 := FR.tr fr_60 hfr_81 (by decide) (fun _ _ => trivial) (by decide)
    have u_84 : G_80.1 102 = (G.1 102) := (hfr_81.1 102 (by decide)).trans u_61
    have u_85 : G_80.1 113 = (G.1 113) := (hfr_81.1 113 (by decide)).trans u_63
    have u_86 : G_80.1 133 = (G.1 133) := (hfr_81.1 133 (by decide)).trans u_64
    have u_87 : G_80.1 137 = (G.1 137) := (hfr_81.1 137 (by decide)).trans u_65
    have u_88 : G_80.1 105 = 0 := (hfr_81.1 105 (by decide)).trans u_66
    have u_89 : G_80.1 122 = n_51 := (hfr_81.1 122 (by decide)).trans u_67
    have w_90 : G_80.2.1 (g.2.2 140) = (G.2.1 (g.2.2 140)) := (hfr_81.2.1 (g.2.2 140) trivial).trans w_68
    have w_91 : G_80.2.1 (g.2.2 141) = (G.2.1 (g.2.2 141)) := (hfr_81.2.1 (g.2.2 141) trivial).trans w_69
    have w_92 : G_80.2.1 (g.2.2 111) = (G.2.1 (g.2.2 111)) := (hfr_81.2.1 (g.2.2 111) trivial).trans w_70
    have w_93 : G_80.2.1 (g.2.2 121) = f_50 := (hfr_81.2.1 (g.2.2 121) trivial).trans w_71
    have w_94 : G_80.2.1 (g.2.2 100) = f_74 := (hfr_81.2.1 (g.2.2 100) trivial).trans ef_74
    have u_95 : G_80.2.2 111 = some (g.2.2 111) := (hfr_81.2.2 111 (by decide)).trans u_72
    have u_96 : G_80.2.2 112 = some (g.2.2 112) := (hfr_81.2.2 112 (by decide)).trans u_73
    have t4_97 : rgI (2) (2) (G_80.1 104) := hex_82
    have hH : HT g Ty G_80 H := by rw [← ht, ← eTx_79, eG_80]; exact hB
    exact W.iret hx hb hr (fun t ht hWm => ⟨⟨x_79, (Ty, G_80), rfl, ⟨rfl, ⟨fr_83, ⟨(by rw [u_84]; exact (rg_w hI.a102 (by decide) (by decide))), (rg_w t4_97 (by decide) (by decide)), (by rw [u_85]; exact (rg_w hI.a113 (by decide) (by decide))), (by rw [u_89]; exact (rg_w rm_52.1 (by decide) (by decide))), (by rw [u_86]; exact (rg_w hI.a133 (by decide) (by decide))), (by rw [u_87]; exact (rg_w hI.a137 (by decide) (by decide))), u_95, u_96, (by rw [w_94]; exact (TI.hi ti_75 (by omega))), (by rw [w_93, u_89]; exact fun i hi => TI.hi (rm_52.2 i hi) (by omega)), (hI.ke2 (show Bd ≤ Bd + 1000 by omega) w_90 w_91)⟩⟩⟩, by show HT g Ty G_80 t.heap; rw [ht]; exact hH⟩, hS.F ht⟩) hS.2.2 dX12_trees_49
  · have r_98 : rgI (-9) (-1) x_24 := rg_w (rg_ltL rx_24 rl_0 (nle_lt c_26)) (by decide) (by decide)
    refine lv_iload hx hb dX12_trees_23 (lv_at hl 0 rfl) ?_
    exact W.iret hx hb hr (fun t ht hWm => ⟨⟨x_24, (Ty, G_4), rfl, ⟨rfl, ⟨fr_5, ⟨(by rw [u_6]; exact (rg_w hI.a102 (by decide) (by decide))), (by rw [u_7]; exact (rg_w hI.a104 (by decide) (by decide))), (by rw [u_8]; exact (rg_w hI.a113 (by decide) (by decide))), (by rw [u_9]; exact (rg_w hI.a122 (by decide) (by decide))), (by rw [u_10]; exact (rg_w hI.a133 (by decide) (by decide))), (by rw [u_11]; exact (rg_w hI.a137 (by decide) (by decide))), u_19, u_20, (by rw [w_13]; exact (hI.ti.hi (show Bd ≤ Bd + 1000 by omega))), (hI.un2 (show Bd ≤ Bd + 1000 by omega) w_14 u_9), (hI.ke2 (show Bd ≤ Bd + 1000 by omega) w_15 w_16)⟩⟩⟩, by show HT g Ty G_4 t.heap; rw [ht]; exact hH⟩, hS.F ht⟩) hS.2.2 dX12_trees_25

set_option maxHeartbeats 4000000 in
set_option maxRecDepth 100000 in
theorem c_X12_makes (l : Launch) (g : Gx) (Ty : TyM) (G : Gh) (sz : Nat) (h0 : Nat) (a0 : Int32) (a1 : Int32) (k_h0 : Ty h0 = some (22, 0)) (Bd : Int) (hI : OI g Bd G) (hBd : Bd ≤ 1900000) (hLD : LD g) : Met l yX12_makes (wsG yX12_makes cX12_makes 5 (some .int)) ({ frames := 5, cells := 0, slots := 0, locals := 111 }) (PcT g Ty G sz [.ref h0, .int a0, .int a1]) (QwI g Ty sz (fun r u => u.1 = Ty ∧ FR [104, 105, 122] [(g.2.2 100), (g.2.2 121)] [] G u.2 ∧ OI g (Bd + 1000) u.2)) 0 0 (AF Ty sz) := by
  refine Met.ofW (cc := cX12_makes) (maxL := 5) (ret := (some .int)) (by decide) rfl ?_
  intro p e s m args below meth c s₁ B hml hv
  obtain ⟨rfl, hsz, hK, hH⟩ := hv
  subst hsz
  have hx := B.exec
  have hb := B.bytes
  have hr := B.returns
  have hts := atoms_spec (ws := (wsG yX12_makes cX12_makes 5 (some .int))) B.pre
  have hG : ∀ w ∈ GW, w.before ([.ref h0, .int a0, .int a1] : List Value).toArray s = true := fun w h => hts w (List.mem_cons_of_mem _ h)
  have hown : s.vm.findClass RX12 = some m.cls := findClass_of_methodNamed B.named
  have hlocks := B.notSynchronized
  have hl := lv_entry [.ref h0, .int a0, .int a1] (n := 5) (Nat.le_of_ble_eq_true rfl)
  rw [lg_entry_eq]
  generalize (lg_sl [.ref h0, .int a0, .int a1] ++ List.replicate (5 - (lg_sl [.ref h0, .int a0, .int a1]).length) Slot.unset).toArray = ls at hl ⊢
  have hl : lv_has ls 5 [(0, .ref h0), (1, .int a0), (2, .int a1)] := hl
  have hmk : mdK g Ty := mdk_of hH k_h0
  have hS : va_S (AF Ty s.heap.size) s.heap s.heap [] := va_S.rf
  obtain ⟨⟨σ0, hTS0⟩, h10, hBB0⟩ := id hI.ti
  obtain ⟨ρ, hT⟩ := hTS0.1
  refine lv_aload_n hx hb dX12_makes_0 rfl (lv_at hl 0 rfl) ?_
  refine lv_iconst (v := 0) hx hb dX12_makes_1 (by decide) ?_
  obtain ⟨_, ⟨rfl, t_2, hk_3⟩, o_c_1⟩ := hH h0 _ k_h0
  refine hg_put (ty := .int) hx hb hG igX12 tyX12 tyX12_ok nmX12 hown hK hS o_c_1 (AF.of k_h0) rfl 5 (by decide) (hG _ mw_1289) rfl (by decide +kernel) rfl rfl (Nat.le_of_ble_eq_true rfl) dX12_makes_2 (fun H locs o_c_1 hz oq hS => ?_)
  obtain ⟨G_4, eG_4⟩ : ∃ z : Gh, z = gset G 105 0 := ⟨_, rfl⟩
  have hH : HT g Ty G_4 H := by rw [eG_4]; exact HT.putN 105 0 hH k_h0 ⟨rfl, t_2, hk_3⟩ o_c_1 oq (Or.inr (Or.inr (Or.inr (Or.inr (Or.inr ⟨by decide, t_2⟩)))))
  have fr_5 : FR [104, 105, 122] [(g.2.2 100), (g.2.2 121)] [] G G_4 := FR.n FR.rf eG_4 (by decide)
  have u_6 : G_4.1 102 = (G.1 102) := by rw [eG_4]; exact (gs_ne (by decide))
  have u_7 : G_4.1 104 = (G.1 104) := by rw [eG_4]; exact (gs_ne (by decide))
  have u_8 : G_4.1 113 = (G.1 113) := by rw [eG_4]; exact (gs_ne (by decide))
  have u_9 : G_4.1 122 = (G.1 122) := by rw [eG_4]; exact (gs_ne (by decide))
  have u_10 : G_4.1 133 = (G.1 133) := by rw [eG_4]; exact (gs_ne (by decide))
  have u_11 : G_4.1 137 = (G.1 137) := by rw [eG_4]; exact (gs_ne (by decide))
  have u_12 : G_4.1 105 = 0 := by rw [eG_4]; exact gs_eq
  have w_13 : G_4.2.1 (g.2.2 100) = (G.2.1 (g.2.2 100)) := by rw [eG_4]; exact rfl
  have w_14 : G_4.2.1 (g.2.2 121) = (G.2.1 (g.2.2 121)) := by rw [eG_4]; exact rfl
  have w_15 : G_4.2.1 (g.2.2 140) = (G.2.1 (g.2.2 140)) := by rw [eG_4]; exact rfl
  have w_16 : G_4.2.1 (g.2.2 141) = (G.2.1 (g.2.2 141)) := by rw [eG_4]; exact rfl
  have w_17 : G_4.2.1 (g.2.2 111) = (G.2.1 (g.2.2 111)) := by rw [eG_4]; exact rfl
  have u_18 : G_4.2.2 111 = some (g.2.2 111) := by rw [eG_4]; exact hI.r111
  have u_19 : G_4.2.2 112 = some (g.2.2 112) := by rw [eG_4]; exact hI.r112
  clear oq hz
  refine lv_aload_n hx hb dX12_makes_5 rfl (lv_at hl 0 rfl) ?_
  obtain ⟨_, ⟨rfl, t_21, hk_22⟩, o_c_20⟩ := hH h0 _ k_h0
  refine hg_get hx hb hG igX12 hown hK o_c_20 rfl 0 (by decide) (hG _ mw_1284) rfl dX12_makes_6 ?_
  refine lv_iload_n hx hb dX12_makes_9 rfl (lv_at hl 1 rfl) ?_
  refine lv_iload_n hx hb dX12_makes_10 rfl (lv_at hl 2 rfl) ?_
  refine vp_callSi (W.runS (As := [.ref (g.2.2 100), .int a0, .int a1]) (rest := []) ⟨hx, hb, hml, hown, hts⟩ (c_X12_refusesMaking l g Ty G_4 (g.2.2 100) a0 a1 (hk_22.1)) (cwSx 3 hts hG (gwC mw_1642) mw_88 mw_1640 mw_1641 rfl rfl rfl hd_X12_refusesMaking ⟨Nat.le_of_ble_eq_true rfl, Nat.le_of_ble_eq_true rfl⟩) ⟨PcH_blind, PcH_pre hK hH⟩ rfl rfl hl.1 rfl (lv_room (Nat.le_of_ble_eq_true rfl)) dX12_makes_11 ⟨Nat.zero_le _, Nat.zero_le _⟩) (fun x_23 hx_23 => ?_)
  have rx_23 : rgI (-2) (0) x_23 := hx_23.1
  have ex_24 : x_23 = F_X12_refusesMaking (G.2.1 (g.2.2 100)) a0 a1 := by rw [← w_13]; exact hx_23.2
  refine lv_istore_n (lv' := [(3, .int x_23), (0, .ref h0), (1, .int a0), (2, .int a1)]) hx hb dX12_makes_14 rfl hl (by decide) rfl (fun ls hl => ?_)
  refine lv_iload_n hx hb dX12_makes_15 rfl (lv_at hl 0 rfl) ?_
  refine lv_if_ge (tgt := 21) hx hb dX12_makes_16 (by decide) (fun c_25 => ?_) (fun c_25 => ?_)
  · have r_26 : rgI (0) (0) x_23 := rg_w (rg_leR rl_0 rx_23 c_25) (by decide) (by decide)
    have th_27 : thr (G.2.1 (g.2.2 100)) a0 := rk_0 ex_24 r_26 c_25
    have r_28 : rgI (0) (23) a0 := rg_w (th_27.1) (by decide) (by decide)
    refine lv_aload_n hx hb dX12_makes_21 rfl (lv_at hl 1 rfl) ?_
    refine lv_aload_n hx hb dX12_makes_22 rfl (lv_at hl 1 rfl) ?_
    refine hg_get hx hb hG igX12 hown hK o_c_20 rfl 0 (by decide) (hG _ mw_1284) rfl dX12_makes_23 ?_
    refine va_callv (va_runV (As := [.ref (g.2.2 100)]) (rest := []) ⟨hx, hb, hml, hown, hts⟩ (c_X12_remember l g Ty G_4 H.size h0 (g.2.2 100) k_h0 (hk_22.1) Bd (by rw [w_13]; exact hI.ti) (by rw [u_9]; exact (rg_w hI.a122 (by decide) (by decide))) (by rw [u_9, w_14]; exact hI.un)) (cwV 1 hts (gwV mw_1577 mw_1579 mw_53 mw_88 mw_1580) rfl rfl rfl hv_X12_remember ⟨Nat.le_of_ble_eq_true rfl, Nat.le_of_ble_eq_true rfl⟩) ⟨PcT_blind, hg_recv hK o_c_20 rfl, PcT_pre hK hH⟩ rfl rfl hl.1 rfl (lv_room (Nat.le_of_ble_eq_true rfl)) dX12_makes_26 ⟨Nat.zero_le _, Nat.zero_le _⟩) hS (fun q _ h => AF.mono hS.1 h) (fun q h => AF.mono hS.1 h) (fun ux_29 t H locs ht hvm hx_29 hB hz hk hS => ?_)
    obtain ⟨eTx_29, eGx_29⟩ := hx_29
    obtain ⟨G_30, eG_30⟩ : ∃ z, z = ux_29.2 := ⟨_, rfl⟩
    rw [← eG_30] at eGx_29
    obtain ⟨hfr_31, hex_32⟩ := eGx_29
    have fr_33 : FR [104, 105, 122] [(g.2.2 100), (g.2.2 121)] [] G G_30 := FR.tr fr_5 hfr_31 (by decide) (fun b h => ⟨h.2.1, trivial⟩) (by decide)
    have u_34 : G_30.1 102 = (G.1 102) := (hfr_31.1 102 (by decide)).trans u_6
    have u_35 : G_30.1 104 = (G.1 104) := (hfr_31.1 104 (by decide)).trans u_7
    have u_36 : G_30.1 113 = (G.1 113) := (hfr_31.1 113 (by decide)).trans u_8
    have u_37 : G_30.1 133 = (G.1 133) := (hfr_31.1 133 (by decide)).trans u_10
    have u_38 : G_30.1 137 = (G.1 137) := (hfr_31.1 137 (by decide)).trans u_11
    have u_39 : G_30.1 105 = 0 := (hfr_31.1 105 (by decide)).trans u_12
    have w_40 : G_30.2.1 (g.2.2 100) = (G.2.1 (g.2.2 100)) := (hfr_31.2.1 (g.2.2 100) ⟨(ne_kd hmk.1 hmk.2.2.2.2.2.1 (by decide)), trivial⟩).trans w_13
    have w_41 : G_30.2.1 (g.2.2 140) = (G.2.1 (g.2.2 140)) := (hfr_31.2.1 (g.2.2 140) ⟨(ne_kd hmk.2.2.2.2.2.2.2.2.2.2.2.2.2.2.2.2.2.2.1 hmk.2.2.2.2.2.1 (by decide)), trivial⟩).trans w_15
    have w_42 : G_30.2.1 (g.2.2 141) = (G.2.1 (g.2.2 141)) := (hfr_31.2.1 (g.2.2 141) ⟨(ne_kd hmk.2.2.2.2.2.2.2.2.2.2.2.2.2.2.2.2.2.2.2.1 hmk.2.2.2.2.2.1 (by decide)), trivial⟩).trans w_16
    have w_43 : G_30.2.1 (g.2.2 111) = (G.2.1 (g.2.2 111)) := (hfr_31.2.1 (g.2.2 111) ⟨(ne_kd hmk.2.2.2.2.2.2.2.2.2.2.2.2.2.2.2.2.2.2.2.2.1 hmk.2.2.2.2.2.1 (by decide)), trivial⟩).trans w_17
    have u_44 : G_30.2.2 111 = some (g.2.2 111) := (hfr_31.2.2 111 (by decide)).trans u_18
    have u_45 : G_30.2.2 112 = some (g.2.2 112) := (hfr_31.2.2 112 (by decide)).trans u_19
    obtain ⟨f_46, ef_46⟩ : ∃ z : Nat → Int32, G_30.2.1 (g.2.2 121) = z := ⟨_, rfl⟩
    obtain ⟨n_47, en_47⟩ : ∃ z : Int32, G_30.1 122 = z := ⟨_, rfl⟩
    have rm_48 := hex_32
    rw [ef_46, en_47] at rm_48
    have hH : HT g Ty G_30 H := by rw [← ht, ← eTx_29, eG_30]; exact hB
    refine lv_aload_n hx hb dX12_makes_29 rfl (lv_at hl 1 rfl) ?_
    obtain ⟨_, ⟨rfl, t_50, hk_51⟩, o_c_49⟩ := hH h0 _ k_h0
    refine hg_get hx hb hG igX12 hown hK o_c_49 rfl 0 (by decide) (hG _ mw_1284) rfl dX12_makes_30 ?_
    refine lv_iload_n hx hb dX12_makes_33 rfl (lv_at hl 2 rfl) ?_
    refine vp_callSi (W.runS (As := [.ref (g.2.2 100), .int a0]) (rest := []) ⟨hx, hb, hml, hown, hts⟩ (c_X12_kindOf l g Ty G_30 (g.2.2 100) a0 (hk_51.1) (rg_w r_28 (by decide) (by decide))) (cwSx 2 hts hG (gwC mw_1527) mw_88 mw_1525 mw_1526 rfl rfl rfl hd_X12_kindOf ⟨Nat.le_of_ble_eq_true rfl, Nat.le_of_ble_eq_true rfl⟩) ⟨PcH_blind, PcH_pre hK hH⟩ rfl rfl hl.1 rfl (lv_room (Nat.le_of_ble_eq_true rfl)) dX12_makes_34 ⟨Nat.zero_le _, Nat.zero_le _⟩) (fun x_52 hx_52 => ?_)
    have ex_53 : x_52 = F_X12_kindOf (G.2.1 (g.2.2 100)) a0 := by rw [← w_40]; exact hx_52
    refine lv_istore (lv' := [(4, .int x_52), (3, .int x_23), (0, .ref h0), (1, .int a0), (2, .int a1)]) hx hb dX12_makes_37 hl (by decide) rfl (fun ls hl => ?_)
    refine lv_aload_n hx hb dX12_makes_39 rfl (lv_at hl 2 rfl) ?_
    refine hg_get hx hb hG igX12 hown hK o_c_49 rfl 0 (by decide) (hG _ mw_1284) rfl dX12_makes_40 ?_
    refine lv_iload_n hx hb dX12_makes_43 rfl (lv_at hl 3 rfl) ?_
    refine lv_iload_n hx hb dX12_makes_44 rfl (lv_at hl 4 rfl) ?_
    refine va_callv (va_runS (As := [.ref (g.2.2 100), .int a0, .int a1]) (rest := []) ⟨hx, hb, hml, hown, hts⟩ (c_X12_goMake l g Ty G_30 H.size (g.2.2 100) a0 a1 (hk_51.1) (rg_w r_28 (by decide) (by decide))) (cwSx 3 hts hG (gwC mw_1645) mw_88 mw_1643 mw_1644 rfl rfl rfl hd_X12_goMake ⟨Nat.le_of_ble_eq_true rfl, Nat.le_of_ble_eq_true rfl⟩) ⟨PcT_blind, PcT_pre hK hH⟩ rfl rfl hl.1 rfl (lv_room (Nat.le_of_ble_eq_true rfl)) dX12_makes_45 ⟨Nat.zero_le _, Nat.zero_le _⟩) hS (fun q _ h => AF.mono hS.1 h) (fun q h => AF.mono hS.1 h) (fun ux_54 t H locs ht hvm hx_54 hB hz hk hS => ?_)
    obtain ⟨eTx_54, eGx_54⟩ := hx_54
    obtain ⟨G_55, eG_55⟩ : ∃ z, z = ux_54.2 := ⟨_, rfl⟩
    rw [← eG_55] at eGx_54
    have hg_57 := eGx_54
    rw [w_40] at hg_57
    obtain ⟨f_56, ef_56⟩ : ∃ z : Nat → Int32, z = F_X12_goMake (G.2.1 (g.2.2 100)) a0 a1 := ⟨_, rfl⟩
    rw [← ef_56] at hg_57
    have fr_58 : FR [104, 105, 122] [(g.2.2 100), (g.2.2 121)] [] G G_55 := FR.a fr_33 hg_57 (fun b h => h.1)
    have u_59 : G_55.1 102 = (G.1 102) := by rw [hg_57]; exact u_34
    have u_60 : G_55.1 104 = (G.1 104) := by rw [hg_57]; exact u_35
    have u_61 : G_55.1 113 = (G.1 113) := by rw [hg_57]; exact u_36
    have u_62 : G_55.1 133 = (G.1 133) := by rw [hg_57]; exact u_37
    have u_63 : G_55.1 137 = (G.1 137) := by rw [hg_57]; exact u_38
    have u_64 : G_55.1 105 = 0 := by rw [hg_57]; exact u_39
    have u_65 : G_55.1 122 = n_47 := by rw [hg_57]; exact en_47
    have w_66 : G_55.2.1 (g.2.2 100) = f_56 := by rw [hg_57]; exact aset_eq
    have w_67 : G_55.2.1 (g.2.2 140) = (G.2.1 (g.2.2 140)) := by rw [hg_57]; exact (aset_ne (ne_kd hmk.2.2.2.2.2.2.2.2.2.2.2.2.2.2.2.2.2.2.1 hmk.1 (by decide))).trans w_41
    have w_68 : G_55.2.1 (g.2.2 141) = (G.2.1 (g.2.2 141)) := by rw [hg_57]; exact (aset_ne (ne_kd hmk.2.2.2.2.2.2.2.2.2.2.2.2.2.2.2.2.2.2.2.1 hmk.1 (by decide))).trans w_42
    have w_69 : G_55.2.1 (g.2.2 111) = (G.2.1 (g.2.2 111)) := by rw [hg_57]; exact (aset_ne (ne_kd hmk.2.2.2.2.2.2.2.2.2.2.2.2.2.2.2.2.2.2.2.2.1 hmk.1 (by decide))).trans w_43
    have w_70 : G_55.2.1 (g.2.2 121) = f_46 := by rw [hg_57]; exact (aset_ne (ne_kd hmk.2.2.2.2.2.1 hmk.1 (by decide))).trans ef_46
    have u_71 : G_55.2.2 111 = some (g.2.2 111) := by rw [hg_57]; exact u_44
    have u_72 : G_55.2.2 112 = some (g.2.2 112) := by rw [hg_57]; exact u_45
    have hH : HT g Ty G_55 H := by rw [← ht, ← eTx_54, eG_55]; exact hB
    have tm_73 : TI (Bd + 25) f_56 := by rw [ef_56]; exact (TI_make hI.ti (Int.le_trans hBd (by decide)) th_27).1
    refine lv_bipush (v := 10) hx hb dX12_makes_48 (by decide) ?_
    refine lv_iload hx hb dX12_makes_50 (lv_at hl 0 rfl) ?_
    refine lv_imul hx hb dX12_makes_52 ?_
    refine lv_topi (fun x_74 ex_74 => ?_)
    refine lv_aload_n hx hb dX12_makes_53 rfl (lv_at hl 2 rfl) ?_
    obtain ⟨_, ⟨rfl, t_76, hk_77⟩, o_c_75⟩ := hH h0 _ k_h0
    refine hg_get hx hb hG igX12 hown hK o_c_75 rfl 0 (by decide) (hG _ mw_1284) rfl dX12_makes_54 ?_
    refine lv_iload_n hx hb dX12_makes_57 rfl (lv_at hl 3 rfl) ?_
    refine vp_callSi (W.runS (As := [.ref (g.2.2 100), .int a0]) (rest := [.int x_74]) ⟨hx, hb, hml, hown, hts⟩ (c_X12_kindOf l g Ty G_55 (g.2.2 100) a0 (hk_77.1) (rg_w r_28 (by decide) (by decide))) (cwSx 2 hts hG (gwC mw_1527) mw_88 mw_1525 mw_1526 rfl rfl rfl hd_X12_kindOf ⟨Nat.le_of_ble_eq_true rfl, Nat.le_of_ble_eq_true rfl⟩) ⟨PcH_blind, PcH_pre hK hH⟩ rfl rfl hl.1 rfl (lv_room (Nat.le_of_ble_eq_true rfl)) dX12_makes_58 ⟨Nat.zero_le _, Nat.zero_le _⟩) (fun x_78 hx_78 => ?_)
    have ex_79 : x_78 = F_X12_kindOf f_56 a0 := by rw [← w_66]; exact hx_78
    refine lv_iadd hx hb dX12_makes_61 ?_
    refine lv_topi (fun x_80 ex_80 => ?_)
    exact W.iret hx hb hr (fun t ht hWm => ⟨⟨x_80, (Ty, G_55), rfl, ⟨rfl, ⟨fr_58, ⟨(by rw [u_59]; exact (rg_w hI.a102 (by decide) (by decide))), (by rw [u_60]; exact (rg_w hI.a104 (by decide) (by decide))), (by rw [u_61]; exact (rg_w hI.a113 (by decide) (by decide))), (by rw [u_65]; exact (rg_w rm_48.1 (by decide) (by decide))), (by rw [u_62]; exact (rg_w hI.a133 (by decide) (by decide))), (by rw [u_63]; exact (rg_w hI.a137 (by decide) (by decide))), u_71, u_72, (by rw [w_66]; exact (TI.hi tm_73 (by omega))), (by rw [w_70, u_65]; exact fun i hi => TI.hi (rm_48.2 i hi) (by omega)), (hI.ke2 (show Bd ≤ Bd + 1000 by omega) w_67 w_68)⟩⟩⟩, by show HT g Ty G_55 t.heap; rw [ht]; exact hH⟩, hS.F ht⟩) hS.2.2 dX12_makes_62
  · have r_81 : rgI (-2) (-1) x_23 := rg_w (rg_ltL rx_23 rl_0 (nle_lt c_25)) (by decide) (by decide)
    refine lv_iload_n hx hb dX12_makes_19 rfl (lv_at hl 0 rfl) ?_
    exact W.iret hx hb hr (fun t ht hWm => ⟨⟨x_23, (Ty, G_4), rfl, ⟨rfl, ⟨fr_5, ⟨(by rw [u_6]; exact (rg_w hI.a102 (by decide) (by decide))), (by rw [u_7]; exact (rg_w hI.a104 (by decide) (by decide))), (by rw [u_8]; exact (rg_w hI.a113 (by decide) (by decide))), (by rw [u_9]; exact (rg_w hI.a122 (by decide) (by decide))), (by rw [u_10]; exact (rg_w hI.a133 (by decide) (by decide))), (by rw [u_11]; exact (rg_w hI.a137 (by decide) (by decide))), u_18, u_19, (by rw [w_13]; exact (hI.ti.hi (show Bd ≤ Bd + 1000 by omega))), (hI.un2 (show Bd ≤ Bd + 1000 by omega) w_14 u_9), (hI.ke2 (show Bd ≤ Bd + 1000 by omega) w_15 w_16)⟩⟩⟩, by show HT g Ty G_4 t.heap; rw [ht]; exact hH⟩, hS.F ht⟩) hS.2.2 dX12_makes_20

set_option maxHeartbeats 4000000 in
set_option maxRecDepth 100000 in
theorem c_X12_moves (l : Launch) (g : Gx) (Ty : TyM) (G : Gh) (sz : Nat) (h0 : Nat) (a0 : Int32) (a1 : Int32) (a2 : Int32) (k_h0 : Ty h0 = some (22, 0)) (Bd : Int) (hI : OI g Bd G) (hBd : Bd ≤ 1900000) (hLD : LD g) : Met l yX12_moves (wsG yX12_moves cX12_moves 6 (some .int)) ({ frames := 3, cells := 0, slots := 0, locals := 66 }) (PcT g Ty G sz [.ref h0, .int a0, .int a1, .int a2]) (QwI g Ty sz (fun r u => u.1 = Ty ∧ FR [104, 105, 122] [(g.2.2 100), (g.2.2 121)] [] G u.2 ∧ OI g (Bd + 1000) u.2)) 0 0 (AF Ty sz) := by
  refine Met.ofW (cc := cX12_moves) (maxL := 6) (ret := (some .int)) (by decide) rfl ?_
  intro p e s m args below meth c s₁ B hml hv
  obtain ⟨rfl, hsz, hK, hH⟩ := hv
  subst hsz
  have hx := B.exec
  have hb := B.bytes
  have hr := B.returns
  have hts := atoms_spec (ws := (wsG yX12_moves cX12_moves 6 (some .int))) B.pre
  have hG : ∀ w ∈ GW, w.before ([.ref h0, .int a0, .int a1, .int a2] : List Value).toArray s = true := fun w h => hts w (List.mem_cons_of_mem _ h)
  have hown : s.vm.findClass RX12 = some m.cls := findClass_of_methodNamed B.named
  have hlocks := B.notSynchronized
  have hl := lv_entry [.ref h0, .int a0, .int a1, .int a2] (n := 6) (Nat.le_of_ble_eq_true rfl)
  rw [lg_entry_eq]
  generalize (lg_sl [.ref h0, .int a0, .int a1, .int a2] ++ List.replicate (6 - (lg_sl [.ref h0, .int a0, .int a1, .int a2]).length) Slot.unset).toArray = ls at hl ⊢
  have hl : lv_has ls 6 [(0, .ref h0), (1, .int a0), (2, .int a1), (3, .int a2)] := hl
  have hmk : mdK g Ty := mdk_of hH k_h0
  have hS : va_S (AF Ty s.heap.size) s.heap s.heap [] := va_S.rf
  obtain ⟨⟨σ0, hTS0⟩, h10, hBB0⟩ := id hI.ti
  obtain ⟨ρ, hT⟩ := hTS0.1
  refine lv_aload_n hx hb dX12_moves_0 rfl (lv_at hl 0 rfl) ?_
  refine lv_iconst (v := 0) hx hb dX12_moves_1 (by decide) ?_
  obtain ⟨_, ⟨rfl, t_2, hk_3⟩, o_c_1⟩ := hH h0 _ k_h0
  refine hg_put (ty := .int) hx hb hG igX12 tyX12 tyX12_ok nmX12 hown hK hS o_c_1 (AF.of k_h0) rfl 5 (by decide) (hG _ mw_1289) rfl (by decide +kernel) rfl rfl (Nat.le_of_ble_eq_true rfl) dX12_moves_2 (fun H locs o_c_1 hz oq hS => ?_)
  obtain ⟨G_4, eG_4⟩ : ∃ z : Gh, z = gset G 105 0 := ⟨_, rfl⟩
  have hH : HT g Ty G_4 H := by rw [eG_4]; exact HT.putN 105 0 hH k_h0 ⟨rfl, t_2, hk_3⟩ o_c_1 oq (Or.inr (Or.inr (Or.inr (Or.inr (Or.inr ⟨by decide, t_2⟩)))))
  have fr_5 : FR [104, 105, 122] [(g.2.2 100), (g.2.2 121)] [] G G_4 := FR.n FR.rf eG_4 (by decide)
  have u_6 : G_4.1 102 = (G.1 102) := by rw [eG_4]; exact (gs_ne (by decide))
  have u_7 : G_4.1 104 = (G.1 104) := by rw [eG_4]; exact (gs_ne (by decide))
  have u_8 : G_4.1 113 = (G.1 113) := by rw [eG_4]; exact (gs_ne (by decide))
  have u_9 : G_4.1 122 = (G.1 122) := by rw [eG_4]; exact (gs_ne (by decide))
  have u_10 : G_4.1 133 = (G.1 133) := by rw [eG_4]; exact (gs_ne (by decide))
  have u_11 : G_4.1 137 = (G.1 137) := by rw [eG_4]; exact (gs_ne (by decide))
  have u_12 : G_4.1 105 = 0 := by rw [eG_4]; exact gs_eq
  have w_13 : G_4.2.1 (g.2.2 100) = (G.2.1 (g.2.2 100)) := by rw [eG_4]; exact rfl
  have w_14 : G_4.2.1 (g.2.2 121) = (G.2.1 (g.2.2 121)) := by rw [eG_4]; exact rfl
  have w_15 : G_4.2.1 (g.2.2 140) = (G.2.1 (g.2.2 140)) := by rw [eG_4]; exact rfl
  have w_16 : G_4.2.1 (g.2.2 141) = (G.2.1 (g.2.2 141)) := by rw [eG_4]; exact rfl
  have w_17 : G_4.2.1 (g.2.2 111) = (G.2.1 (g.2.2 111)) := by rw [eG_4]; exact rfl
  have u_18 : G_4.2.2 111 = some (g.2.2 111) := by rw [eG_4]; exact hI.r111
  have u_19 : G_4.2.2 112 = some (g.2.2 112) := by rw [eG_4]; exact hI.r112
  clear oq hz
  refine lv_aload_n hx hb dX12_moves_5 rfl (lv_at hl 0 rfl) ?_
  obtain ⟨_, ⟨rfl, t_21, hk_22⟩, o_c_20⟩ := hH h0 _ k_h0
  refine hg_get hx hb hG igX12 hown hK o_c_20 rfl 0 (by decide) (hG _ mw_1284) rfl dX12_moves_6 ?_
  refine lv_iload_n hx hb dX12_moves_9 rfl (lv_at hl 1 rfl) ?_
  refine lv_iload_n hx hb dX12_moves_10 rfl (lv_at hl 2 rfl) ?_
  refine lv_iload_n hx hb dX12_moves_11 rfl (lv_at hl 3 rfl) ?_
  refine vp_callSi (W.runS (As := [.ref (g.2.2 100), .int a0, .int a1, .int a2]) (rest := []) ⟨hx, hb, hml, hown, hts⟩ (c_X12_refusesMove l g Ty G_4 (g.2.2 100) a0 a1 a2 (hk_22.1) ρ (by rw [w_13]; exact hT)) (cwSx 4 hts hG (gwC mw_1673) mw_88 mw_1671 mw_1672 rfl rfl rfl hd_X12_refusesMove ⟨Nat.le_of_ble_eq_true rfl, Nat.le_of_ble_eq_true rfl⟩) ⟨PcH_blind, PcH_pre hK hH⟩ rfl rfl hl.1 rfl (lv_room (Nat.le_of_ble_eq_true rfl)) dX12_moves_12 ⟨Nat.zero_le _, Nat.zero_le _⟩) (fun x_23 hx_23 => ?_)
  have rx_23 : rgI (-6) (0) x_23 := hx_23.1
  have tx_24 := hx_23.2
  try rw [w_13] at tx_24
  try rw [w_17] at tx_24
  try rw [u_8] at tx_24
  refine lv_istore (lv' := [(4, .int x_23), (0, .ref h0), (1, .int a0), (2, .int a1), (3, .int a2)]) hx hb dX12_moves_15 hl (by decide) rfl (fun ls hl => ?_)
  refine lv_iload hx hb dX12_moves_17 (lv_at hl 0 rfl) ?_
  refine lv_if_ge (tgt := 25) hx hb dX12_moves_19 (by decide) (fun c_25 => ?_) (fun c_25 => ?_)
  · have r_26 : rgI (0) (0) x_23 := rg_w (rg_leR rl_0 rx_23 c_25) (by decide) (by decide)
    have c0_27 := tx_24 (rg_00 r_26 c_25)
    have r_28 : rgI (0) (23) a0 := rg_w (c0_27.1.1) (by decide) (by decide)
    refine lv_aload_n hx hb dX12_moves_25 rfl (lv_at hl 1 rfl) ?_
    refine lv_aload_n hx hb dX12_moves_26 rfl (lv_at hl 1 rfl) ?_
    refine hg_get hx hb hG igX12 hown hK o_c_20 rfl 0 (by decide) (hG _ mw_1284) rfl dX12_moves_27 ?_
    refine va_callv (va_runV (As := [.ref (g.2.2 100)]) (rest := []) ⟨hx, hb, hml, hown, hts⟩ (c_X12_remember l g Ty G_4 H.size h0 (g.2.2 100) k_h0 (hk_22.1) Bd (by rw [w_13]; exact hI.ti) (by rw [u_9]; exact (rg_w hI.a122 (by decide) (by decide))) (by rw [u_9, w_14]; exact hI.un)) (cwV 1 hts (gwV mw_1577 mw_1579 mw_53 mw_88 mw_1580) rfl rfl rfl hv_X12_remember ⟨Nat.le_of_ble_eq_true rfl, Nat.le_of_ble_eq_true rfl⟩) ⟨PcT_blind, hg_recv hK o_c_20 rfl, PcT_pre hK hH⟩ rfl rfl hl.1 rfl (lv_room (Nat.le_of_ble_eq_true rfl)) dX12_moves_30 ⟨Nat.zero_le _, Nat.zero_le _⟩) hS (fun q _ h => AF.mono hS.1 h) (fun q h => AF.mono hS.1 h) (fun ux_29 t H locs ht hvm hx_29 hB hz hk hS => ?_)
    obtain ⟨eTx_29, eGx_29⟩ := hx_29
    obtain ⟨G_30, eG_30⟩ : ∃ z, z = ux_29.2 := ⟨_, rfl⟩
    rw [← eG_30] at eGx_29
    obtain ⟨hfr_31, hex_32⟩ := eGx_29
    have fr_33 : FR [104, 105, 122] [(g.2.2 100), (g.2.2 121)] [] G G_30 := FR.tr fr_5 hfr_31 (by decide) (fun b h => ⟨h.2.1, trivial⟩) (by decide)
    have u_34 : G_30.1 102 = (G.1 102) := (hfr_31.1 102 (by decide)).trans u_6
    have u_35 : G_30.1 104 = (G.1 104) := (hfr_31.1 104 (by decide)).trans u_7
    have u_36 : G_30.1 113 = (G.1 113) := (hfr_31.1 113 (by decide)).trans u_8
    have u_37 : G_30.1 133 = (G.1 133) := (hfr_31.1 133 (by decide)).trans u_10
    have u_38 : G_30.1 137 = (G.1 137) := (hfr_31.1 137 (by decide)).trans u_11
    have u_39 : G_30.1 105 = 0 := (hfr_31.1 105 (by decide)).trans u_12
    have w_40 : G_30.2.1 (g.2.2 100) = (G.2.1 (g.2.2 100)) := (hfr_31.2.1 (g.2.2 100) ⟨(ne_kd hmk.1 hmk.2.2.2.2.2.1 (by decide)), trivial⟩).trans w_13
    have w_41 : G_30.2.1 (g.2.2 140) = (G.2.1 (g.2.2 140)) := (hfr_31.2.1 (g.2.2 140) ⟨(ne_kd hmk.2.2.2.2.2.2.2.2.2.2.2.2.2.2.2.2.2.2.1 hmk.2.2.2.2.2.1 (by decide)), trivial⟩).trans w_15
    have w_42 : G_30.2.1 (g.2.2 141) = (G.2.1 (g.2.2 141)) := (hfr_31.2.1 (g.2.2 141) ⟨(ne_kd hmk.2.2.2.2.2.2.2.2.2.2.2.2.2.2.2.2.2.2.2.1 hmk.2.2.2.2.2.1 (by decide)), trivial⟩).trans w_16
    have w_43 : G_30.2.1 (g.2.2 111) = (G.2.1 (g.2.2 111)) := (hfr_31.2.1 (g.2.2 111) ⟨(ne_kd hmk.2.2.2.2.2.2.2.2.2.2.2.2.2.2.2.2.2.2.2.2.1 hmk.2.2.2.2.2.1 (by decide)), trivial⟩).trans w_17
    have u_44 : G_30.2.2 111 = some (g.2.2 111) := (hfr_31.2.2 111 (by decide)).trans u_18
    have u_45 : G_30.2.2 112 = some (g.2.2 112) := (hfr_31.2.2 112 (by decide)).trans u_19
    obtain ⟨f_46, ef_46⟩ : ∃ z : Nat → Int32, G_30.2.1 (g.2.2 121) = z := ⟨_, rfl⟩
    obtain ⟨n_47, en_47⟩ : ∃ z : Int32, G_30.1 122 = z := ⟨_, rfl⟩
    have rm_48 := hex_32
    rw [ef_46, en_47] at rm_48
    have hH : HT g Ty G_30 H := by rw [← ht, ← eTx_29, eG_30]; exact hB
    refine lv_bipush (v := 100) hx hb dX12_moves_33 (by decide) ?_
    refine lv_aload_n hx hb dX12_moves_35 rfl (lv_at hl 1 rfl) ?_
    obtain ⟨_, ⟨rfl, t_50, hk_51⟩, o_c_49⟩ := hH h0 _ k_h0
    refine hg_get hx hb hG igX12 hown hK o_c_49 rfl 0 (by decide) (hG _ mw_1284) rfl dX12_moves_36 ?_
    refine lv_iload_n hx hb dX12_moves_39 rfl (lv_at hl 2 rfl) ?_
    obtain ⟨_, rfl, o_c_52⟩ := hH (g.2.2 100) _ hk_51.1
    have o_c_52 : va_at g.1 vwCl ((g.2.2 100), .inl (g.2.1 1, 122, .inl (G_30.2.1 (g.2.2 100)))) H := o_c_52
    refine hg_iald hx hb hK o_c_52 (rg_in (n := 122) r_28 (by decide) (by decide)) dX12_moves_40 ?_
    rw [w_40]
    refine lv_topi (fun x_53 ex_53 => ?_)
    refine lv_imul hx hb dX12_moves_41 ?_
    refine lv_topi (fun x_54 ex_54 => ?_)
    refine lv_aload_n hx hb dX12_moves_42 rfl (lv_at hl 1 rfl) ?_
    refine hg_get hx hb hG igX12 hown hK o_c_49 rfl 0 (by decide) (hG _ mw_1284) rfl dX12_moves_43 ?_
    refine lv_bipush (v := 24) hx hb dX12_moves_46 (by decide) ?_
    refine lv_iload_n hx hb dX12_moves_48 rfl (lv_at hl 2 rfl) ?_
    refine lv_iadd hx hb dX12_moves_49 ?_
    refine lv_topi (fun x_55 ex_55 => ?_)
    have rx_55 : rgI (24) (47) x_55 := by rw [ex_55]; exact rg_w (rg_add rl_24 r_28 (by decide) (by decide)) (by decide) (by decide)
    refine hg_iald hx hb hK o_c_52 (rg_in (n := 122) rx_55 (by decide) (by decide)) dX12_moves_50 ?_
    rw [w_40]
    refine lv_topi (fun x_56 ex_56 => ?_)
    refine lv_iadd hx hb dX12_moves_51 ?_
    refine lv_topi (fun x_57 ex_57 => ?_)
    refine lv_istore (lv' := [(5, .int x_57), (4, .int x_23), (0, .ref h0), (1, .int a0), (2, .int a1), (3, .int a2)]) hx hb dX12_moves_52 hl (by decide) rfl (fun ls hl => ?_)
    refine lv_aload_n hx hb dX12_moves_54 rfl (lv_at hl 2 rfl) ?_
    refine hg_get hx hb hG igX12 hown hK o_c_49 rfl 0 (by decide) (hG _ mw_1284) rfl dX12_moves_55 ?_
    refine lv_iload_n hx hb dX12_moves_58 rfl (lv_at hl 3 rfl) ?_
    refine lv_iload_n hx hb dX12_moves_59 rfl (lv_at hl 4 rfl) ?_
    refine lv_iload_n hx hb dX12_moves_60 rfl (lv_at hl 5 rfl) ?_
    refine va_callv (va_runS (As := [.ref (g.2.2 100), .int a0, .int a1, .int a2]) (rest := []) ⟨hx, hb, hml, hown, hts⟩ (c_X12_goMove l g Ty G_30 H.size (g.2.2 100) a0 a1 a2 (hk_51.1) (rg_w r_28 (by decide) (by decide))) (cwSx 4 hts hG (gwC mw_1679) mw_88 mw_1677 mw_1678 rfl rfl rfl hd_X12_goMove ⟨Nat.le_of_ble_eq_true rfl, Nat.le_of_ble_eq_true rfl⟩) ⟨PcT_blind, PcT_pre hK hH⟩ rfl rfl hl.1 rfl (lv_room (Nat.le_of_ble_eq_true rfl)) dX12_moves_61 ⟨Nat.zero_le _, Nat.zero_le _⟩) hS (fun q _ h => AF.mono hS.1 h) (fun q h => AF.mono hS.1 h) (fun ux_58 t H locs ht hvm hx_58 hB hz hk hS => ?_)
    obtain ⟨eTx_58, eGx_58⟩ := hx_58
    obtain ⟨G_59, eG_59⟩ : ∃ z, z = ux_58.2 := ⟨_, rfl⟩
    rw [← eG_59] at eGx_58
    have hg_61 := eGx_58
    rw [w_40] at hg_61
    obtain ⟨f_60, ef_60⟩ : ∃ z : Nat → Int32, z = F_X12_goMove (G.2.1 (g.2.2 100)) a0 a1 a2 := ⟨_, rfl⟩
    rw [← ef_60] at hg_61
    have fr_62 : FR [104, 105, 122] [(g.2.2 100), (g.2.2 121)] [] G G_59 := FR.a fr_33 hg_61 (fun b h => h.1)
    have u_63 : G_59.1 102 = (G.1 102) := by rw [hg_61]; exact u_34
    have u_64 : G_59.1 104 = (G.1 104) := by rw [hg_61]; exact u_35
    have u_65 : G_59.1 113 = (G.1 113) := by rw [hg_61]; exact u_36
    have u_66 : G_59.1 133 = (G.1 133) := by rw [hg_61]; exact u_37
    have u_67 : G_59.1 137 = (G.1 137) := by rw [hg_61]; exact u_38
    have u_68 : G_59.1 105 = 0 := by rw [hg_61]; exact u_39
    have u_69 : G_59.1 122 = n_47 := by rw [hg_61]; exact en_47
    have w_70 : G_59.2.1 (g.2.2 100) = f_60 := by rw [hg_61]; exact aset_eq
    have w_71 : G_59.2.1 (g.2.2 140) = (G.2.1 (g.2.2 140)) := by rw [hg_61]; exact (aset_ne (ne_kd hmk.2.2.2.2.2.2.2.2.2.2.2.2.2.2.2.2.2.2.1 hmk.1 (by decide))).trans w_41
    have w_72 : G_59.2.1 (g.2.2 141) = (G.2.1 (g.2.2 141)) := by rw [hg_61]; exact (aset_ne (ne_kd hmk.2.2.2.2.2.2.2.2.2.2.2.2.2.2.2.2.2.2.2.1 hmk.1 (by decide))).trans w_42
    have w_73 : G_59.2.1 (g.2.2 111) = (G.2.1 (g.2.2 111)) := by rw [hg_61]; exact (aset_ne (ne_kd hmk.2.2.2.2.2.2.2.2.2.2.2.2.2.2.2.2.2.2.2.2.1 hmk.1 (by decide))).trans w_43
    have w_74 : G_59.2.1 (g.2.2 121) = f_46 := by rw [hg_61]; exact (aset_ne (ne_kd hmk.2.2.2.2.2.1 hmk.1 (by decide))).trans ef_46
    have u_75 : G_59.2.2 111 = some (g.2.2 111) := by rw [hg_61]; exact u_44
    have u_76 : G_59.2.2 112 = some (g.2.2 112) := by rw [hg_61]; exact u_45
    have hH : HT g Ty G_59 H := by rw [← ht, ← eTx_58, eG_59]; exact hB
    have tm_77 : TI (Bd + 25) f_60 := by rw [ef_60]; exact (TI_move hI.ti c0_27.1 c0_27.2.1 c0_27.2.2.2.1 c0_27.2.2.2.2.1 c0_27.2.2.2.2.2).1
    refine lv_iload hx hb dX12_moves_64 (lv_at hl 0 rfl) ?_
    exact W.iret hx hb hr (fun t ht hWm => ⟨⟨x_57, (Ty, G_59), rfl, ⟨rfl, ⟨fr_62, ⟨(by rw [u_63]; exact (rg_w hI.a102 (by decide) (by decide))), (by rw [u_64]; exact (rg_w hI.a104 (by decide) (by decide))), (by rw [u_65]; exact (rg_w hI.a113 (by decide) (by decide))), (by rw [u_69]; exact (rg_w rm_48.1 (by decide) (by decide))), (by rw [u_66]; exact (rg_w hI.a133 (by decide) (by decide))), (by rw [u_67]; exact (rg_w hI.a137 (by decide) (by decide))), u_75, u_76, (by rw [w_70]; exact (TI.hi tm_77 (by omega))), (by rw [w_74, u_69]; exact fun i hi => TI.hi (rm_48.2 i hi) (by omega)), (hI.ke2 (show Bd ≤ Bd + 1000 by omega) w_71 w_72)⟩⟩⟩, by show HT g Ty G_59 t.heap; rw [ht]; exact hH⟩, hS.F ht⟩) hS.2.2 dX12_moves_66
  · have r_78 : rgI (-6) (-1) x_23 := rg_w (rg_ltL rx_23 rl_0 (nle_lt c_25)) (by decide) (by decide)
    refine lv_iload hx hb dX12_moves_22 (lv_at hl 0 rfl) ?_
    exact W.iret hx hb hr (fun t ht hWm => ⟨⟨x_23, (Ty, G_4), rfl, ⟨rfl, ⟨fr_5, ⟨(by rw [u_6]; exact (rg_w hI.a102 (by decide) (by decide))), (by rw [u_7]; exact (rg_w hI.a104 (by decide) (by decide))), (by rw [u_8]; exact (rg_w hI.a113 (by decide) (by decide))), (by rw [u_9]; exact (rg_w hI.a122 (by decide) (by decide))), (by rw [u_10]; exact (rg_w hI.a133 (by decide) (by decide))), (by rw [u_11]; exact (rg_w hI.a137 (by decide) (by decide))), u_18, u_19, (by rw [w_13]; exact (hI.ti.hi (show Bd ≤ Bd + 1000 by omega))), (hI.un2 (show Bd ≤ Bd + 1000 by omega) w_14 u_9), (hI.ke2 (show Bd ≤ Bd + 1000 by omega) w_15 w_16)⟩⟩⟩, by show HT g Ty G_4 t.heap; rw [ht]; exact hH⟩, hS.F ht⟩) hS.2.2 dX12_moves_24

set_option maxHeartbeats 4000000 in
set_option maxRecDepth 100000 in
theorem c_X12_unmounts (l : Launch) (g : Gx) (Ty : TyM) (G : Gh) (sz : Nat) (h0 : Nat) (a0 : Int32) (a1 : Int32) (k_h0 : Ty h0 = some (22, 0)) (Bd : Int) (hI : OI g Bd G) (hBd : Bd ≤ 1900000) (hLD : LD g) : Met l yX12_unmounts (wsG yX12_unmounts cX12_unmounts 5 (some .int)) ({ frames := 341, cells := 0, slots := 0, locals := 7997 }) (PcT g Ty G sz [.ref h0, .int a0, .int a1]) (QwI g Ty sz (fun r u => u.1 = Ty ∧ FR [107, 108, 109, 110, 114, 104, 105, 122] [(g.2.2 100), (g.2.2 115), (g.2.2 121)] [106] G u.2 ∧ OI g (Bd + 1000) u.2)) 0 0 (AF Ty sz) := by
  refine Met.ofW (cc := cX12_unmounts) (maxL := 5) (ret := (some .int)) (by decide) rfl ?_
  intro p e s m args below meth c s₁ B hml hv
  obtain ⟨rfl, hsz, hK, hH⟩ := hv
  subst hsz
  have hx := B.exec
  have hb := B.bytes
  have hr := B.returns
  have hts := atoms_spec (ws := (wsG yX12_unmounts cX12_unmounts 5 (some .int))) B.pre
  have hG : ∀ w ∈ GW, w.before ([.ref h0, .int a0, .int a1] : List Value).toArray s = true := fun w h => hts w (List.mem_cons_of_mem _ h)
  have hown : s.vm.findClass RX12 = some m.cls := findClass_of_methodNamed B.named
  have hlocks := B.notSynchronized
  have hl := lv_entry [.ref h0, .int a0, .int a1] (n := 5) (Nat.le_of_ble_eq_true rfl)
  rw [lg_entry_eq]
  generalize (lg_sl [.ref h0, .int a0, .int a1] ++ List.replicate (5 - (lg_sl [.ref h0, .int a0, .int a1]).length) Slot.unset).toArray = ls at hl ⊢
  have hl : lv_has ls 5 [(0, .ref h0), (1, .int a0), (2, .int a1)] := hl
  have hmk : mdK g Ty := mdk_of hH k_h0
  have hS : va_S (AF Ty s.heap.size) s.heap s.heap [] := va_S.rf
  obtain ⟨⟨σ0, hTS0⟩, h10, hBB0⟩ := id hI.ti
  obtain ⟨ρ, hT⟩ := hTS0.1
  refine lv_aload_n hx hb dX12_unmounts_0 rfl (lv_at hl 0 rfl) ?_
  refine lv_iconst (v := 0) hx hb dX12_unmounts_1 (by decide) ?_
  obtain ⟨_, ⟨rfl, t_2, hk_3⟩, o_c_1⟩ := hH h0 _ k_h0
  refine hg_put (ty := .int) hx hb hG igX12 tyX12 tyX12_ok nmX12 hown hK hS o_c_1 (AF.of k_h0) rfl 5 (by decide) (hG _ mw_1289) rfl (by decide +kernel) rfl rfl (Nat.le_of_ble_eq_true rfl) dX12_unmounts_2 (fun H locs o_c_1 hz oq hS => ?_)
  obtain ⟨G_4, eG_4⟩ : ∃ z : Gh, z = gset G 105 0 := ⟨_, rfl⟩
  have hH : HT g Ty G_4 H := by rw [eG_4]; exact HT.putN 105 0 hH k_h0 ⟨rfl, t_2, hk_3⟩ o_c_1 oq (Or.inr (Or.inr (Or.inr (Or.inr (Or.inr ⟨by decide, t_2⟩)))))
  have fr_5 : FR [107, 108, 109, 110, 114, 104, 105, 122] [(g.2.2 100), (g.2.2 115), (g.2.2 121)] [106] G G_4 := FR.n FR.rf eG_4 (by decide)
  have u_6 : G_4.1 102 = (G.1 102) := by rw [eG_4]; exact (gs_ne (by decide))
  have u_7 : G_4.1 104 = (G.1 104) := by rw [eG_4]; exact (gs_ne (by decide))
  have u_8 : G_4.1 113 = (G.1 113) := by rw [eG_4]; exact (gs_ne (by decide))
  have u_9 : G_4.1 122 = (G.1 122) := by rw [eG_4]; exact (gs_ne (by decide))
  have u_10 : G_4.1 133 = (G.1 133) := by rw [eG_4]; exact (gs_ne (by decide))
  have u_11 : G_4.1 137 = (G.1 137) := by rw [eG_4]; exact (gs_ne (by decide))
  have u_12 : G_4.1 105 = 0 := by rw [eG_4]; exact gs_eq
  have w_13 : G_4.2.1 (g.2.2 100) = (G.2.1 (g.2.2 100)) := by rw [eG_4]; exact rfl
  have w_14 : G_4.2.1 (g.2.2 121) = (G.2.1 (g.2.2 121)) := by rw [eG_4]; exact rfl
  have w_15 : G_4.2.1 (g.2.2 140) = (G.2.1 (g.2.2 140)) := by rw [eG_4]; exact rfl
  have w_16 : G_4.2.1 (g.2.2 141) = (G.2.1 (g.2.2 141)) := by rw [eG_4]; exact rfl
  have w_17 : G_4.2.1 (g.2.2 111) = (G.2.1 (g.2.2 111)) := by rw [eG_4]; exact rfl
  have u_18 : G_4.2.2 111 = some (g.2.2 111) := by rw [eG_4]; exact hI.r111
  have u_19 : G_4.2.2 112 = some (g.2.2 112) := by rw [eG_4]; exact hI.r112
  clear oq hz
  refine lv_aload_n hx hb dX12_unmounts_5 rfl (lv_at hl 0 rfl) ?_
  obtain ⟨_, ⟨rfl, t_21, hk_22⟩, o_c_20⟩ := hH h0 _ k_h0
  refine hg_get hx hb hG igX12 hown hK o_c_20 rfl 0 (by decide) (hG _ mw_1284) rfl dX12_unmounts_6 ?_
  refine lv_iload_n hx hb dX12_unmounts_9 rfl (lv_at hl 1 rfl) ?_
  refine lv_iload_n hx hb dX12_unmounts_10 rfl (lv_at hl 2 rfl) ?_
  refine vp_callSi (W.runS (As := [.ref (g.2.2 100), .int a0, .int a1]) (rest := []) ⟨hx, hb, hml, hown, hts⟩ (c_X12_refusesUnmount l g Ty G_4 (g.2.2 100) a0 a1 (hk_22.1)) (cwSx 3 hts hG (gwC mw_1655) mw_88 mw_1653 mw_1654 rfl rfl rfl hd_X12_refusesUnmount ⟨Nat.le_of_ble_eq_true rfl, Nat.le_of_ble_eq_true rfl⟩) ⟨PcH_blind, PcH_pre hK hH⟩ rfl rfl hl.1 rfl (lv_room (Nat.le_of_ble_eq_true rfl)) dX12_unmounts_11 ⟨Nat.zero_le _, Nat.zero_le _⟩) (fun x_23 hx_23 => ?_)
  have rx_23 : rgI (-3) (0) x_23 := hx_23.1
  have ex_24 : x_23 = F_X12_refusesUnmount (G.2.1 (g.2.2 100)) a0 a1 := by rw [← w_13]; exact hx_23.2
  refine lv_istore_n (lv' := [(3, .int x_23), (0, .ref h0), (1, .int a0), (2, .int a1)]) hx hb dX12_unmounts_14 rfl hl (by decide) rfl (fun ls hl => ?_)
  refine lv_iload_n hx hb dX12_unmounts_15 rfl (lv_at hl 0 rfl) ?_
  refine lv_if_ge (tgt := 21) hx hb dX12_unmounts_16 (by decide) (fun c_25 => ?_) (fun c_25 => ?_)
  · have r_26 : rgI (0) (0) x_23 := rg_w (rg_leR rl_0 rx_23 c_25) (by decide) (by decide)
    have th_27 : thr (G.2.1 (g.2.2 100)) a0 := ru_0 ex_24 r_26 c_25
    have r_28 : rgI (0) (23) a0 := rg_w (th_27.1) (by decide) (by decide)
    refine lv_aload_n hx hb dX12_unmounts_21 rfl (lv_at hl 1 rfl) ?_
    refine lv_aload_n hx hb dX12_unmounts_22 rfl (lv_at hl 1 rfl) ?_
    refine hg_get hx hb hG igX12 hown hK o_c_20 rfl 0 (by decide) (hG _ mw_1284) rfl dX12_unmounts_23 ?_
    refine va_callv (va_runV (As := [.ref (g.2.2 100)]) (rest := []) ⟨hx, hb, hml, hown, hts⟩ (c_X12_remember l g Ty G_4 H.size h0 (g.2.2 100) k_h0 (hk_22.1) Bd (by rw [w_13]; exact hI.ti) (by rw [u_9]; exact (rg_w hI.a122 (by decide) (by decide))) (by rw [u_9, w_14]; exact hI.un)) (cwV 1 hts (gwV mw_1577 mw_1579 mw_53 mw_88 mw_1580) rfl rfl rfl hv_X12_remember ⟨Nat.le_of_ble_eq_true rfl, Nat.le_of_ble_eq_true rfl⟩) ⟨PcT_blind, hg_recv hK o_c_20 rfl, PcT_pre hK hH⟩ rfl rfl hl.1 rfl (lv_room (Nat.le_of_ble_eq_true rfl)) dX12_unmounts_26 ⟨Nat.zero_le _, Nat.zero_le _⟩) hS (fun q _ h => AF.mono hS.1 h) (fun q h => AF.mono hS.1 h) (fun ux_29 t H locs ht hvm hx_29 hB hz hk hS => ?_)
    obtain ⟨eTx_29, eGx_29⟩ := hx_29
    obtain ⟨G_30, eG_30⟩ : ∃ z, z = ux_29.2 := ⟨_, rfl⟩
    rw [← eG_30] at eGx_29
    obtain ⟨hfr_31, hex_32⟩ := eGx_29
    have fr_33 : FR [107, 108, 109, 110, 114, 104, 105, 122] [(g.2.2 100), (g.2.2 115), (g.2.2 121)] [106] G G_30 := FR.tr fr_5 hfr_31 (by decide) (fun b h => ⟨h.2.2.1, trivial⟩) (by decide)
    have u_34 : G_30.1 102 = (G.1 102) := (hfr_31.1 102 (by decide)).trans u_6
    have u_35 : G_30.1 104 = (G.1 104) := (hfr_31.1 104 (by decide)).trans u_7
    have u_36 : G_30.1 113 = (G.1 113) := (hfr_31.1 113 (by decide)).trans u_8
    have u_37 : G_30.1 133 = (G.1 133) := (hfr_31.1 133 (by decide)).trans u_10
    have u_38 : G_30.1 137 = (G.1 137) := (hfr_31.1 137 (by decide)).trans u_11
    have u_39 : G_30.1 105 = 0 := (hfr_31.1 105 (by decide)).trans u_12
    have w_40 : G_30.2.1 (g.2.2 100) = (G.2.1 (g.2.2 100)) := (hfr_31.2.1 (g.2.2 100) ⟨(ne_kd hmk.1 hmk.2.2.2.2.2.1 (by decide)), trivial⟩).trans w_13
    have w_41 : G_30.2.1 (g.2.2 140) = (G.2.1 (g.2.2 140)) := (hfr_31.2.1 (g.2.2 140) ⟨(ne_kd hmk.2.2.2.2.2.2.2.2.2.2.2.2.2.2.2.2.2.2.1 hmk.2.2.2.2.2.1 (by decide)), trivial⟩).trans w_15
    have w_42 : G_30.2.1 (g.2.2 141) = (G.2.1 (g.2.2 141)) := (hfr_31.2.1 (g.2.2 141) ⟨(ne_kd hmk.2.2.2.2.2.2.2.2.2.2.2.2.2.2.2.2.2.2.2.1 hmk.2.2.2.2.2.1 (by decide)), trivial⟩).trans w_16
    have w_43 : G_30.2.1 (g.2.2 111) = (G.2.1 (g.2.2 111)) := (hfr_31.2.1 (g.2.2 111) ⟨(ne_kd hmk.2.2.2.2.2.2.2.2.2.2.2.2.2.2.2.2.2.2.2.2.1 hmk.2.2.2.2.2.1 (by decide)), trivial⟩).trans w_17
    have u_44 : G_30.2.2 111 = some (g.2.2 111) := (hfr_31.2.2 111 (by decide)).trans u_18
    have u_45 : G_30.2.2 112 = some (g.2.2 112) := (hfr_31.2.2 112 (by decide)).trans u_19
    obtain ⟨f_46, ef_46⟩ : ∃ z : Nat → Int32, G_30.2.1 (g.2.2 121) = z := ⟨_, rfl⟩
    obtain ⟨n_47, en_47⟩ : ∃ z : Int32, G_30.1 122 = z := ⟨_, rfl⟩
    have rm_48 := hex_32
    rw [ef_46, en_47] at rm_48
    have hH : HT g Ty G_30 H := by rw [← ht, ← eTx_29, eG_30]; exact hB
    refine lv_aload_n hx hb dX12_unmounts_29 rfl (lv_at hl 1 rfl) ?_
    refine lv_aload_n hx hb dX12_unmounts_30 rfl (lv_at hl 1 rfl) ?_
    obtain ⟨_, ⟨rfl, t_50, hk_51⟩, o_c_49⟩ := hH h0 _ k_h0
    refine hg_get hx hb hG igX12 hown hK o_c_49 rfl 0 (by decide) (hG _ mw_1284) rfl dX12_unmounts_31 ?_
    refine lv_iload_n hx hb dX12_unmounts_34 rfl (lv_at hl 2 rfl) ?_
    refine lv_iload_n hx hb dX12_unmounts_35 rfl (lv_at hl 3 rfl) ?_
    refine va_calli (va_runV (As := [.ref (g.2.2 100), .int a0, .int a1]) (rest := []) ⟨hx, hb, hml, hown, hts⟩ (c_X12_goUnmount l g Ty G_30 H.size h0 (g.2.2 100) a0 a1 k_h0 (hk_51.1) (rg_w r_28 (by decide) (by decide)) Bd (by rw [w_40]; exact hI.ti) (by rw [w_40]; exact th_27) (g.2.2 111) hmk.2.2.2.2.2.2.2.2.2.2.2.2.2.2.2.2.2.2.2.2.1 u_44 (by rw [u_36]; exact hI.a113)) (cwV 3 hts (gwV mw_1656 mw_1658 mw_62 mw_88 mw_1659) rfl rfl rfl hv_X12_goUnmount ⟨Nat.le_of_ble_eq_true rfl, Nat.le_of_ble_eq_true rfl⟩) ⟨PcT_blind, hg_recv hK o_c_49 rfl, PcT_pre hK hH⟩ rfl rfl hl.1 rfl (lv_room (Nat.le_of_ble_eq_true rfl)) dX12_unmounts_36 ⟨Nat.zero_le _, Nat.zero_le _⟩) hS (fun q _ h => AF.mono hS.1 h) (fun q h => AF.mono hS.1 h) (fun x_52 ux_52 t H locs ht hvm hx_52 hB hz hk hS => ?_)
    obtain ⟨eTx_52, eGx_52⟩ := hx_52
    obtain ⟨G_53, eG_53⟩ : ∃ z, z = ux_52.2 := ⟨_, rfl⟩
    rw [← eG_53] at eGx_52
    obtain ⟨hfr_54, hex_55⟩ := eGx_52
    have fr_56 : FR [107, 108, 109, 110, 114, 104, 105, 122] [(g.2.2 100), (g.2.2 115), (g.2.2 121)] [106] G G_53 := FR.tr fr_33 hfr_54 (by decide) (fun b h => ⟨h.1, h.2.1, trivial⟩) (by decide)
    have u_57 : G_53.1 102 = (G.1 102) := (hfr_54.1 102 (by decide)).trans u_34
    have u_58 : G_53.1 104 = (G.1 104) := (hfr_54.1 104 (by decide)).trans u_35
    have u_59 : G_53.1 113 = (G.1 113) := (hfr_54.1 113 (by decide)).trans u_36
    have u_60 : G_53.1 133 = (G.1 133) := (hfr_54.1 133 (by decide)).trans u_37
    have u_61 : G_53.1 137 = (G.1 137) := (hfr_54.1 137 (by decide)).trans u_38
    have u_62 : G_53.1 105 = 0 := (hfr_54.1 105 (by decide)).trans u_39
    have u_63 : G_53.1 122 = n_47 := (hfr_54.1 122 (by decide)).trans en_47
    have w_64 : G_53.2.1 (g.2.2 140) = (G.2.1 (g.2.2 140)) := (hfr_54.2.1 (g.2.2 140) ⟨(ne_kd hmk.2.2.2.2.2.2.2.2.2.2.2.2.2.2.2.2.2.2.1 hmk.1 (by decide)), (ne_kd hmk.2.2.2.2.2.2.2.2.2.2.2.2.2.2.2.2.2.2.1 hmk.2.2.2.1 (by decide)), trivial⟩).trans w_41
    have w_65 : G_53.2.1 (g.2.2 141) = (G.2.1 (g.2.2 141)) := (hfr_54.2.1 (g.2.2 141) ⟨(ne_kd hmk.2.2.2.2.2.2.2.2.2.2.2.2.2.2.2.2.2.2.2.1 hmk.1 (by decide)), (ne_kd hmk.2.2.2.2.2.2.2.2.2.2.2.2.2.2.2.2.2.2.2.1 hmk.2.2.2.1 (by decide)), trivial⟩).trans w_42
    have w_66 : G_53.2.1 (g.2.2 111) = (G.2.1 (g.2.2 111)) := (hfr_54.2.1 (g.2.2 111) ⟨(ne_kd hmk.2.2.2.2.2.2.2.2.2.2.2.2.2.2.2.2.2.2.2.2.1 hmk.1 (by decide)), (ne_kd hmk.2.2.2.2.2.2.2.2.2.2.2.2.2.2.2.2.2.2.2.2.1 hmk.2.2.2.1 (by decide)), trivial⟩).trans w_43
    have w_67 : G_53.2.1 (g.2.2 121) = f_46 := (hfr_54.2.1 (g.2.2 121) ⟨(ne_kd hmk.2.2.2.2.2.1 hmk.1 (by decide)), (ne_kd hmk.2.2.2.2.2.1 hmk.2.2.2.1 (by decide)), trivial⟩).trans ef_46
    have u_68 : G_53.2.2 111 = some (g.2.2 111) := (hfr_54.2.2 111 (by decide)).trans u_44
    have u_69 : G_53.2.2 112 = some (g.2.2 112) := (hfr_54.2.2 112 (by decide)).trans u_45
    obtain ⟨f_70, ef_70⟩ : ∃ z : Nat → Int32, G_53.2.1 (g.2.2 100) = z := ⟨_, rfl⟩
    have ti_71 := hex_55
    rw [ef_70] at ti_71
    have hH : HT g Ty G_53 H := by rw [← ht, ← eTx_52, eG_53]; exact hB
    refine lv_istore (lv' := [(4, .int x_52), (3, .int x_23), (0, .ref h0), (1, .int a0), (2, .int a1)]) hx hb dX12_unmounts_39 hl (by decide) rfl (fun ls hl => ?_)
    refine lv_aload_n hx hb dX12_unmounts_41 rfl (lv_at hl 2 rfl) ?_
    refine lv_iconst (v := 0) hx hb dX12_unmounts_42 (by decide) ?_
    obtain ⟨_, ⟨rfl, t_73, hk_74⟩, o_c_72⟩ := hH h0 _ k_h0
    refine hg_put (ty := .int) hx hb hG igX12 tyX12 tyX12_ok nmX12 hown hK hS o_c_72 (AF.of k_h0) rfl 4 (by decide) (hG _ mw_1288) rfl (by decide +kernel) rfl rfl (Nat.le_of_ble_eq_true rfl) dX12_unmounts_43 (fun H locs o_c_72 hz oq hS => ?_)
    obtain ⟨G_75, eG_75⟩ : ∃ z : Gh, z = gset G_53 104 0 := ⟨_, rfl⟩
    have hH : HT g Ty G_75 H := by rw [eG_75]; exact HT.putN 104 0 hH k_h0 ⟨rfl, t_73, hk_74⟩ o_c_72 oq (Or.inr (Or.inr (Or.inr (Or.inr (Or.inr ⟨by decide, t_73⟩)))))
    have fr_76 : FR [107, 108, 109, 110, 114, 104, 105, 122] [(g.2.2 100), (g.2.2 115), (g.2.2 121)] [106] G G_75 := FR.n fr_56 eG_75 (by decide)
    have u_77 : G_75.1 102 = (G.1 102) := by rw [eG_75]; exact (gs_ne (by decide)).trans u_57
    have u_78 : G_75.1 113 = (G.1 113) := by rw [eG_75]; exact (gs_ne (by decide)).trans u_59
    have u_79 : G_75.1 133 = (G.1 133) := by rw [eG_75]; exact (gs_ne (by decide)).trans u_60
    have u_80 : G_75.1 137 = (G.1 137) := by rw [eG_75]; exact (gs_ne (by decide)).trans u_61
    have u_81 : G_75.1 105 = 0 := by rw [eG_75]; exact (gs_ne (by decide)).trans u_62
    have u_82 : G_75.1 122 = n_47 := by rw [eG_75]; exact (gs_ne (by decide)).trans u_63
    have u_83 : G_75.1 104 = 0 := by rw [eG_75]; exact gs_eq
    have w_84 : G_75.2.1 (g.2.2 140) = (G.2.1 (g.2.2 140)) := by rw [eG_75]; exact w_64
    have w_85 : G_75.2.1 (g.2.2 141) = (G.2.1 (g.2.2 141)) := by rw [eG_75]; exact w_65
    have w_86 : G_75.2.1 (g.2.2 111) = (G.2.1 (g.2.2 111)) := by rw [eG_75]; exact w_66
    have w_87 : G_75.2.1 (g.2.2 121) = f_46 := by rw [eG_75]; exact w_67
    have w_88 : G_75.2.1 (g.2.2 100) = f_70 := by rw [eG_75]; exact ef_70
    have u_89 : G_75.2.2 111 = some (g.2.2 111) := by rw [eG_75]; exact u_68
    have u_90 : G_75.2.2 112 = some (g.2.2 112) := by rw [eG_75]; exact u_69
    clear oq hz
    refine lv_aload_n hx hb dX12_unmounts_46 rfl (lv_at hl 2 rfl) ?_
    refine lv_iload hx hb dX12_unmounts_47 (lv_at hl 0 rfl) ?_
    refine lv_i2l hx hb dX12_unmounts_49 rfl ?_
    refine lv_topl (fun u_91 eu_91 => ?_)
    obtain ⟨_, ⟨rfl, t_93, hk_94⟩, o_c_92⟩ := hH h0 _ k_h0
    refine va_callv (va_runV (As := [.long u_91]) (rest := []) ⟨hx, hb, hml, hown, hts⟩ (c_X12_tell l g Ty G_75 H.size h0 u_91 k_h0 (by rw [u_83]; exact rg_w rl_0 (by decide) (by decide))) (cwV 1 hts (gwV mw_1510 mw_1512 mw_48 mw_88 mw_1513) rfl rfl rfl hv_X12_tell ⟨Nat.le_of_ble_eq_true rfl, Nat.le_of_ble_eq_true rfl⟩) ⟨PcT_blind, hg_recv hK o_c_92 rfl, PcT_pre hK hH⟩ rfl rfl hl.1 rfl (lv_room (Nat.le_of_ble_eq_true rfl)) dX12_unmounts_50 ⟨Nat.zero_le _, Nat.zero_le _⟩) hS (fun q _ h => AF.mono hS.1 h) (fun q h => AF.mono hS.1 h) (fun ux_95 t H locs ht hvm hx_95 hB hz hk hS => ?_)
    obtain ⟨eTx_95, eGx_95⟩ := hx_95
    obtain ⟨G_96, eG_96⟩ : ∃ z, z = ux_95.2 := ⟨_, rfl⟩
    rw [← eG_96] at eGx_95
    obtain ⟨x_97, ex_97⟩ : ∃ z : Int32, z = 0 + 1 := ⟨_, rfl⟩
    have e_98 : G_96 = gset G_75 104 x_97 := by rw [ex_97, ← u_83]; exact eGx_95
    have rx_97 : rgI (1) (1) x_97 := by rw [ex_97]; exact rg_w (rg_add rl_0 rl_1 (by decide) (by decide)) (by decide) (by decide)
    have fr_99 : FR [107, 108, 109, 110, 114, 104, 105, 122] [(g.2.2 100), (g.2.2 115), (g.2.2 121)] [106] G G_96 := FR.n fr_76 e_98 (by decide)
    have u_100 : G_96.1 102 = (G.1 102) := by rw [e_98]; exact (gs_ne (by decide)).trans u_77
    have u_101 : G_96.1 113 = (G.1 113) := by rw [e_98]; exact (gs_ne (by decide)).trans u_78
    have u_102 : G_96.1 133 = (G.1 133) := by rw [e_98]; exact (gs_ne (by decide)).trans u_79
    have u_103 : G_96.1 137 = (G.1 137) := by rw [e_98]; exact (gs_ne (by decide)).trans u_80
    have u_104 : G_96.1 105 = 0 := by rw [e_98]; exact (gs_ne (by decide)).trans u_81
    have u_105 : G_96.1 122 = n_47 := by rw [e_98]; exact (gs_ne (by decide)).trans u_82
    have u_106 : G_96.1 104 = x_97 := by rw [e_98]; exact gs_eq
    have w_107 : G_96.2.1 (g.2.2 140) = (G.2.1 (g.2.2 140)) := by rw [e_98]; exact w_84
    have w_108 : G_96.2.1 (g.2.2 141) = (G.2.1 (g.2.2 141)) := by rw [e_98]; exact w_85
    have w_109 : G_96.2.1 (g.2.2 111) = (G.2.1 (g.2.2 111)) := by rw [e_98]; exact w_86
    have w_110 : G_96.2.1 (g.2.2 121) = f_46 := by rw [e_98]; exact w_87
    have w_111 : G_96.2.1 (g.2.2 100) = f_70 := by rw [e_98]; exact w_88
    have u_112 : G_96.2.2 111 = some (g.2.2 111) := by rw [e_98]; exact u_89
    have u_113 : G_96.2.2 112 = some (g.2.2 112) := by rw [e_98]; exact u_90
    have hH : HT g Ty G_96 H := by rw [← ht, ← eTx_95, eG_96]; exact hB
    refine lv_iload hx hb dX12_unmounts_53 (lv_at hl 0 rfl) ?_
    refine vp_callSi (W.runS (As := [.int x_52]) (rest := []) ⟨hx, hb, hml, hown, hts⟩ (c_J6_bitCount_x l g Ty G_96 x_52 ) (cwSx 1 hts hG (gwC mw_620) mw_99 mw_1553 mw_619 rfl rfl rfl hd_J6_bitCount_0f7a4 ⟨Nat.le_of_ble_eq_true rfl, Nat.le_of_ble_eq_true rfl⟩) ⟨PcH_blind, PcH_pre hK hH⟩ rfl rfl hl.1 rfl (lv_room (Nat.le_of_ble_eq_true rfl)) dX12_unmounts_55 ⟨Nat.zero_le _, Nat.zero_le _⟩) (fun x_114 hx_114 => ?_)
    have rx_114 : rgI (0) (63) x_114 := hx_114.1
    exact W.iret hx hb hr (fun t ht hWm => ⟨⟨x_114, (Ty, G_96), rfl, ⟨rfl, ⟨fr_99, ⟨(by rw [u_100]; exact (rg_w hI.a102 (by decide) (by decide))), (by rw [u_106]; exact (rg_w rx_97 (by decide) (by decide))), (by rw [u_101]; exact (rg_w hI.a113 (by decide) (by decide))), (by rw [u_105]; exact (rg_w rm_48.1 (by decide) (by decide))), (by rw [u_102]; exact (rg_w hI.a133 (by decide) (by decide))), (by rw [u_103]; exact (rg_w hI.a137 (by decide) (by decide))), u_112, u_113, (by rw [w_111]; exact (TI.hi ti_71 (by omega))), (by rw [w_110, u_105]; exact fun i hi => TI.hi (rm_48.2 i hi) (by omega)), (hI.ke2 (show Bd ≤ Bd + 1000 by omega) w_107 w_108)⟩⟩⟩, by show HT g Ty G_96 t.heap; rw [ht]; exact hH⟩, hS.F ht⟩) hS.2.2 dX12_unmounts_58
  · have r_115 : rgI (-3) (-1) x_23 := rg_w (rg_ltL rx_23 rl_0 (nle_lt c_25)) (by decide) (by decide)
    refine lv_iload_n hx hb dX12_unmounts_19 rfl (lv_at hl 0 rfl) ?_
    exact W.iret hx hb hr (fun t ht hWm => ⟨⟨x_23, (Ty, G_4), rfl, ⟨rfl, ⟨fr_5, ⟨(by rw [u_6]; exact (rg_w hI.a102 (by decide) (by decide))), (by rw [u_7]; exact (rg_w hI.a104 (by decide) (by decide))), (by rw [u_8]; exact (rg_w hI.a113 (by decide) (by decide))), (by rw [u_9]; exact (rg_w hI.a122 (by decide) (by decide))), (by rw [u_10]; exact (rg_w hI.a133 (by decide) (by decide))), (by rw [u_11]; exact (rg_w hI.a137 (by decide) (by decide))), u_18, u_19, (by rw [w_13]; exact (hI.ti.hi (show Bd ≤ Bd + 1000 by omega))), (hI.un2 (show Bd ≤ Bd + 1000 by omega) w_14 u_9), (hI.ke2 (show Bd ≤ Bd + 1000 by omega) w_15 w_16)⟩⟩⟩, by show HT g Ty G_4 t.heap; rw [ht]; exact hH⟩, hS.F ht⟩) hS.2.2 dX12_unmounts_20

set_option maxHeartbeats 4000000 in
set_option maxRecDepth 100000 in
theorem c_X12_lost_ (l : Launch) (g : Gx) (Ty : TyM) (G : Gh) (sz : Nat) (h0 : Nat) (a0 : Int32) (a1 : Int32) (k_h0 : Ty h0 = some (22, 0)) (Bd : Int) (hI : OI g Bd G) (hBd : Bd ≤ 1900000) (hLD : LD g) : Met l yX12_lost_ (wsG yX12_lost_ cX12_lost_ 4 (some .int)) ({ frames := 340, cells := 0, slots := 0, locals := 7971 }) (PcT g Ty G sz [.ref h0, .int a0, .int a1]) (QwI g Ty sz (fun r u => u.1 = Ty ∧ FR [107, 108, 109, 110, 114, 104, 105] [(g.2.2 115)] [106] G u.2 ∧ OI g (Bd + 1000) u.2)) 0 0 (AF Ty sz) := by
  refine Met.ofW (cc := cX12_lost_) (maxL := 4) (ret := (some .int)) (by decide) rfl ?_
  intro p e s m args below meth c s₁ B hml hv
  obtain ⟨rfl, hsz, hK, hH⟩ := hv
  subst hsz
  have hx := B.exec
  have hb := B.bytes
  have hr := B.returns
  have hts := atoms_spec (ws := (wsG yX12_lost_ cX12_lost_ 4 (some .int))) B.pre
  have hG : ∀ w ∈ GW, w.before ([.ref h0, .int a0, .int a1] : List Value).toArray s = true := fun w h => hts w (List.mem_cons_of_mem _ h)
  have hown : s.vm.findClass RX12 = some m.cls := findClass_of_methodNamed B.named
  have hlocks := B.notSynchronized
  have hl := lv_entry [.ref h0, .int a0, .int a1] (n := 4) (Nat.le_of_ble_eq_true rfl)
  rw [lg_entry_eq]
  generalize (lg_sl [.ref h0, .int a0, .int a1] ++ List.replicate (4 - (lg_sl [.ref h0, .int a0, .int a1]).length) Slot.unset).toArray = ls at hl ⊢
  have hl : lv_has ls 4 [(0, .ref h0), (1, .int a0), (2, .int a1)] := hl
  have hmk : mdK g Ty := mdk_of hH k_h0
  have hS : va_S (AF Ty s.heap.size) s.heap s.heap [] := va_S.rf
  obtain ⟨⟨σ0, hTS0⟩, h10, hBB0⟩ := id hI.ti
  obtain ⟨ρ, hT⟩ := hTS0.1
  refine lv_aload_n hx hb dX12_lost__0 rfl (lv_at hl 0 rfl) ?_
  refine lv_iconst (v := 0) hx hb dX12_lost__1 (by decide) ?_
  obtain ⟨_, ⟨rfl, t_2, hk_3⟩, o_c_1⟩ := hH h0 _ k_h0
  refine hg_put (ty := .int) hx hb hG igX12 tyX12 tyX12_ok nmX12 hown hK hS o_c_1 (AF.of k_h0) rfl 5 (by decide) (hG _ mw_1289) rfl (by decide +kernel) rfl rfl (Nat.le_of_ble_eq_true rfl) dX12_lost__2 (fun H locs o_c_1 hz oq hS => ?_)
  obtain ⟨G_4, eG_4⟩ : ∃ z : Gh, z = gset G 105 0 := ⟨_, rfl⟩
  have hH : HT g Ty G_4 H := by rw [eG_4]; exact HT.putN 105 0 hH k_h0 ⟨rfl, t_2, hk_3⟩ o_c_1 oq (Or.inr (Or.inr (Or.inr (Or.inr (Or.inr ⟨by decide, t_2⟩)))))
  have fr_5 : FR [107, 108, 109, 110, 114, 104, 105] [(g.2.2 115)] [106] G G_4 := FR.n FR.rf eG_4 (by decide)
  have u_6 : G_4.1 102 = (G.1 102) := by rw [eG_4]; exact (gs_ne (by decide))
  have u_7 : G_4.1 104 = (G.1 104) := by rw [eG_4]; exact (gs_ne (by decide))
  have u_8 : G_4.1 113 = (G.1 113) := by rw [eG_4]; exact (gs_ne (by decide))
  have u_9 : G_4.1 122 = (G.1 122) := by rw [eG_4]; exact (gs_ne (by decide))
  have u_10 : G_4.1 133 = (G.1 133) := by rw [eG_4]; exact (gs_ne (by decide))
  have u_11 : G_4.1 137 = (G.1 137) := by rw [eG_4]; exact (gs_ne (by decide))
  have u_12 : G_4.1 105 = 0 := by rw [eG_4]; exact gs_eq
  have w_13 : G_4.2.1 (g.2.2 100) = (G.2.1 (g.2.2 100)) := by rw [eG_4]; exact rfl
  have w_14 : G_4.2.1 (g.2.2 121) = (G.2.1 (g.2.2 121)) := by rw [eG_4]; exact rfl
  have w_15 : G_4.2.1 (g.2.2 140) = (G.2.1 (g.2.2 140)) := by rw [eG_4]; exact rfl
  have w_16 : G_4.2.1 (g.2.2 141) = (G.2.1 (g.2.2 141)) := by rw [eG_4]; exact rfl
  have w_17 : G_4.2.1 (g.2.2 111) = (G.2.1 (g.2.2 111)) := by rw [eG_4]; exact rfl
  have u_18 : G_4.2.2 111 = some (g.2.2 111) := by rw [eG_4]; exact hI.r111
  have u_19 : G_4.2.2 112 = some (g.2.2 112) := by rw [eG_4]; exact hI.r112
  clear oq hz
  refine lv_aload_n hx hb dX12_lost__5 rfl (lv_at hl 0 rfl) ?_
  obtain ⟨_, ⟨rfl, t_21, hk_22⟩, o_c_20⟩ := hH h0 _ k_h0
  refine hg_get hx hb hG igX12 hown hK o_c_20 rfl 0 (by decide) (hG _ mw_1284) rfl dX12_lost__6 ?_
  refine lv_iload_n hx hb dX12_lost__9 rfl (lv_at hl 1 rfl) ?_
  refine lv_iload_n hx hb dX12_lost__10 rfl (lv_at hl 2 rfl) ?_
  refine vp_callSi (W.runS (As := [.ref (g.2.2 100), .int a0, .int a1]) (rest := []) ⟨hx, hb, hml, hown, hts⟩ (c_X12_refusesUnmount l g Ty G_4 (g.2.2 100) a0 a1 (hk_22.1)) (cwSx 3 hts hG (gwC mw_1655) mw_88 mw_1653 mw_1654 rfl rfl rfl hd_X12_refusesUnmount ⟨Nat.le_of_ble_eq_true rfl, Nat.le_of_ble_eq_true rfl⟩) ⟨PcH_blind, PcH_pre hK hH⟩ rfl rfl hl.1 rfl (lv_room (Nat.le_of_ble_eq_true rfl)) dX12_lost__11 ⟨Nat.zero_le _, Nat.zero_le _⟩) (fun x_23 hx_23 => ?_)
  have rx_23 : rgI (-3) (0) x_23 := hx_23.1
  have ex_24 : x_23 = F_X12_refusesUnmount (G.2.1 (g.2.2 100)) a0 a1 := by rw [← w_13]; exact hx_23.2
  refine lv_istore_n (lv' := [(3, .int x_23), (0, .ref h0), (1, .int a0), (2, .int a1)]) hx hb dX12_lost__14 rfl hl (by decide) rfl (fun ls hl => ?_)
  refine lv_iload_n hx hb dX12_lost__15 rfl (lv_at hl 0 rfl) ?_
  refine lv_if_ge (tgt := 23) hx hb dX12_lost__16 (by decide) (fun c_25 => ?_) (fun c_25 => ?_)
  · have r_26 : rgI (0) (0) x_23 := rg_w (rg_leR rl_0 rx_23 c_25) (by decide) (by decide)
    have th_27 : thr (G.2.1 (g.2.2 100)) a0 := ru_0 ex_24 r_26 c_25
    have r_28 : rgI (0) (23) a0 := rg_w (th_27.1) (by decide) (by decide)
    refine lv_aload_n hx hb dX12_lost__23 rfl (lv_at hl 1 rfl) ?_
    refine lv_aload_n hx hb dX12_lost__24 rfl (lv_at hl 1 rfl) ?_
    refine lv_aload_n hx hb dX12_lost__25 rfl (lv_at hl 1 rfl) ?_
    refine hg_get hx hb hG igX12 hown hK o_c_20 rfl 0 (by decide) (hG _ mw_1284) rfl dX12_lost__26 ?_
    refine lv_iload_n hx hb dX12_lost__29 rfl (lv_at hl 2 rfl) ?_
    refine lv_iload_n hx hb dX12_lost__30 rfl (lv_at hl 3 rfl) ?_
    refine va_calli (va_runV (As := [.ref (g.2.2 100), .int a0, .int a1]) (rest := [.ref h0]) ⟨hx, hb, hml, hown, hts⟩ (c_X12_goersOf l g Ty G_4 H.size h0 (g.2.2 100) a0 a1 k_h0 (hk_22.1) ρ (by rw [w_13]; exact hT) (by rw [w_13]; exact th_27) (g.2.2 111) hmk.2.2.2.2.2.2.2.2.2.2.2.2.2.2.2.2.2.2.2.2.1 u_18 (by rw [u_8]; exact hI.a113)) (cwV 3 hts (gwV mw_1660 mw_1662 mw_63 mw_88 mw_1663) rfl rfl rfl hv_X12_goersOf ⟨Nat.le_of_ble_eq_true rfl, Nat.le_of_ble_eq_true rfl⟩) ⟨PcT_blind, hg_recv hK o_c_20 rfl, PcT_pre hK hH⟩ rfl rfl hl.1 rfl (lv_room (Nat.le_of_ble_eq_true rfl)) dX12_lost__31 ⟨Nat.zero_le _, Nat.zero_le _⟩) hS (fun q _ h => AF.mono hS.1 h) (fun q h => AF.mono hS.1 h) (fun x_29 ux_29 t H locs ht hvm hx_29 hB hz hk hS => ?_)
    obtain ⟨hx_29, fx_29⟩ := hx_29
    obtain ⟨eTx_29, eGx_29⟩ := fx_29
    obtain ⟨G_30, eG_30⟩ : ∃ z, z = ux_29.2 := ⟨_, rfl⟩
    rw [← eG_30] at eGx_29
    have fr_31 : FR [107, 108, 109, 110, 114, 104, 105] [(g.2.2 115)] [106] G G_30 := FR.tr fr_5 eGx_29 (by decide) (fun b h => ⟨h.1, trivial⟩) (by decide)
    have u_32 : G_30.1 102 = (G.1 102) := (eGx_29.1 102 (by decide)).trans u_6
    have u_33 : G_30.1 104 = (G.1 104) := (eGx_29.1 104 (by decide)).trans u_7
    have u_34 : G_30.1 113 = (G.1 113) := (eGx_29.1 113 (by decide)).trans u_8
    have u_35 : G_30.1 122 = (G.1 122) := (eGx_29.1 122 (by decide)).trans u_9
    have u_36 : G_30.1 133 = (G.1 133) := (eGx_29.1 133 (by decide)).trans u_10
    have u_37 : G_30.1 137 = (G.1 137) := (eGx_29.1 137 (by decide)).trans u_11
    have u_38 : G_30.1 105 = 0 := (eGx_29.1 105 (by decide)).trans u_12
    have w_39 : G_30.2.1 (g.2.2 100) = (G.2.1 (g.2.2 100)) := (eGx_29.2.1 (g.2.2 100) ⟨(ne_kd hmk.1 hmk.2.2.2.1 (by decide)), trivial⟩).trans w_13
    have w_40 : G_30.2.1 (g.2.2 121) = (G.2.1 (g.2.2 121)) := (eGx_29.2.1 (g.2.2 121) ⟨(ne_kd hmk.2.2.2.2.2.1 hmk.2.2.2.1 (by decide)), trivial⟩).trans w_14
    have w_41 : G_30.2.1 (g.2.2 140) = (G.2.1 (g.2.2 140)) := (eGx_29.2.1 (g.2.2 140) ⟨(ne_kd hmk.2.2.2.2.2.2.2.2.2.2.2.2.2.2.2.2.2.2.1 hmk.2.2.2.1 (by decide)), trivial⟩).trans w_15
    have w_42 : G_30.2.1 (g.2.2 141) = (G.2.1 (g.2.2 141)) := (eGx_29.2.1 (g.2.2 141) ⟨(ne_kd hmk.2.2.2.2.2.2.2.2.2.2.2.2.2.2.2.2.2.2.2.1 hmk.2.2.2.1 (by decide)), trivial⟩).trans w_16
    have w_43 : G_30.2.1 (g.2.2 111) = (G.2.1 (g.2.2 111)) := (eGx_29.2.1 (g.2.2 111) ⟨(ne_kd hmk.2.2.2.2.2.2.2.2.2.2.2.2.2.2.2.2.2.2.2.2.1 hmk.2.2.2.1 (by decide)), trivial⟩).trans w_17
    have u_44 : G_30.2.2 111 = some (g.2.2 111) := (eGx_29.2.2 111 (by decide)).trans u_18
    have u_45 : G_30.2.2 112 = some (g.2.2 112) := (eGx_29.2.2 112 (by decide)).trans u_19
    have hH : HT g Ty G_30 H := by rw [← ht, ← eTx_29, eG_30]; exact hB
    have tx_46 := hx_29
    try rw [w_13] at tx_46
    try rw [w_17] at tx_46
    try rw [u_8] at tx_46
    obtain ⟨_, ⟨rfl, t_48, hk_49⟩, o_c_47⟩ := hH h0 _ k_h0
    refine va_calli (va_runV (As := [.int x_29]) (rest := []) ⟨hx, hb, hml, hown, hts⟩ (c_X12_tellBits l g Ty G_30 H.size h0 x_29 k_h0) (cwV 1 hts (gwV mw_1704 mw_1706 mw_67 mw_88 mw_1707) rfl rfl rfl hv_X12_tellBits ⟨Nat.le_of_ble_eq_true rfl, Nat.le_of_ble_eq_true rfl⟩) ⟨PcT_blind, hg_recv hK o_c_47 rfl, PcT_pre hK hH⟩ rfl rfl hl.1 rfl (lv_room (Nat.le_of_ble_eq_true rfl)) dX12_lost__34 ⟨Nat.zero_le _, Nat.zero_le _⟩) hS (fun q _ h => AF.mono hS.1 h) (fun q h => AF.mono hS.1 h) (fun x_50 ux_50 t H locs ht hvm hx_50 hB hz hk hS => ?_)
    obtain ⟨eTx_50, eGx_50⟩ := hx_50
    obtain ⟨G_51, eG_51⟩ : ∃ z, z = ux_50.2 := ⟨_, rfl⟩
    rw [← eG_51] at eGx_50
    obtain ⟨hfr_52, hex_53⟩ := eGx_50
    have fr_54 : FR [107, 108, 109, 110, 114, 104, 105] [(g.2.2 115)] [106] G G_51 := FR.tr fr_31 hfr_52 (by decide) (fun _ _ => trivial) (by decide)
    have u_55 : G_51.1 102 = (G.1 102) := (hfr_52.1 102 (by decide)).trans u_32
    have u_56 : G_51.1 113 = (G.1 113) := (hfr_52.1 113 (by decide)).trans u_34
    have u_57 : G_51.1 122 = (G.1 122) := (hfr_52.1 122 (by decide)).trans u_35
    have u_58 : G_51.1 133 = (G.1 133) := (hfr_52.1 133 (by decide)).trans u_36
    have u_59 : G_51.1 137 = (G.1 137) := (hfr_52.1 137 (by decide)).trans u_37
    have u_60 : G_51.1 105 = 0 := (hfr_52.1 105 (by decide)).trans u_38
    have w_61 : G_51.2.1 (g.2.2 100) = (G.2.1 (g.2.2 100)) := (hfr_52.2.1 (g.2.2 100) trivial).trans w_39
    have w_62 : G_51.2.1 (g.2.2 121) = (G.2.1 (g.2.2 121)) := (hfr_52.2.1 (g.2.2 121) trivial).trans w_40
    have w_63 : G_51.2.1 (g.2.2 140) = (G.2.1 (g.2.2 140)) := (hfr_52.2.1 (g.2.2 140) trivial).trans w_41
    have w_64 : G_51.2.1 (g.2.2 141) = (G.2.1 (g.2.2 141)) := (hfr_52.2.1 (g.2.2 141) trivial).trans w_42
    have w_65 : G_51.2.1 (g.2.2 111) = (G.2.1 (g.2.2 111)) := (hfr_52.2.1 (g.2.2 111) trivial).trans w_43
    have u_66 : G_51.2.2 111 = some (g.2.2 111) := (hfr_52.2.2 111 (by decide)).trans u_44
    have u_67 : G_51.2.2 112 = some (g.2.2 112) := (hfr_52.2.2 112 (by decide)).trans u_45
    have t4_68 : rgI (1) (1) (G_51.1 104) := hex_53
    have hH : HT g Ty G_51 H := by rw [← ht, ← eTx_50, eG_51]; exact hB
    exact W.iret hx hb hr (fun t ht hWm => ⟨⟨x_50, (Ty, G_51), rfl, ⟨rfl, ⟨fr_54, ⟨(by rw [u_55]; exact (rg_w hI.a102 (by decide) (by decide))), (rg_w t4_68 (by decide) (by decide)), (by rw [u_56]; exact (rg_w hI.a113 (by decide) (by decide))), (by rw [u_57]; exact (rg_w hI.a122 (by decide) (by decide))), (by rw [u_58]; exact (rg_w hI.a133 (by decide) (by decide))), (by rw [u_59]; exact (rg_w hI.a137 (by decide) (by decide))), u_66, u_67, (by rw [w_61]; exact (hI.ti.hi (show Bd ≤ Bd + 1000 by omega))), (hI.un2 (show Bd ≤ Bd + 1000 by omega) w_62 u_57), (hI.ke2 (show Bd ≤ Bd + 1000 by omega) w_63 w_64)⟩⟩⟩, by show HT g Ty G_51 t.heap; rw [ht]; exact hH⟩, hS.F ht⟩) hS.2.2 dX12_lost__37
  · have r_69 : rgI (-3) (-1) x_23 := rg_w (rg_ltL rx_23 rl_0 (nle_lt c_25)) (by decide) (by decide)
    refine lv_iload_n hx hb dX12_lost__19 rfl (lv_at hl 0 rfl) ?_
    refine lv_goto (tgt := 37) hx hb dX12_lost__20 (by decide) ?_
    exact W.iret hx hb hr (fun t ht hWm => ⟨⟨x_23, (Ty, G_4), rfl, ⟨rfl, ⟨fr_5, ⟨(by rw [u_6]; exact (rg_w hI.a102 (by decide) (by decide))), (by rw [u_7]; exact (rg_w hI.a104 (by decide) (by decide))), (by rw [u_8]; exact (rg_w hI.a113 (by decide) (by decide))), (by rw [u_9]; exact (rg_w hI.a122 (by decide) (by decide))), (by rw [u_10]; exact (rg_w hI.a133 (by decide) (by decide))), (by rw [u_11]; exact (rg_w hI.a137 (by decide) (by decide))), u_18, u_19, (by rw [w_13]; exact (hI.ti.hi (show Bd ≤ Bd + 1000 by omega))), (hI.un2 (show Bd ≤ Bd + 1000 by omega) w_14 u_9), (hI.ke2 (show Bd ≤ Bd + 1000 by omega) w_15 w_16)⟩⟩⟩, by show HT g Ty G_4 t.heap; rw [ht]; exact hH⟩, hS.F ht⟩) hS.2.2 dX12_lost__37

set_option maxHeartbeats 4000000 in
set_option maxRecDepth 100000 in
theorem c_X12_undo (l : Launch) (g : Gx) (Ty : TyM) (G : Gh) (sz : Nat) (h0 : Nat) (k_h0 : Ty h0 = some (22, 0)) (Bd : Int) (hI : OI g Bd G) (hBd : Bd ≤ 1900000) (hLD : LD g) : Met l yX12_undo (wsG yX12_undo cX12_undo 2 (some .int)) ({ frames := 0, cells := 0, slots := 0, locals := 0 }) (PcT g Ty G sz [.ref h0]) (QwI g Ty sz (fun r u => u.1 = Ty ∧ FR [105, 122] [(g.2.2 100)] [] G u.2 ∧ OI g (Bd + 1000) u.2)) 0 0 (AF Ty sz) := by
  refine Met.ofW (cc := cX12_undo) (maxL := 2) (ret := (some .int)) (by decide) rfl ?_
  intro p e s m args below meth c s₁ B hml hv
  obtain ⟨rfl, hsz, hK, hH⟩ := hv
  subst hsz
  have hx := B.exec
  have hb := B.bytes
  have hr := B.returns
  have hts := atoms_spec (ws := (wsG yX12_undo cX12_undo 2 (some .int))) B.pre
  have hG : ∀ w ∈ GW, w.before ([.ref h0] : List Value).toArray s = true := fun w h => hts w (List.mem_cons_of_mem _ h)
  have hown : s.vm.findClass RX12 = some m.cls := findClass_of_methodNamed B.named
  have hlocks := B.notSynchronized
  have hl := lv_entry [.ref h0] (n := 2) (Nat.le_of_ble_eq_true rfl)
  rw [lg_entry_eq]
  generalize (lg_sl [.ref h0] ++ List.replicate (2 - (lg_sl [.ref h0]).length) Slot.unset).toArray = ls at hl ⊢
  have hl : lv_has ls 2 [(0, .ref h0)] := hl
  have hmk : mdK g Ty := mdk_of hH k_h0
  have hS : va_S (AF Ty s.heap.size) s.heap s.heap [] := va_S.rf
  obtain ⟨⟨σ0, hTS0⟩, h10, hBB0⟩ := id hI.ti
  obtain ⟨ρ, hT⟩ := hTS0.1
  have L_26 : ∀ (n : Nat) (H : Heap) (locs : List Loc) (G_26 : Gh) (fl0_26 : Nat → Int32) (y1_26 : Int32) (ls : Array Slot), rgI (0) (11) (G_26.1 122) → FR [105, 122] [(g.2.2 100)] [] G G_26 → G_26.2.1 (g.2.2 100) = fl0_26 → rgI (0) (122) y1_26 → BK (sl (G.2.1 (g.2.2 121)) ((G_26.1 122) : Int32).toNatClampNeg) (G.2.1 (g.2.2 100)) fl0_26 (y1_26 : Int32).toNatClampNeg → ((G_26.1 122) : Int32).toInt + 1 = (G.1 122).toInt → (122 - (y1_26).toInt).toNat < n → lv_has ls 2 [(0, .ref h0), (1, .int y1_26)] → HT g Ty G_26 H → va_S (AF Ty s.heap.size) s.heap H locs → Wm p l e (wsG yX12_undo cX12_undo 2 (some .int)) ({ frames := 0, cells := 0, slots := 0, locals := 0 }) s m [.ref h0] below meth c H locs (0) (0) (QwI g Ty s.heap.size (fun r u => u.1 = Ty ∧ FR [105, 122] [(g.2.2 100)] [] G u.2 ∧ OI g (Bd + 1000) u.2)) 0 0 (AF Ty s.heap.size) (F0 m 26 ls []) := by
    intro n
    induction n with
    | zero => intro H locs G_26 fl0_26 y1_26 ls rg122_26 fr_26 efl0_26 ry1_26 hi0_26 hi1_26 hm; exact absurd hm (Nat.not_lt_zero _)
    | succ n ih_26 =>
      intro H locs G_26 fl0_26 y1_26 ls rg122_26 fr_26 efl0_26 ry1_26 hi0_26 hi1_26 hm_26 hl hH hS
      refine lv_iload_n hx hb dX12_undo_26 rfl (lv_at hl 1 rfl) ?_
      refine lv_bipush (v := 122) hx hb dX12_undo_27 (by decide) ?_
      refine lv_icmp_ge (tgt := 58) hx hb dX12_undo_29 (by decide) (fun c_1 => ?_) (fun c_1 => ?_)
      · have r_2 : rgI (122) (122) y1_26 := rg_w (rg_leR rl_122 ry1_26 c_1) (by decide) (by decide)
        have tu_3 : TI Bd fl0_26 := BK_e hi0_26 r_2 (hI.un _ (by have a := cl_nat (rg122_26).1; have b := hi1_26; omega))
        refine lv_aload_n hx hb dX12_undo_58 rfl (lv_at hl 0 rfl) ?_
        obtain ⟨_, ⟨rfl, t_5, hk_6⟩, o_c_4⟩ := hH h0 _ k_h0
        refine hg_get hx hb hG igX12 hown hK o_c_4 rfl 22 (by decide) (hG _ mw_1306) rfl dX12_undo_59 ?_
        exact W.iret hx hb hr (fun t ht hWm => ⟨⟨(G_26.1 122), (Ty, G_26), rfl, ⟨rfl, ⟨fr_26, ⟨(by rw [(fr_26.1 102 (by decide))]; exact (rg_w hI.a102 (by decide) (by decide))), (by rw [(fr_26.1 104 (by decide))]; exact (rg_w hI.a104 (by decide) (by decide))), (by rw [(fr_26.1 113 (by decide))]; exact (rg_w hI.a113 (by decide) (by decide))), (rg_w rg122_26 (by decide) (by decide)), (by rw [(fr_26.1 133 (by decide))]; exact (rg_w hI.a133 (by decide) (by decide))), (by rw [(fr_26.1 137 (by decide))]; exact (rg_w hI.a137 (by decide) (by decide))), ((fr_26.2.2 111 (by decide)).trans hI.r111), ((fr_26.2.2 112 (by decide)).trans hI.r112), (by rw [efl0_26]; exact (TI.hi tu_3 (by omega))), (fun i hi => by rw [(fr_26.2.1 (g.2.2 121) ⟨(ne_kd hmk.2.2.2.2.2.1 hmk.1 (by decide)), trivial⟩)]; exact (hI.un i (by have b := hi1_26; have c : (i : Int) < (G_26.1 122).toInt := hi; omega)).hi (by omega)), (hI.ke2 (show Bd ≤ Bd + 1000 by omega) (fr_26.2.1 (g.2.2 140) ⟨(ne_kd hmk.2.2.2.2.2.2.2.2.2.2.2.2.2.2.2.2.2.2.1 hmk.1 (by decide)), trivial⟩) (fr_26.2.1 (g.2.2 141) ⟨(ne_kd hmk.2.2.2.2.2.2.2.2.2.2.2.2.2.2.2.2.2.2.2.1 hmk.1 (by decide)), trivial⟩))⟩⟩⟩, by show HT g Ty G_26 t.heap; rw [ht]; exact hH⟩, hS.F ht⟩) hS.2.2 dX12_undo_62
      · have r_7 : rgI (0) (121) y1_26 := rg_w (rg_ltL ry1_26 rl_122 (nle_lt c_1)) (by decide) (by decide)
        refine lv_aload_n hx hb dX12_undo_32 rfl (lv_at hl 0 rfl) ?_
        obtain ⟨_, ⟨rfl, t_9, hk_10⟩, o_c_8⟩ := hH h0 _ k_h0
        refine hg_get hx hb hG igX12 hown hK o_c_8 rfl 0 (by decide) (hG _ mw_1284) rfl dX12_undo_33 ?_
        refine lv_iload_n hx hb dX12_undo_36 rfl (lv_at hl 1 rfl) ?_
        refine lv_aload_n hx hb dX12_undo_37 rfl (lv_at hl 0 rfl) ?_
        refine hg_get hx hb hG igX12 hown hK o_c_8 rfl 21 (by decide) (hG _ mw_1305) rfl dX12_undo_38 ?_
        refine lv_bipush (v := 122) hx hb dX12_undo_41 (by decide) ?_
        refine lv_aload_n hx hb dX12_undo_43 rfl (lv_at hl 0 rfl) ?_
        refine hg_get hx hb hG igX12 hown hK o_c_8 rfl 22 (by decide) (hG _ mw_1306) rfl dX12_undo_44 ?_
        refine lv_imul hx hb dX12_undo_47 ?_
        refine lv_topi (fun x_11 ex_11 => ?_)
        have rx_11 : rgI (0) (1342) x_11 := by rw [ex_11]; exact rg_w (rg_mul rl_122 rg122_26 (by decide) (by decide) (by decide)) (by decide) (by decide)
        refine lv_iload_n hx hb dX12_undo_48 rfl (lv_at hl 1 rfl) ?_
        refine lv_iadd hx hb dX12_undo_49 ?_
        refine lv_topi (fun x_12 ex_12 => ?_)
        have rx_12 : rgI (0) (1463) x_12 := by rw [ex_12]; exact rg_w (rg_add rx_11 r_7 (by decide) (by decide)) (by decide) (by decide)
        obtain ⟨_, rfl, o_c_13⟩ := hH (g.2.2 121) _ hk_10.2.2.2.2.2.1
        have o_c_13 : va_at g.1 vwCl ((g.2.2 121), .inl (g.2.1 1, 1464, .inl (G_26.2.1 (g.2.2 121)))) H := o_c_13
        refine hg_iald hx hb hK o_c_13 (rg_in (n := 1464) rx_12 (by decide) (by decide)) dX12_undo_50 ?_
        rw [(fr_26.2.1 (g.2.2 121) ⟨(ne_kd hmk.2.2.2.2.2.1 hmk.1 (by decide)), trivial⟩)]
        refine lv_topi (fun x_14 ex_14 => ?_)
        obtain ⟨_, rfl, o_c_15⟩ := hH (g.2.2 100) _ hk_10.1
        have o_c_15 : va_at g.1 vwCl ((g.2.2 100), .inl (g.2.1 1, 122, .inl (G_26.2.1 (g.2.2 100)))) H := o_c_15
        refine hg_iast hx hb hK hS o_c_15 (AF.of hk_10.1) (rg_in (n := 122) r_7 (by decide) (by decide)) dX12_undo_51 (fun H locs o_c_15 hz oq hS => ?_)
        obtain ⟨G_16, eG_16⟩ : ∃ z : Gh, z = aset G_26 (g.2.2 100) (upd (G_26.2.1 (g.2.2 100)) (y1_26 : Int32).toNatClampNeg x_14) := ⟨_, rfl⟩
        have hH : HT g Ty G_16 H := by rw [eG_16]; exact HT.putA (upd (G_26.2.1 (g.2.2 100)) (y1_26 : Int32).toNatClampNeg x_14) hH hk_10.1 cf30 o_c_15 oq
        obtain ⟨f_17, ef_17⟩ : ∃ z : Nat → Int32, z = (upd fl0_26 (y1_26 : Int32).toNatClampNeg x_14) := ⟨_, rfl⟩
        have eaf_17 : G_16 = aset G_26 (g.2.2 100) f_17 := by rw [eG_16, ef_17, efl0_26]
        have fr_18 : FR [105, 122] [(g.2.2 100)] [] G G_16 := FR.a fr_26 eaf_17 (fun b h => h.1)
        have u_19 : G_16.1 122 = (G_26.1 122) := by rw [eaf_17]; exact rfl
        have u_20 : G_16.1 102 = (G.1 102) := by rw [eaf_17]; exact (fr_26.1 102 (by decide))
        have u_21 : G_16.1 104 = (G.1 104) := by rw [eaf_17]; exact (fr_26.1 104 (by decide))
        have u_22 : G_16.1 113 = (G.1 113) := by rw [eaf_17]; exact (fr_26.1 113 (by decide))
        have u_23 : G_16.1 133 = (G.1 133) := by rw [eaf_17]; exact (fr_26.1 133 (by decide))
        have u_24 : G_16.1 137 = (G.1 137) := by rw [eaf_17]; exact (fr_26.1 137 (by decide))
        have w_25 : G_16.2.1 (g.2.2 100) = f_17 := by rw [eaf_17]; exact aset_eq
        have w_26 : G_16.2.1 (g.2.2 121) = (G.2.1 (g.2.2 121)) := by rw [eaf_17]; exact (aset_ne (ne_kd hmk.2.2.2.2.2.1 hmk.1 (by decide))).trans (fr_26.2.1 (g.2.2 121) ⟨(ne_kd hmk.2.2.2.2.2.1 hmk.1 (by decide)), trivial⟩)
        have w_27 : G_16.2.1 (g.2.2 140) = (G.2.1 (g.2.2 140)) := by rw [eaf_17]; exact (aset_ne (ne_kd hmk.2.2.2.2.2.2.2.2.2.2.2.2.2.2.2.2.2.2.1 hmk.1 (by decide))).trans (fr_26.2.1 (g.2.2 140) ⟨(ne_kd hmk.2.2.2.2.2.2.2.2.2.2.2.2.2.2.2.2.2.2.1 hmk.1 (by decide)), trivial⟩)
        have w_28 : G_16.2.1 (g.2.2 141) = (G.2.1 (g.2.2 141)) := by rw [eaf_17]; exact (aset_ne (ne_kd hmk.2.2.2.2.2.2.2.2.2.2.2.2.2.2.2.2.2.2.2.1 hmk.1 (by decide))).trans (fr_26.2.1 (g.2.2 141) ⟨(ne_kd hmk.2.2.2.2.2.2.2.2.2.2.2.2.2.2.2.2.2.2.2.1 hmk.1 (by decide)), trivial⟩)
        have w_29 : G_16.2.1 (g.2.2 111) = (G.2.1 (g.2.2 111)) := by rw [eaf_17]; exact (aset_ne (ne_kd hmk.2.2.2.2.2.2.2.2.2.2.2.2.2.2.2.2.2.2.2.2.1 hmk.1 (by decide))).trans (fr_26.2.1 (g.2.2 111) ⟨(ne_kd hmk.2.2.2.2.2.2.2.2.2.2.2.2.2.2.2.2.2.2.2.2.1 hmk.1 (by decide)), trivial⟩)
        have u_30 : G_16.2.2 111 = some (g.2.2 111) := by rw [eaf_17]; exact ((fr_26.2.2 111 (by decide)).trans hI.r111)
        have u_31 : G_16.2.2 112 = some (g.2.2 112) := by rw [eaf_17]; exact ((fr_26.2.2 112 (by decide)).trans hI.r112)
        clear oq hz
        obtain ⟨x_32, ex_32⟩ : ∃ y : Int32, y = y1_26 + 1 := ⟨_, rfl⟩
        have rx_32 : rgI (1) (122) x_32 := by rw [ex_32]; exact rg_w (rg_add r_7 rl_1 (by decide) (by decide)) (by decide) (by decide)
        have qx_32 : x_32.toInt = (y1_26 : Int32).toInt + 1 := by rw [ex_32]; exact rg_addE r_7 rl_1 (by decide) (by decide)
        refine lv_iinc (v := x_32) (lv' := [(1, .int x_32), (0, .ref h0)]) hx hb dX12_undo_52 hl (k := 1) rfl (by rw [ex_32]; rfl) (by decide) rfl (fun ls hl => ?_)
        refine lv_goto (tgt := 26) hx hb dX12_undo_55 (by decide) ?_
        exact ih_26 H locs G_16 f_17 x_32 ls (by rw [u_19]; exact rg_w rg122_26 (by decide) (by decide)) fr_18 w_25 (rg_w rx_32 (by decide) (by decide)) (by rw [u_19]; exact (BK_s hi0_26 r_7 qx_32 (bk_i rg122_26 r_7 ex_11 ex_12 ex_14) ef_17)) (by rw [u_19]; exact hi1_26) (by have h1 := qx_32; have h2 := r_7.1; have h3 := r_7.2; have h4 := hm_26; omega) (lv_sub hl [1, 0] rfl) hH hS
  refine lv_aload_n hx hb dX12_undo_0 rfl (lv_at hl 0 rfl) ?_
  refine lv_iconst (v := 0) hx hb dX12_undo_1 (by decide) ?_
  obtain ⟨_, ⟨rfl, t_34, hk_35⟩, o_c_33⟩ := hH h0 _ k_h0
  refine hg_put (ty := .int) hx hb hG igX12 tyX12 tyX12_ok nmX12 hown hK hS o_c_33 (AF.of k_h0) rfl 5 (by decide) (hG _ mw_1289) rfl (by decide +kernel) rfl rfl (Nat.le_of_ble_eq_true rfl) dX12_undo_2 (fun H locs o_c_33 hz oq hS => ?_)
  obtain ⟨G_36, eG_36⟩ : ∃ z : Gh, z = gset G 105 0 := ⟨_, rfl⟩
  have hH : HT g Ty G_36 H := by rw [eG_36]; exact HT.putN 105 0 hH k_h0 ⟨rfl, t_34, hk_35⟩ o_c_33 oq (Or.inr (Or.inr (Or.inr (Or.inr (Or.inr ⟨by decide, t_34⟩)))))
  have fr_37 : FR [105, 122] [(g.2.2 100)] [] G G_36 := FR.n FR.rf eG_36 (by decide)
  have u_38 : G_36.1 102 = (G.1 102) := by rw [eG_36]; exact (gs_ne (by decide))
  have u_39 : G_36.1 104 = (G.1 104) := by rw [eG_36]; exact (gs_ne (by decide))
  have u_40 : G_36.1 113 = (G.1 113) := by rw [eG_36]; exact (gs_ne (by decide))
  have u_41 : G_36.1 122 = (G.1 122) := by rw [eG_36]; exact (gs_ne (by decide))
  have u_42 : G_36.1 133 = (G.1 133) := by rw [eG_36]; exact (gs_ne (by decide))
  have u_43 : G_36.1 137 = (G.1 137) := by rw [eG_36]; exact (gs_ne (by decide))
  have u_44 : G_36.1 105 = 0 := by rw [eG_36]; exact gs_eq
  have w_45 : G_36.2.1 (g.2.2 100) = (G.2.1 (g.2.2 100)) := by rw [eG_36]; exact rfl
  have w_46 : G_36.2.1 (g.2.2 121) = (G.2.1 (g.2.2 121)) := by rw [eG_36]; exact rfl
  have w_47 : G_36.2.1 (g.2.2 140) = (G.2.1 (g.2.2 140)) := by rw [eG_36]; exact rfl
  have w_48 : G_36.2.1 (g.2.2 141) = (G.2.1 (g.2.2 141)) := by rw [eG_36]; exact rfl
  have w_49 : G_36.2.1 (g.2.2 111) = (G.2.1 (g.2.2 111)) := by rw [eG_36]; exact rfl
  have u_50 : G_36.2.2 111 = some (g.2.2 111) := by rw [eG_36]; exact hI.r111
  have u_51 : G_36.2.2 112 = some (g.2.2 112) := by rw [eG_36]; exact hI.r112
  clear oq hz
  refine lv_aload_n hx hb dX12_undo_5 rfl (lv_at hl 0 rfl) ?_
  obtain ⟨_, ⟨rfl, t_53, hk_54⟩, o_c_52⟩ := hH h0 _ k_h0
  refine hg_get hx hb hG igX12 hown hK o_c_52 rfl 22 (by decide) (hG _ mw_1306) rfl dX12_undo_6 ?_
  rw [u_41]
  refine lv_if_ne (tgt := 14) hx hb dX12_undo_9 (by decide) (fun c_55 => ?_) (fun c_55 => ?_)
  · have r_56 : rgI (1) (12) (G.1 122) := rg_w (rg_neL hI.a122 rl_0 c_55) (by decide) (by decide)
    refine lv_aload_n hx hb dX12_undo_14 rfl (lv_at hl 0 rfl) ?_
    refine lv_dup hx hb dX12_undo_15 rfl ?_
    refine hg_get hx hb hG igX12 hown hK o_c_52 rfl 22 (by decide) (hG _ mw_1306) rfl dX12_undo_16 ?_
    rw [u_41]
    refine lv_iconst (v := 1) hx hb dX12_undo_19 (by decide) ?_
    refine lv_isub hx hb dX12_undo_20 ?_
    refine lv_topi (fun x_57 ex_57 => ?_)
    have rx_57 : rgI (0) (11) x_57 := by rw [ex_57]; exact rg_w (rg_sub r_56 rl_1 (by decide) (by decide)) (by decide) (by decide)
    refine hg_put (ty := .int) hx hb hG igX12 tyX12 tyX12_ok nmX12 hown hK hS o_c_52 (AF.of k_h0) rfl 22 (by decide) (hG _ mw_1306) rfl (by decide +kernel) rfl rfl (Nat.le_of_ble_eq_true rfl) dX12_undo_21 (fun H locs o_c_52 hz oq hS => ?_)
    obtain ⟨G_58, eG_58⟩ : ∃ z : Gh, z = gset G_36 122 x_57 := ⟨_, rfl⟩
    have hH : HT g Ty G_58 H := by rw [eG_58]; exact HT.putN 122 x_57 hH k_h0 ⟨rfl, t_53, hk_54⟩ o_c_52 oq (Or.inr (Or.inr (Or.inr (Or.inr (Or.inr ⟨by decide, t_53⟩)))))
    have fr_59 : FR [105, 122] [(g.2.2 100)] [] G G_58 := FR.n fr_37 eG_58 (by decide)
    have u_60 : G_58.1 102 = (G.1 102) := by rw [eG_58]; exact (gs_ne (by decide)).trans u_38
    have u_61 : G_58.1 104 = (G.1 104) := by rw [eG_58]; exact (gs_ne (by decide)).trans u_39
    have u_62 : G_58.1 113 = (G.1 113) := by rw [eG_58]; exact (gs_ne (by decide)).trans u_40
    have u_63 : G_58.1 133 = (G.1 133) := by rw [eG_58]; exact (gs_ne (by decide)).trans u_42
    have u_64 : G_58.1 137 = (G.1 137) := by rw [eG_58]; exact (gs_ne (by decide)).trans u_43
    have u_65 : G_58.1 105 = 0 := by rw [eG_58]; exact (gs_ne (by decide)).trans u_44
    have u_66 : G_58.1 122 = x_57 := by rw [eG_58]; exact gs_eq
    have w_67 : G_58.2.1 (g.2.2 100) = (G.2.1 (g.2.2 100)) := by rw [eG_58]; exact w_45
    have w_68 : G_58.2.1 (g.2.2 121) = (G.2.1 (g.2.2 121)) := by rw [eG_58]; exact w_46
    have w_69 : G_58.2.1 (g.2.2 140) = (G.2.1 (g.2.2 140)) := by rw [eG_58]; exact w_47
    have w_70 : G_58.2.1 (g.2.2 141) = (G.2.1 (g.2.2 141)) := by rw [eG_58]; exact w_48
    have w_71 : G_58.2.1 (g.2.2 111) = (G.2.1 (g.2.2 111)) := by rw [eG_58]; exact w_49
    have u_72 : G_58.2.2 111 = some (g.2.2 111) := by rw [eG_58]; exact u_50
    have u_73 : G_58.2.2 112 = some (g.2.2 112) := by rw [eG_58]; exact u_51
    clear oq hz
    refine lv_iconst (v := 0) hx hb dX12_undo_24 (by decide) ?_
    refine lv_istore_n (lv' := [(1, .int 0), (0, .ref h0)]) hx hb dX12_undo_25 rfl hl (by decide) rfl (fun ls hl => ?_)
    exact L_26 _ H locs G_58 (G.2.1 (g.2.2 100)) 0 ls (by rw [u_66]; exact rg_w rx_57 (by decide) (by decide)) fr_59 w_67 (rg_w rl_0 (by decide) (by decide)) (by rw [u_66]; exact BK_0) (by rw [u_66]; exact (ud_1 hI.a122 c_55 ex_57)) (Nat.lt_succ_self _) (lv_sub hl [1, 0] rfl) hH hS
  · have r_74 : rgI (0) (0) (G.1 122) := rg_w (rg_eq rl_0 c_55) (by decide) (by decide)
    refine lv_iconst (v := (-1)) hx hb dX12_undo_12 (by decide) ?_
    exact W.iret hx hb hr (fun t ht hWm => ⟨⟨(-1), (Ty, G_36), rfl, ⟨rfl, ⟨fr_37, ⟨(by rw [u_38]; exact (rg_w hI.a102 (by decide) (by decide))), (by rw [u_39]; exact (rg_w hI.a104 (by decide) (by decide))), (by rw [u_40]; exact (rg_w hI.a113 (by decide) (by decide))), (by rw [u_41]; exact (rg_w r_74 (by decide) (by decide))), (by rw [u_42]; exact (rg_w hI.a133 (by decide) (by decide))), (by rw [u_43]; exact (rg_w hI.a137 (by decide) (by decide))), u_50, u_51, (by rw [w_45]; exact (hI.ti.hi (show Bd ≤ Bd + 1000 by omega))), (hI.un2 (show Bd ≤ Bd + 1000 by omega) w_46 u_41), (hI.ke2 (show Bd ≤ Bd + 1000 by omega) w_47 w_48)⟩⟩⟩, by show HT g Ty G_36 t.heap; rw [ht]; exact hH⟩, hS.F ht⟩) hS.2.2 dX12_undo_13

set_option maxHeartbeats 4000000 in
set_option maxRecDepth 100000 in
theorem c_X12_keep (l : Launch) (g : Gx) (Ty : TyM) (G : Gh) (sz : Nat) (h0 : Nat) (a0 : Int32) (k_h0 : Ty h0 = some (22, 0)) (Bd : Int) (hI : OI g Bd G) (hBd : Bd ≤ 1900000) (hLD : LD g) : Met l yX12_keep (wsG yX12_keep cX12_keep 2 (some .boolean)) ({ frames := 1, cells := 0, slots := 0, locals := 23 }) (PcT g Ty G sz [.ref h0, .int a0]) (QwI g Ty sz (fun r u => (rgI (0) (1) r) ∧ u.1 = Ty ∧ FR [105] [(g.2.2 141), (g.2.2 140)] [] G u.2 ∧ OI g (Bd + 1000) u.2 ∧ KeepN (G.2.1 (g.2.2 141)) (u.2.2.1 (g.2.2 141)) r a0)) 0 0 (AF Ty sz) := by
  refine Met.ofW (cc := cX12_keep) (maxL := 2) (ret := (some .boolean)) (by decide) rfl ?_
  intro p e s m args below meth c s₁ B hml hv
  obtain ⟨rfl, hsz, hK, hH⟩ := hv
  subst hsz
  have hx := B.exec
  have hb := B.bytes
  have hr := B.returns
  have hts := atoms_spec (ws := (wsG yX12_keep cX12_keep 2 (some .boolean))) B.pre
  have hG : ∀ w ∈ GW, w.before ([.ref h0, .int a0] : List Value).toArray s = true := fun w h => hts w (List.mem_cons_of_mem _ h)
  have hown : s.vm.findClass RX12 = some m.cls := findClass_of_methodNamed B.named
  have hlocks := B.notSynchronized
  have hl := lv_entry [.ref h0, .int a0] (n := 2) (Nat.le_of_ble_eq_true rfl)
  rw [lg_entry_eq]
  generalize (lg_sl [.ref h0, .int a0] ++ List.replicate (2 - (lg_sl [.ref h0, .int a0]).length) Slot.unset).toArray = ls at hl ⊢
  have hl : lv_has ls 2 [(0, .ref h0), (1, .int a0)] := hl
  have hmk : mdK g Ty := mdk_of hH k_h0
  have hS : va_S (AF Ty s.heap.size) s.heap s.heap [] := va_S.rf
  obtain ⟨⟨σ0, hTS0⟩, h10, hBB0⟩ := id hI.ti
  obtain ⟨ρ, hT⟩ := hTS0.1
  refine lv_aload_n hx hb dX12_keep_0 rfl (lv_at hl 0 rfl) ?_
  refine lv_iconst (v := 0) hx hb dX12_keep_1 (by decide) ?_
  obtain ⟨_, ⟨rfl, t_2, hk_3⟩, o_c_1⟩ := hH h0 _ k_h0
  refine hg_put (ty := .int) hx hb hG igX12 tyX12 tyX12_ok nmX12 hown hK hS o_c_1 (AF.of k_h0) rfl 5 (by decide) (hG _ mw_1289) rfl (by decide +kernel) rfl rfl (Nat.le_of_ble_eq_true rfl) dX12_keep_2 (fun H locs o_c_1 hz oq hS => ?_)
  obtain ⟨G_4, eG_4⟩ : ∃ z : Gh, z = gset G 105 0 := ⟨_, rfl⟩
  have hH : HT g Ty G_4 H := by rw [eG_4]; exact HT.putN 105 0 hH k_h0 ⟨rfl, t_2, hk_3⟩ o_c_1 oq (Or.inr (Or.inr (Or.inr (Or.inr (Or.inr ⟨by decide, t_2⟩)))))
  have fr_5 : FR [105] [(g.2.2 141), (g.2.2 140)] [] G G_4 := FR.n FR.rf eG_4 (by decide)
  have u_6 : G_4.1 102 = (G.1 102) := by rw [eG_4]; exact (gs_ne (by decide))
  have u_7 : G_4.1 104 = (G.1 104) := by rw [eG_4]; exact (gs_ne (by decide))
  have u_8 : G_4.1 113 = (G.1 113) := by rw [eG_4]; exact (gs_ne (by decide))
  have u_9 : G_4.1 122 = (G.1 122) := by rw [eG_4]; exact (gs_ne (by decide))
  have u_10 : G_4.1 133 = (G.1 133) := by rw [eG_4]; exact (gs_ne (by decide))
  have u_11 : G_4.1 137 = (G.1 137) := by rw [eG_4]; exact (gs_ne (by decide))
  have u_12 : G_4.1 105 = 0 := by rw [eG_4]; exact gs_eq
  have w_13 : G_4.2.1 (g.2.2 100) = (G.2.1 (g.2.2 100)) := by rw [eG_4]; exact rfl
  have w_14 : G_4.2.1 (g.2.2 121) = (G.2.1 (g.2.2 121)) := by rw [eG_4]; exact rfl
  have w_15 : G_4.2.1 (g.2.2 140) = (G.2.1 (g.2.2 140)) := by rw [eG_4]; exact rfl
  have w_16 : G_4.2.1 (g.2.2 141) = (G.2.1 (g.2.2 141)) := by rw [eG_4]; exact rfl
  have w_17 : G_4.2.1 (g.2.2 111) = (G.2.1 (g.2.2 111)) := by rw [eG_4]; exact rfl
  have u_18 : G_4.2.2 111 = some (g.2.2 111) := by rw [eG_4]; exact hI.r111
  have u_19 : G_4.2.2 112 = some (g.2.2 112) := by rw [eG_4]; exact hI.r112
  clear oq hz
  refine lv_iload_n hx hb dX12_keep_5 rfl (lv_at hl 1 rfl) ?_
  refine lv_iconst (v := 0) hx hb dX12_keep_6 (by decide) ?_
  refine lv_iconst (v := 1) hx hb dX12_keep_7 (by decide) ?_
  refine vp_callSi (W.runS (As := [.int a0, .int 0, .int 1]) (rest := []) ⟨hx, hb, hml, hown, hts⟩ (c_X12_in l g Ty G_4 a0 0 1 ) (cwSx 3 hts hG (gwC mw_1426) mw_88 mw_1424 mw_1425 rfl rfl rfl hd_X12_in ⟨Nat.le_of_ble_eq_true rfl, Nat.le_of_ble_eq_true rfl⟩) ⟨PcH_blind, PcH_pre hK hH⟩ rfl rfl hl.1 rfl (lv_room (Nat.le_of_ble_eq_true rfl)) dX12_keep_8 ⟨Nat.zero_le _, Nat.zero_le _⟩) (fun x_20 hx_20 => ?_)
  have rx_20 : rgI (0) (1) x_20 := hx_20.1
  refine lv_if_ne (tgt := 16) hx hb dX12_keep_11 (by decide) (fun c_21 => ?_) (fun c_21 => ?_)
  · have r_22 : rgI (1) (1) x_20 := rg_w (rg_neL rx_20 rl_0 c_21) (by decide) (by decide)
    have r_23 : rgI (0) (1) a0 := rg_w (in_rng hx_20.2.1 c_21 rl_0 rl_1) (by decide) (by decide)
    refine lv_aload_n hx hb dX12_keep_16 rfl (lv_at hl 0 rfl) ?_
    obtain ⟨_, ⟨rfl, t_25, hk_26⟩, o_c_24⟩ := hH h0 _ k_h0
    refine hg_get hx hb hG igX12 hown hK o_c_24 rfl 41 (by decide) (hG _ mw_1325) rfl dX12_keep_17 ?_
    refine lv_iload_n hx hb dX12_keep_20 rfl (lv_at hl 1 rfl) ?_
    refine lv_iconst (v := 1) hx hb dX12_keep_21 (by decide) ?_
    obtain ⟨_, rfl, o_c_27⟩ := hH (g.2.2 141) _ hk_26.2.2.2.2.2.2.2.2.2.2.2.2.2.2.2.2.2.2.2.1
    have o_c_27 : va_at g.1 vwCl ((g.2.2 141), .inl (g.2.1 3, 2, .inl (G_4.2.1 (g.2.2 141)))) H := o_c_27
    refine hg_zast hx hb hK hS o_c_27 (AF.of hk_26.2.2.2.2.2.2.2.2.2.2.2.2.2.2.2.2.2.2.2.1) (rg_in (n := 2) r_23 (by decide) (by decide)) dX12_keep_22 (fun H locs o_c_27 hz oq hS => ?_)
    obtain ⟨G_28, eG_28⟩ : ∃ z : Gh, z = aset G_4 (g.2.2 141) (upd (G_4.2.1 (g.2.2 141)) (a0 : Int32).toNatClampNeg (vp_nar .boolean 1)) := ⟨_, rfl⟩
    have hH : HT g Ty G_28 H := by rw [eG_28]; exact HT.putA (upd (G_4.2.1 (g.2.2 141)) (a0 : Int32).toNatClampNeg (vp_nar .boolean 1)) hH hk_26.2.2.2.2.2.2.2.2.2.2.2.2.2.2.2.2.2.2.2.1 cf33 o_c_27 oq
    obtain ⟨f_29, ef_29⟩ : ∃ z : Nat → Int32, z = (upd (G.2.1 (g.2.2 141)) (a0 : Int32).toNatClampNeg (vp_nar .boolean 1)) := ⟨_, rfl⟩
    have eaf_29 : G_28 = aset G_4 (g.2.2 141) f_29 := by rw [eG_28, ef_29, w_16]
    have fr_30 : FR [105] [(g.2.2 141), (g.2.2 140)] [] G G_28 := FR.a fr_5 eaf_29 (fun b h => h.1)
    have u_31 : G_28.1 102 = (G.1 102) := by rw [eaf_29]; exact u_6
    have u_32 : G_28.1 104 = (G.1 104) := by rw [eaf_29]; exact u_7
    have u_33 : G_28.1 113 = (G.1 113) := by rw [eaf_29]; exact u_8
    have u_34 : G_28.1 122 = (G.1 122) := by rw [eaf_29]; exact u_9
    have u_35 : G_28.1 133 = (G.1 133) := by rw [eaf_29]; exact u_10
    have u_36 : G_28.1 137 = (G.1 137) := by rw [eaf_29]; exact u_11
    have u_37 : G_28.1 105 = 0 := by rw [eaf_29]; exact u_12
    have w_38 : G_28.2.1 (g.2.2 100) = (G.2.1 (g.2.2 100)) := by rw [eaf_29]; exact (aset_ne (ne_kd hmk.1 hmk.2.2.2.2.2.2.2.2.2.2.2.2.2.2.2.2.2.2.2.1 (by decide))).trans w_13
    have w_39 : G_28.2.1 (g.2.2 121) = (G.2.1 (g.2.2 121)) := by rw [eaf_29]; exact (aset_ne (ne_kd hmk.2.2.2.2.2.1 hmk.2.2.2.2.2.2.2.2.2.2.2.2.2.2.2.2.2.2.2.1 (by decide))).trans w_14
    have w_40 : G_28.2.1 (g.2.2 140) = (G.2.1 (g.2.2 140)) := by rw [eaf_29]; exact (aset_ne (ne_kd hmk.2.2.2.2.2.2.2.2.2.2.2.2.2.2.2.2.2.2.1 hmk.2.2.2.2.2.2.2.2.2.2.2.2.2.2.2.2.2.2.2.1 (by decide))).trans w_15
    have w_41 : G_28.2.1 (g.2.2 141) = f_29 := by rw [eaf_29]; exact aset_eq
    have w_42 : G_28.2.1 (g.2.2 111) = (G.2.1 (g.2.2 111)) := by rw [eaf_29]; exact (aset_ne (ne_kd hmk.2.2.2.2.2.2.2.2.2.2.2.2.2.2.2.2.2.2.2.2.1 hmk.2.2.2.2.2.2.2.2.2.2.2.2.2.2.2.2.2.2.2.1 (by decide))).trans w_17
    have u_43 : G_28.2.2 111 = some (g.2.2 111) := by rw [eaf_29]; exact u_18
    have u_44 : G_28.2.2 112 = some (g.2.2 112) := by rw [eaf_29]; exact u_19
    clear oq hz
    refine lv_aload_n hx hb dX12_keep_23 rfl (lv_at hl 0 rfl) ?_
    obtain ⟨_, ⟨rfl, t_46, hk_47⟩, o_c_45⟩ := hH h0 _ k_h0
    refine hg_get hx hb hG igX12 hown hK o_c_45 rfl 0 (by decide) (hG _ mw_1284) rfl dX12_keep_24 ?_
    refine lv_aload_n hx hb dX12_keep_27 rfl (lv_at hl 0 rfl) ?_
    refine hg_get hx hb hG igX12 hown hK o_c_45 rfl 40 (by decide) (hG _ mw_1324) rfl dX12_keep_28 ?_
    refine lv_bipush (v := 122) hx hb dX12_keep_31 (by decide) ?_
    refine lv_iload_n hx hb dX12_keep_33 rfl (lv_at hl 1 rfl) ?_
    refine lv_imul hx hb dX12_keep_34 ?_
    refine lv_topi (fun x_48 ex_48 => ?_)
    have rx_48 : rgI (0) (122) x_48 := by rw [ex_48]; exact rg_w (rg_mul rl_122 r_23 (by decide) (by decide) (by decide)) (by decide) (by decide)
    refine va_callv (va_runS (As := [.ref (g.2.2 100), .ref (g.2.2 140), .int x_48]) (rest := []) ⟨hx, hb, hml, hown, hts⟩ (c_X12_lay_k l g Ty G_28 H.size (g.2.2 100) (g.2.2 140) x_48 (hk_47.1) (hk_47.2.2.2.2.2.2.2.2.2.2.2.2.2.2.2.2.2.2.1) (rg_w rx_48 (by decide) (by decide)) (ne_kd hmk.1 hmk.2.2.2.2.2.2.2.2.2.2.2.2.2.2.2.2.2.2.1 (by decide))) (cwSx 3 hts hG (gwC mw_1583) mw_88 mw_1581 mw_1582 rfl rfl rfl hd_X12_lay ⟨Nat.le_of_ble_eq_true rfl, Nat.le_of_ble_eq_true rfl⟩) ⟨PcT_blind, PcT_pre hK hH⟩ rfl rfl hl.1 rfl (lv_room (Nat.le_of_ble_eq_true rfl)) dX12_keep_35 ⟨Nat.zero_le _, Nat.zero_le _⟩) hS (fun q _ h => AF.mono hS.1 h) (fun q h => AF.mono hS.1 h) (fun ux_49 t H locs ht hvm hx_49 hB hz hk hS => ?_)
    obtain ⟨eTx_49, eGx_49⟩ := hx_49
    obtain ⟨G_50, eG_50⟩ : ∃ z, z = ux_49.2 := ⟨_, rfl⟩
    rw [← eG_50] at eGx_49
    obtain ⟨hfr_51, hex_52⟩ := eGx_49
    have fr_53 : FR [105] [(g.2.2 141), (g.2.2 140)] [] G G_50 := FR.tr fr_30 hfr_51 (by decide) (fun b h => ⟨h.2.1, trivial⟩) (by decide)
    have u_54 : G_50.1 102 = (G.1 102) := (hfr_51.1 102 (by decide)).trans u_31
    have u_55 : G_50.1 104 = (G.1 104) := (hfr_51.1 104 (by decide)).trans u_32
    have u_56 : G_50.1 113 = (G.1 113) := (hfr_51.1 113 (by decide)).trans u_33
    have u_57 : G_50.1 122 = (G.1 122) := (hfr_51.1 122 (by decide)).trans u_34
    have u_58 : G_50.1 133 = (G.1 133) := (hfr_51.1 133 (by decide)).trans u_35
    have u_59 : G_50.1 137 = (G.1 137) := (hfr_51.1 137 (by decide)).trans u_36
    have u_60 : G_50.1 105 = 0 := (hfr_51.1 105 (by decide)).trans u_37
    have w_61 : G_50.2.1 (g.2.2 100) = (G.2.1 (g.2.2 100)) := (hfr_51.2.1 (g.2.2 100) ⟨(ne_kd hmk.1 hmk.2.2.2.2.2.2.2.2.2.2.2.2.2.2.2.2.2.2.1 (by decide)), trivial⟩).trans w_38
    have w_62 : G_50.2.1 (g.2.2 121) = (G.2.1 (g.2.2 121)) := (hfr_51.2.1 (g.2.2 121) ⟨(ne_kd hmk.2.2.2.2.2.1 hmk.2.2.2.2.2.2.2.2.2.2.2.2.2.2.2.2.2.2.1 (by decide)), trivial⟩).trans w_39
    have w_63 : G_50.2.1 (g.2.2 141) = f_29 := (hfr_51.2.1 (g.2.2 141) ⟨(ne_kd hmk.2.2.2.2.2.2.2.2.2.2.2.2.2.2.2.2.2.2.2.1 hmk.2.2.2.2.2.2.2.2.2.2.2.2.2.2.2.2.2.2.1 (by decide)), trivial⟩).trans w_41
    have w_64 : G_50.2.1 (g.2.2 111) = (G.2.1 (g.2.2 111)) := (hfr_51.2.1 (g.2.2 111) ⟨(ne_kd hmk.2.2.2.2.2.2.2.2.2.2.2.2.2.2.2.2.2.2.2.2.1 hmk.2.2.2.2.2.2.2.2.2.2.2.2.2.2.2.2.2.2.1 (by decide)), trivial⟩).trans w_42
    have u_65 : G_50.2.2 111 = some (g.2.2 111) := (hfr_51.2.2 111 (by decide)).trans u_43
    have u_66 : G_50.2.2 112 = some (g.2.2 112) := (hfr_51.2.2 112 (by decide)).trans u_44
    obtain ⟨f_67, ef_67⟩ : ∃ z : Nat → Int32, G_50.2.1 (g.2.2 140) = z := ⟨_, rfl⟩
    have ly_68 := hex_52
    rw [ef_67, w_38, w_40] at ly_68
    have hH : HT g Ty G_50 H := by rw [← ht, ← eTx_49, eG_50]; exact hB
    refine lv_iconst (v := 1) hx hb dX12_keep_38 (by decide) ?_
    exact W.zret hx hb hr rfl (fun t ht hWm => ⟨⟨1, (Ty, G_50), rfl, ⟨rg_w rl_1 (by decide) (by decide), ⟨rfl, ⟨fr_53, ⟨⟨(by rw [u_54]; exact (rg_w hI.a102 (by decide) (by decide))), (by rw [u_55]; exact (rg_w hI.a104 (by decide) (by decide))), (by rw [u_56]; exact (rg_w hI.a113 (by decide) (by decide))), (by rw [u_57]; exact (rg_w hI.a122 (by decide) (by decide))), (by rw [u_58]; exact (rg_w hI.a133 (by decide) (by decide))), (by rw [u_59]; exact (rg_w hI.a137 (by decide) (by decide))), u_65, u_66, (by rw [w_61]; exact (hI.ti.hi (show Bd ≤ Bd + 1000 by omega))), (hI.un2 (show Bd ≤ Bd + 1000 by omega) w_62 u_57), (by rw [ef_67, w_63]; exact KE_put (hI.ti.hi (show Bd ≤ Bd + 1000 by omega)) r_23 (hI.ke2 (show Bd ≤ Bd + 1000 by omega) rfl rfl) ef_29 ex_48 ly_68)⟩, Or.inr ⟨rfl, r_23, by rw [w_63]; exact ef_29⟩⟩⟩⟩⟩, by show HT g Ty G_50 t.heap; rw [ht]; exact hH⟩, hS.F ht⟩) hS.2.2 dX12_keep_39
  · have r_69 : rgI (0) (0) x_20 := rg_w (rg_eq rl_0 c_21) (by decide) (by decide)
    refine lv_iconst (v := 0) hx hb dX12_keep_14 (by decide) ?_
    exact W.zret hx hb hr rfl (fun t ht hWm => ⟨⟨0, (Ty, G_4), rfl, ⟨rg_w rl_0 (by decide) (by decide), ⟨rfl, ⟨fr_5, ⟨⟨(by rw [u_6]; exact (rg_w hI.a102 (by decide) (by decide))), (by rw [u_7]; exact (rg_w hI.a104 (by decide) (by decide))), (by rw [u_8]; exact (rg_w hI.a113 (by decide) (by decide))), (by rw [u_9]; exact (rg_w hI.a122 (by decide) (by decide))), (by rw [u_10]; exact (rg_w hI.a133 (by decide) (by decide))), (by rw [u_11]; exact (rg_w hI.a137 (by decide) (by decide))), u_18, u_19, (by rw [w_13]; exact (hI.ti.hi (show Bd ≤ Bd + 1000 by omega))), (hI.un2 (show Bd ≤ Bd + 1000 by omega) w_14 u_9), (hI.ke2 (show Bd ≤ Bd + 1000 by omega) w_15 w_16)⟩, Or.inl ⟨rfl, in_no hx_20.2.2 c_21, w_16⟩⟩⟩⟩⟩, by show HT g Ty G_4 t.heap; rw [ht]; exact hH⟩, hS.F ht⟩) hS.2.2 dX12_keep_15

set_option maxHeartbeats 4000000 in
set_option maxRecDepth 100000 in
theorem c_X12_again (l : Launch) (g : Gx) (Ty : TyM) (G : Gh) (sz : Nat) (h0 : Nat) (a0 : Int32) (k_h0 : Ty h0 = some (22, 0)) (Bd : Int) (hI : OI g Bd G) (hBd : Bd ≤ 1900000) (hLD : LD g) : Met l yX12_again (wsG yX12_again cX12_again 3 (some .boolean)) ({ frames := 1, cells := 0, slots := 0, locals := 22 }) (PcT g Ty G sz [.ref h0, .int a0]) (QwI g Ty sz (fun r u => (rgI (0) (1) r) ∧ u.1 = Ty ∧ FR [105, 122] [(g.2.2 100)] [] G u.2 ∧ OI g (Bd + 1000) u.2 ∧ AgainN (G.2.1 (g.2.2 141)) r a0 ∧ u.2.2.1 (g.2.2 141) = G.2.1 (g.2.2 141))) 0 0 (AF Ty sz) := by
  refine Met.ofW (cc := cX12_again) (maxL := 3) (ret := (some .boolean)) (by decide) rfl ?_
  intro p e s m args below meth c s₁ B hml hv
  obtain ⟨rfl, hsz, hK, hH⟩ := hv
  subst hsz
  have hx := B.exec
  have hb := B.bytes
  have hr := B.returns
  have hts := atoms_spec (ws := (wsG yX12_again cX12_again 3 (some .boolean))) B.pre
  have hG : ∀ w ∈ GW, w.before ([.ref h0, .int a0] : List Value).toArray s = true := fun w h => hts w (List.mem_cons_of_mem _ h)
  have hown : s.vm.findClass RX12 = some m.cls := findClass_of_methodNamed B.named
  have hlocks := B.notSynchronized
  have hl := lv_entry [.ref h0, .int a0] (n := 3) (Nat.le_of_ble_eq_true rfl)
  rw [lg_entry_eq]
  generalize (lg_sl [.ref h0, .int a0] ++ List.replicate (3 - (lg_sl [.ref h0, .int a0]).length) Slot.unset).toArray = ls at hl ⊢
  have hl : lv_has ls 3 [(0, .ref h0), (1, .int a0)] := hl
  have hmk : mdK g Ty := mdk_of hH k_h0
  have hS : va_S (AF Ty s.heap.size) s.heap s.heap [] := va_S.rf
  obtain ⟨⟨σ0, hTS0⟩, h10, hBB0⟩ := id hI.ti
  obtain ⟨ρ, hT⟩ := hTS0.1
  have L_27 : ∀ (n : Nat) (H : Heap) (locs : List Loc) (G_27 : Gh) (fl0_27 : Nat → Int32) (y2_27 : Int32) (ls : Array Slot), rgI (0) (12) (G_27.1 122) → FR [105, 122] [(g.2.2 100)] [] G G_27 → G_27.2.1 (g.2.2 100) = fl0_27 → rgI (0) (1) a0 → rgI (0) (122) y2_27 → BK (sl (G.2.1 (g.2.2 140)) (a0 : Int32).toNatClampNeg) (G.2.1 (g.2.2 100)) fl0_27 (y2_27 : Int32).toNatClampNeg → ((a0 : Int32).toNatClampNeg < 2 ∧ ¬ (G.2.1 (g.2.2 141)) (a0 : Int32).toNatClampNeg = 0) → AgainN (G.2.1 (g.2.2 141)) 1 a0 → (122 - (y2_27).toInt).toNat < n → lv_has ls 3 [(0, .ref h0), (1, .int a0), (2, .int y2_27)] → HT g Ty G_27 H → va_S (AF Ty s.heap.size) s.heap H locs → Wm p l e (wsG yX12_again cX12_again 3 (some .boolean)) ({ frames := 1, cells := 0, slots := 0, locals := 22 }) s m [.ref h0, .int a0] below meth c H locs (0) (0) (QwI g Ty s.heap.size (fun r u => (rgI (0) (1) r) ∧ u.1 = Ty ∧ FR [105, 122] [(g.2.2 100)] [] G u.2 ∧ OI g (Bd + 1000) u.2 ∧ AgainN (G.2.1 (g.2.2 141)) r a0 ∧ u.2.2.1 (g.2.2 141) = G.2.1 (g.2.2 141))) 0 0 (AF Ty s.heap.size) (F0 m 27 ls []) := by
    intro n
    induction n with
    | zero => intro H locs G_27 fl0_27 y2_27 ls rg122_27 fr_27 efl0_27 ry1_27 ry2_27 hi0_27 hi1_27 hi2_27 hm; exact absurd hm (Nat.not_lt_zero _)
    | succ n ih_27 =>
      intro H locs G_27 fl0_27 y2_27 ls rg122_27 fr_27 efl0_27 ry1_27 ry2_27 hi0_27 hi1_27 hi2_27 hm_27 hl hH hS
      refine lv_iload_n hx hb dX12_again_27 rfl (lv_at hl 2 rfl) ?_
      refine lv_bipush (v := 122) hx hb dX12_again_28 (by decide) ?_
      refine lv_icmp_ge (tgt := 56) hx hb dX12_again_30 (by decide) (fun c_1 => ?_) (fun c_1 => ?_)
      · have r_2 : rgI (122) (122) y2_27 := rg_w (rg_leR rl_122 ry2_27 c_1) (by decide) (by decide)
        have tu_3 : TI Bd fl0_27 := BK_e hi0_27 r_2 (hI.ke _ hi1_27.1 hi1_27.2)
        refine lv_aload_n hx hb dX12_again_56 rfl (lv_at hl 0 rfl) ?_
        refine lv_iconst (v := 0) hx hb dX12_again_57 (by decide) ?_
        obtain ⟨_, ⟨rfl, t_5, hk_6⟩, o_c_4⟩ := hH h0 _ k_h0
        refine hg_put (ty := .int) hx hb hG igX12 tyX12 tyX12_ok nmX12 hown hK hS o_c_4 (AF.of k_h0) rfl 22 (by decide) (hG _ mw_1306) rfl (by decide +kernel) rfl rfl (Nat.le_of_ble_eq_true rfl) dX12_again_58 (fun H locs o_c_4 hz oq hS => ?_)
        obtain ⟨G_7, eG_7⟩ : ∃ z : Gh, z = gset G_27 122 0 := ⟨_, rfl⟩
        have hH : HT g Ty G_7 H := by rw [eG_7]; exact HT.putN 122 0 hH k_h0 ⟨rfl, t_5, hk_6⟩ o_c_4 oq (Or.inr (Or.inr (Or.inr (Or.inr (Or.inr ⟨by decide, t_5⟩)))))
        have fr_8 : FR [105, 122] [(g.2.2 100)] [] G G_7 := FR.n fr_27 eG_7 (by decide)
        have u_9 : G_7.1 102 = (G.1 102) := by rw [eG_7]; exact (gs_ne (by decide)).trans (fr_27.1 102 (by decide))
        have u_10 : G_7.1 104 = (G.1 104) := by rw [eG_7]; exact (gs_ne (by decide)).trans (fr_27.1 104 (by decide))
        have u_11 : G_7.1 113 = (G.1 113) := by rw [eG_7]; exact (gs_ne (by decide)).trans (fr_27.1 113 (by decide))
        have u_12 : G_7.1 133 = (G.1 133) := by rw [eG_7]; exact (gs_ne (by decide)).trans (fr_27.1 133 (by decide))
        have u_13 : G_7.1 137 = (G.1 137) := by rw [eG_7]; exact (gs_ne (by decide)).trans (fr_27.1 137 (by decide))
        have u_14 : G_7.1 122 = 0 := by rw [eG_7]; exact gs_eq
        have w_15 : G_7.2.1 (g.2.2 100) = fl0_27 := by rw [eG_7]; exact efl0_27
        have w_16 : G_7.2.1 (g.2.2 121) = (G.2.1 (g.2.2 121)) := by rw [eG_7]; exact (fr_27.2.1 (g.2.2 121) ⟨(ne_kd hmk.2.2.2.2.2.1 hmk.1 (by decide)), trivial⟩)
        have w_17 : G_7.2.1 (g.2.2 140) = (G.2.1 (g.2.2 140)) := by rw [eG_7]; exact (fr_27.2.1 (g.2.2 140) ⟨(ne_kd hmk.2.2.2.2.2.2.2.2.2.2.2.2.2.2.2.2.2.2.1 hmk.1 (by decide)), trivial⟩)
        have w_18 : G_7.2.1 (g.2.2 141) = (G.2.1 (g.2.2 141)) := by rw [eG_7]; exact (fr_27.2.1 (g.2.2 141) ⟨(ne_kd hmk.2.2.2.2.2.2.2.2.2.2.2.2.2.2.2.2.2.2.2.1 hmk.1 (by decide)), trivial⟩)
        have w_19 : G_7.2.1 (g.2.2 111) = (G.2.1 (g.2.2 111)) := by rw [eG_7]; exact (fr_27.2.1 (g.2.2 111) ⟨(ne_kd hmk.2.2.2.2.2.2.2.2.2.2.2.2.2.2.2.2.2.2.2.2.1 hmk.1 (by decide)), trivial⟩)
        have u_20 : G_7.2.2 111 = some (g.2.2 111) := by rw [eG_7]; exact ((fr_27.2.2 111 (by decide)).trans hI.r111)
        have u_21 : G_7.2.2 112 = some (g.2.2 112) := by rw [eG_7]; exact ((fr_27.2.2 112 (by decide)).trans hI.r112)
        clear oq hz
        refine lv_iconst (v := 1) hx hb dX12_again_61 (by decide) ?_
        exact W.zret hx hb hr rfl (fun t ht hWm => ⟨⟨1, (Ty, G_7), rfl, ⟨rg_w rl_1 (by decide) (by decide), ⟨rfl, ⟨fr_8, ⟨⟨(by rw [u_9]; exact (rg_w hI.a102 (by decide) (by decide))), (by rw [u_10]; exact (rg_w hI.a104 (by decide) (by decide))), (by rw [u_11]; exact (rg_w hI.a113 (by decide) (by decide))), (by rw [u_14]; exact (rg_w rl_0 (by decide) (by decide))), (by rw [u_12]; exact (rg_w hI.a133 (by decide) (by decide))), (by rw [u_13]; exact (rg_w hI.a137 (by decide) (by decide))), u_20, u_21, (by rw [w_15]; exact (TI.hi tu_3 (by omega))), (fun i hi => absurd hi (by show ¬ (i : Int) < (G_7.1 122).toInt; rw [u_14]; show ¬ (i : Int) < 0; omega)), (hI.ke2 (show Bd ≤ Bd + 1000 by omega) w_17 w_18)⟩, ⟨hi2_27, w_18⟩⟩⟩⟩⟩, by show HT g Ty G_7 t.heap; rw [ht]; exact hH⟩, hS.F ht⟩) hS.2.2 dX12_again_62
      · have r_22 : rgI (0) (121) y2_27 := rg_w (rg_ltL ry2_27 rl_122 (nle_lt c_1)) (by decide) (by decide)
        refine lv_aload_n hx hb dX12_again_33 rfl (lv_at hl 0 rfl) ?_
        obtain ⟨_, ⟨rfl, t_24, hk_25⟩, o_c_23⟩ := hH h0 _ k_h0
        refine hg_get hx hb hG igX12 hown hK o_c_23 rfl 0 (by decide) (hG _ mw_1284) rfl dX12_again_34 ?_
        refine lv_iload_n hx hb dX12_again_37 rfl (lv_at hl 2 rfl) ?_
        refine lv_aload_n hx hb dX12_again_38 rfl (lv_at hl 0 rfl) ?_
        refine hg_get hx hb hG igX12 hown hK o_c_23 rfl 40 (by decide) (hG _ mw_1324) rfl dX12_again_39 ?_
        refine lv_bipush (v := 122) hx hb dX12_again_42 (by decide) ?_
        refine lv_iload_n hx hb dX12_again_44 rfl (lv_at hl 1 rfl) ?_
        refine lv_imul hx hb dX12_again_45 ?_
        refine lv_topi (fun x_26 ex_26 => ?_)
        have rx_26 : rgI (0) (122) x_26 := by rw [ex_26]; exact rg_w (rg_mul rl_122 ry1_27 (by decide) (by decide) (by decide)) (by decide) (by decide)
        refine lv_iload_n hx hb dX12_again_46 rfl (lv_at hl 2 rfl) ?_
        refine lv_iadd hx hb dX12_again_47 ?_
        refine lv_topi (fun x_27 ex_27 => ?_)
        have rx_27 : rgI (0) (243) x_27 := by rw [ex_27]; exact rg_w (rg_add rx_26 r_22 (by decide) (by decide)) (by decide) (by decide)
        obtain ⟨_, rfl, o_c_28⟩ := hH (g.2.2 140) _ hk_25.2.2.2.2.2.2.2.2.2.2.2.2.2.2.2.2.2.2.1
        have o_c_28 : va_at g.1 vwCl ((g.2.2 140), .inl (g.2.1 1, 244, .inl (G_27.2.1 (g.2.2 140)))) H := o_c_28
        refine hg_iald hx hb hK o_c_28 (rg_in (n := 244) rx_27 (by decide) (by decide)) dX12_again_48 ?_
        rw [(fr_27.2.1 (g.2.2 140) ⟨(ne_kd hmk.2.2.2.2.2.2.2.2.2.2.2.2.2.2.2.2.2.2.1 hmk.1 (by decide)), trivial⟩)]
        refine lv_topi (fun x_29 ex_29 => ?_)
        obtain ⟨_, rfl, o_c_30⟩ := hH (g.2.2 100) _ hk_25.1
        have o_c_30 : va_at g.1 vwCl ((g.2.2 100), .inl (g.2.1 1, 122, .inl (G_27.2.1 (g.2.2 100)))) H := o_c_30
        refine hg_iast hx hb hK hS o_c_30 (AF.of hk_25.1) (rg_in (n := 122) r_22 (by decide) (by decide)) dX12_again_49 (fun H locs o_c_30 hz oq hS => ?_)
        obtain ⟨G_31, eG_31⟩ : ∃ z : Gh, z = aset G_27 (g.2.2 100) (upd (G_27.2.1 (g.2.2 100)) (y2_27 : Int32).toNatClampNeg x_29) := ⟨_, rfl⟩
        have hH : HT g Ty G_31 H := by rw [eG_31]; exact HT.putA (upd (G_27.2.1 (g.2.2 100)) (y2_27 : Int32).toNatClampNeg x_29) hH hk_25.1 cf30 o_c_30 oq
        obtain ⟨f_32, ef_32⟩ : ∃ z : Nat → Int32, z = (upd fl0_27 (y2_27 : Int32).toNatClampNeg x_29) := ⟨_, rfl⟩
        have eaf_32 : G_31 = aset G_27 (g.2.2 100) f_32 := by rw [eG_31, ef_32, efl0_27]
        have fr_33 : FR [105, 122] [(g.2.2 100)] [] G G_31 := FR.a fr_27 eaf_32 (fun b h => h.1)
        have u_34 : G_31.1 122 = (G_27.1 122) := by rw [eaf_32]; exact rfl
        have u_35 : G_31.1 102 = (G.1 102) := by rw [eaf_32]; exact (fr_27.1 102 (by decide))
        have u_36 : G_31.1 104 = (G.1 104) := by rw [eaf_32]; exact (fr_27.1 104 (by decide))
        have u_37 : G_31.1 113 = (G.1 113) := by rw [eaf_32]; exact (fr_27.1 113 (by decide))
        have u_38 : G_31.1 133 = (G.1 133) := by rw [eaf_32]; exact (fr_27.1 133 (by decide))
        have u_39 : G_31.1 137 = (G.1 137) := by rw [eaf_32]; exact (fr_27.1 137 (by decide))
        have w_40 : G_31.2.1 (g.2.2 100) = f_32 := by rw [eaf_32]; exact aset_eq
        have w_41 : G_31.2.1 (g.2.2 121) = (G.2.1 (g.2.2 121)) := by rw [eaf_32]; exact (aset_ne (ne_kd hmk.2.2.2.2.2.1 hmk.1 (by decide))).trans (fr_27.2.1 (g.2.2 121) ⟨(ne_kd hmk.2.2.2.2.2.1 hmk.1 (by decide)), trivial⟩)
        have w_42 : G_31.2.1 (g.2.2 140) = (G.2.1 (g.2.2 140)) := by rw [eaf_32]; exact (aset_ne (ne_kd hmk.2.2.2.2.2.2.2.2.2.2.2.2.2.2.2.2.2.2.1 hmk.1 (by decide))).trans (fr_27.2.1 (g.2.2 140) ⟨(ne_kd hmk.2.2.2.2.2.2.2.2.2.2.2.2.2.2.2.2.2.2.1 hmk.1 (by decide)), trivial⟩)
        have w_43 : G_31.2.1 (g.2.2 141) = (G.2.1 (g.2.2 141)) := by rw [eaf_32]; exact (aset_ne (ne_kd hmk.2.2.2.2.2.2.2.2.2.2.2.2.2.2.2.2.2.2.2.1 hmk.1 (by decide))).trans (fr_27.2.1 (g.2.2 141) ⟨(ne_kd hmk.2.2.2.2.2.2.2.2.2.2.2.2.2.2.2.2.2.2.2.1 hmk.1 (by decide)), trivial⟩)
        have w_44 : G_31.2.1 (g.2.2 111) = (G.2.1 (g.2.2 111)) := by rw [eaf_32]; exact (aset_ne (ne_kd hmk.2.2.2.2.2.2.2.2.2.2.2.2.2.2.2.2.2.2.2.2.1 hmk.1 (by decide))).trans (fr_27.2.1 (g.2.2 111) ⟨(ne_kd hmk.2.2.2.2.2.2.2.2.2.2.2.2.2.2.2.2.2.2.2.2.1 hmk.1 (by decide)), trivial⟩)
        have u_45 : G_31.2.2 111 = some (g.2.2 111) := by rw [eaf_32]; exact ((fr_27.2.2 111 (by decide)).trans hI.r111)
        have u_46 : G_31.2.2 112 = some (g.2.2 112) := by rw [eaf_32]; exact ((fr_27.2.2 112 (by decide)).trans hI.r112)
        clear oq hz
        obtain ⟨x_47, ex_47⟩ : ∃ y : Int32, y = y2_27 + 1 := ⟨_, rfl⟩
        have rx_47 : rgI (1) (122) x_47 := by rw [ex_47]; exact rg_w (rg_add r_22 rl_1 (by decide) (by decide)) (by decide) (by decide)
        have qx_47 : x_47.toInt = (y2_27 : Int32).toInt + 1 := by rw [ex_47]; exact rg_addE r_22 rl_1 (by decide) (by decide)
        refine lv_iinc (v := x_47) (lv' := [(2, .int x_47), (0, .ref h0), (1, .int a0)]) hx hb dX12_again_50 hl (k := 2) rfl (by rw [ex_47]; rfl) (by decide) rfl (fun ls hl => ?_)
        refine lv_goto (tgt := 27) hx hb dX12_again_53 (by decide) ?_
        exact ih_27 H locs G_31 f_32 x_47 ls (by rw [u_34]; exact rg_w rg122_27 (by decide) (by decide)) fr_33 w_40 ry1_27 (rg_w rx_47 (by decide) (by decide)) (BK_s hi0_27 r_22 qx_47 (bk_i (rg_w ry1_27 (by decide) (by decide)) r_22 ex_26 ex_27 ex_29) ef_32) hi1_27 hi2_27 (by have h1 := qx_47; have h2 := r_22.1; have h3 := r_22.2; have h4 := hm_27; omega) (lv_sub hl [1, 2, 0] rfl) hH hS
  refine lv_aload_n hx hb dX12_again_0 rfl (lv_at hl 0 rfl) ?_
  refine lv_iconst (v := 0) hx hb dX12_again_1 (by decide) ?_
  obtain ⟨_, ⟨rfl, t_49, hk_50⟩, o_c_48⟩ := hH h0 _ k_h0
  refine hg_put (ty := .int) hx hb hG igX12 tyX12 tyX12_ok nmX12 hown hK hS o_c_48 (AF.of k_h0) rfl 5 (by decide) (hG _ mw_1289) rfl (by decide +kernel) rfl rfl (Nat.le_of_ble_eq_true rfl) dX12_again_2 (fun H locs o_c_48 hz oq hS => ?_)
  obtain ⟨G_51, eG_51⟩ : ∃ z : Gh, z = gset G 105 0 := ⟨_, rfl⟩
  have hH : HT g Ty G_51 H := by rw [eG_51]; exact HT.putN 105 0 hH k_h0 ⟨rfl, t_49, hk_50⟩ o_c_48 oq (Or.inr (Or.inr (Or.inr (Or.inr (Or.inr ⟨by decide, t_49⟩)))))
  have fr_52 : FR [105, 122] [(g.2.2 100)] [] G G_51 := FR.n FR.rf eG_51 (by decide)
  have u_53 : G_51.1 102 = (G.1 102) := by rw [eG_51]; exact (gs_ne (by decide))
  have u_54 : G_51.1 104 = (G.1 104) := by rw [eG_51]; exact (gs_ne (by decide))
  have u_55 : G_51.1 113 = (G.1 113) := by rw [eG_51]; exact (gs_ne (by decide))
  have u_56 : G_51.1 122 = (G.1 122) := by rw [eG_51]; exact (gs_ne (by decide))
  have u_57 : G_51.1 133 = (G.1 133) := by rw [eG_51]; exact (gs_ne (by decide))
  have u_58 : G_51.1 137 = (G.1 137) := by rw [eG_51]; exact (gs_ne (by decide))
  have u_59 : G_51.1 105 = 0 := by rw [eG_51]; exact gs_eq
  have w_60 : G_51.2.1 (g.2.2 100) = (G.2.1 (g.2.2 100)) := by rw [eG_51]; exact rfl
  have w_61 : G_51.2.1 (g.2.2 121) = (G.2.1 (g.2.2 121)) := by rw [eG_51]; exact rfl
  have w_62 : G_51.2.1 (g.2.2 140) = (G.2.1 (g.2.2 140)) := by rw [eG_51]; exact rfl
  have w_63 : G_51.2.1 (g.2.2 141) = (G.2.1 (g.2.2 141)) := by rw [eG_51]; exact rfl
  have w_64 : G_51.2.1 (g.2.2 111) = (G.2.1 (g.2.2 111)) := by rw [eG_51]; exact rfl
  have u_65 : G_51.2.2 111 = some (g.2.2 111) := by rw [eG_51]; exact hI.r111
  have u_66 : G_51.2.2 112 = some (g.2.2 112) := by rw [eG_51]; exact hI.r112
  clear oq hz
  refine lv_iload_n hx hb dX12_again_5 rfl (lv_at hl 1 rfl) ?_
  refine lv_iconst (v := 0) hx hb dX12_again_6 (by decide) ?_
  refine lv_iconst (v := 1) hx hb dX12_again_7 (by decide) ?_
  refine vp_callSi (W.runS (As := [.int a0, .int 0, .int 1]) (rest := []) ⟨hx, hb, hml, hown, hts⟩ (c_X12_in l g Ty G_51 a0 0 1 ) (cwSx 3 hts hG (gwC mw_1426) mw_88 mw_1424 mw_1425 rfl rfl rfl hd_X12_in ⟨Nat.le_of_ble_eq_true rfl, Nat.le_of_ble_eq_true rfl⟩) ⟨PcH_blind, PcH_pre hK hH⟩ rfl rfl hl.1 rfl (lv_room (Nat.le_of_ble_eq_true rfl)) dX12_again_8 ⟨Nat.zero_le _, Nat.zero_le _⟩) (fun x_67 hx_67 => ?_)
  have rx_67 : rgI (0) (1) x_67 := hx_67.1
  refine lv_if_eq (tgt := 23) hx hb dX12_again_11 (by decide) (fun c_68 => ?_) (fun c_68 => ?_)
  · have r_69 : rgI (0) (0) x_67 := rg_w (rg_eq rl_0 c_68) (by decide) (by decide)
    refine lv_iconst (v := 0) hx hb dX12_again_23 (by decide) ?_
    exact W.zret hx hb hr rfl (fun t ht hWm => ⟨⟨0, (Ty, G_51), rfl, ⟨rg_w rl_0 (by decide) (by decide), ⟨rfl, ⟨fr_52, ⟨⟨(by rw [u_53]; exact (rg_w hI.a102 (by decide) (by decide))), (by rw [u_54]; exact (rg_w hI.a104 (by decide) (by decide))), (by rw [u_55]; exact (rg_w hI.a113 (by decide) (by decide))), (by rw [u_56]; exact (rg_w hI.a122 (by decide) (by decide))), (by rw [u_57]; exact (rg_w hI.a133 (by decide) (by decide))), (by rw [u_58]; exact (rg_w hI.a137 (by decide) (by decide))), u_65, u_66, (by rw [w_60]; exact (hI.ti.hi (show Bd ≤ Bd + 1000 by omega))), (hI.un2 (show Bd ≤ Bd + 1000 by omega) w_61 u_56), (hI.ke2 (show Bd ≤ Bd + 1000 by omega) w_62 w_63)⟩, ⟨Or.inr ⟨rfl, fun z => (in_no hx_67.2.2 c_68).elim (fun w => absurd z.1.1 (by have := fz_lt.mp w; have y : (0 : Int32).toInt = 0 := rfl; omega)) (fun w => absurd z.1.2 (by have := fz_lt.mp w; have y : (1 : Int32).toInt = 1 := rfl; omega))⟩, w_63⟩⟩⟩⟩⟩, by show HT g Ty G_51 t.heap; rw [ht]; exact hH⟩, hS.F ht⟩) hS.2.2 dX12_again_24
  · have r_70 : rgI (1) (1) x_67 := rg_w (rg_neL rx_67 rl_0 c_68) (by decide) (by decide)
    have r_71 : rgI (0) (1) a0 := rg_w (in_rng hx_67.2.1 c_68 rl_0 rl_1) (by decide) (by decide)
    refine lv_aload_n hx hb dX12_again_14 rfl (lv_at hl 0 rfl) ?_
    obtain ⟨_, ⟨rfl, t_73, hk_74⟩, o_c_72⟩ := hH h0 _ k_h0
    refine hg_get hx hb hG igX12 hown hK o_c_72 rfl 41 (by decide) (hG _ mw_1325) rfl dX12_again_15 ?_
    refine lv_iload_n hx hb dX12_again_18 rfl (lv_at hl 1 rfl) ?_
    obtain ⟨_, rfl, o_c_75⟩ := hH (g.2.2 141) _ hk_74.2.2.2.2.2.2.2.2.2.2.2.2.2.2.2.2.2.2.2.1
    have o_c_75 : va_at g.1 vwCl ((g.2.2 141), .inl (g.2.1 3, 2, .inl (G_51.2.1 (g.2.2 141)))) H := o_c_75
    refine hg_zald hx hb hK o_c_75 (rg_in (n := 2) r_71 (by decide) (by decide)) dX12_again_19 ?_
    rw [w_63]
    refine lv_topi (fun x_76 ex_76 => ?_)
    refine lv_if_ne (tgt := 25) hx hb dX12_again_20 (by decide) (fun c_77 => ?_) (fun c_77 => ?_)
    · refine lv_iconst (v := 0) hx hb dX12_again_25 (by decide) ?_
      refine lv_istore_n (lv' := [(2, .int 0), (0, .ref h0), (1, .int a0)]) hx hb dX12_again_26 rfl hl (by decide) rfl (fun ls hl => ?_)
      exact L_27 _ H locs G_51 (G.2.1 (g.2.2 100)) 0 ls (by rw [u_56]; exact rg_w hI.a122 (by decide) (by decide)) fr_52 w_60 r_71 (rg_w rl_0 (by decide) (by decide)) BK_0 ⟨kp2_lt r_71, by rw [← ex_76]; exact c_77⟩ (Or.inl ⟨rfl, r_71, by rw [← ex_76]; exact c_77⟩) (Nat.lt_succ_self _) (lv_sub hl [1, 2, 0] rfl) hH hS
    · have r_78 : rgI (0) (0) x_76 := rg_w (rg_eq rl_0 c_77) (by decide) (by decide)
      refine lv_iconst (v := 0) hx hb dX12_again_23 (by decide) ?_
      exact W.zret hx hb hr rfl (fun t ht hWm => ⟨⟨0, (Ty, G_51), rfl, ⟨rg_w rl_0 (by decide) (by decide), ⟨rfl, ⟨fr_52, ⟨⟨(by rw [u_53]; exact (rg_w hI.a102 (by decide) (by decide))), (by rw [u_54]; exact (rg_w hI.a104 (by decide) (by decide))), (by rw [u_55]; exact (rg_w hI.a113 (by decide) (by decide))), (by rw [u_56]; exact (rg_w hI.a122 (by decide) (by decide))), (by rw [u_57]; exact (rg_w hI.a133 (by decide) (by decide))), (by rw [u_58]; exact (rg_w hI.a137 (by decide) (by decide))), u_65, u_66, (by rw [w_60]; exact (hI.ti.hi (show Bd ≤ Bd + 1000 by omega))), (hI.un2 (show Bd ≤ Bd + 1000 by omega) w_61 u_56), (hI.ke2 (show Bd ≤ Bd + 1000 by omega) w_62 w_63)⟩, ⟨Or.inr ⟨rfl, fun z => z.2 (by rw [← ex_76]; exact c_77)⟩, w_63⟩⟩⟩⟩⟩, by show HT g Ty G_51 t.heap; rw [ht]; exact hH⟩, hS.F ht⟩) hS.2.2 dX12_again_24
