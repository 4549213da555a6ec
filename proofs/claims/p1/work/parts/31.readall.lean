set_option maxHeartbeats 4000000 in
set_option maxRecDepth 100000 in
theorem c_X8_startsThing (l : Launch) (g : Gx) (Ty : TyM) (G : Gh) (sz : Nat) (h0 : Nat) (a0 : Int32) (k_h0 : Ty h0 = some (23, 0)) (hW : RW g G) (hp : (G.1 5).toInt ≤ 39) : Met l yX8_startsThing (wsG yX8_startsThing cX8_startsThing 3 (some .boolean)) ({ frames := 7, cells := 0, slots := 0, locals := 159 }) (PcO g Ty G sz [.ref h0, .int a0]) (QwI g Ty sz (fun r u => (rgI (0) (1) r) ∧ u.1 = Ty ∧ STEP g G u.2)) 0 0 (AF Ty sz) := by
  refine Met.ofW (cc := cX8_startsThing) (maxL := 3) (ret := (some .boolean)) (by decide) rfl ?_
  intro p e s m args below meth c s₁ B hml hv
  obtain ⟨rfl, hsz, hK, hH, hO⟩ := hv
  subst hsz
  have hx := B.exec
  have hb := B.bytes
  have hr := B.returns
  have hts := atoms_spec (ws := (wsG yX8_startsThing cX8_startsThing 3 (some .boolean))) B.pre
  have hG : ∀ w ∈ GW, w.before ([.ref h0, .int a0] : List Value).toArray s = true := fun w h => hts w (List.mem_cons_of_mem _ h)
  have hown : s.vm.findClass RX8 = some m.cls := findClass_of_methodNamed B.named
  have hlocks := B.notSynchronized
  have hl := lv_entry [.ref h0, .int a0] (n := 3) (Nat.le_of_ble_eq_true rfl)
  rw [lg_entry_eq]
  generalize (lg_sl [.ref h0, .int a0] ++ List.replicate (3 - (lg_sl [.ref h0, .int a0]).length) Slot.unset).toArray = ls at hl ⊢
  have hl : lv_has ls 3 [(0, .ref h0), (1, .int a0)] := hl
  have hS : va_S (AF Ty s.heap.size) s.heap s.heap [] := va_S.rf
  have L_83 : ∀ (H : Heap) (locs : List Loc) (ls : Array Slot), lv_has ls 3 [(0, .ref h0)] → HT g Ty G H → va_S (AF Ty s.heap.size) s.heap H locs → Wm p l e (wsG yX8_startsThing cX8_startsThing 3 (some .boolean)) ({ frames := 7, cells := 0, slots := 0, locals := 159 }) s m [.ref h0, .int a0] below meth c H locs (0) (0) (QwI g Ty s.heap.size (fun r u => (rgI (0) (1) r) ∧ u.1 = Ty ∧ STEP g G u.2)) 0 0 (AF Ty s.heap.size) (F0 m 83 ls []) := by
    intro H locs ls hl hH hS
    refine lv_aload_n hx hb dX8_startsThing_83 rfl (lv_at hl 0 rfl) ?_
    refine lv_iconst (v := 0) hx hb dX8_startsThing_84 (by decide) ?_
    obtain ⟨_, ⟨q_2, q_3, q_6, q_7, q_9, q_10, q_11, rfl, kq_2, kq_4, kq_10, kq_11, rq_3, rq_6, t_12⟩, o_c_1⟩ := hH h0 _ k_h0
    refine hg_put (ty := .boolean) hx hb hG igX8 tyX8 tyX8_ok nmX8 hown hK hS o_c_1 (AF.of k_h0) rfl 4 (by decide) (hG _ mw_206) rfl (by decide +kernel) (by rfl) (by rfl) (Nat.le_of_ble_eq_true rfl) dX8_startsThing_85 (fun H locs o_c_1 hz oq hS => ?_)
    have o_c_1 : va_at g.1 vwCl (h0, .inr (8, [.ref q_2, .int q_3, .ref (g.2.2 51), .int (G.1 5), .int 0, .int q_7, .int (G.1 6), .int q_9, .ref q_10, .ref q_11])) H := o_c_1
    have hH : HT g Ty G H := hH.put k_h0 ⟨q_2, q_3, 0, q_7, q_9, q_10, q_11, rfl, kq_2, kq_4, kq_10, kq_11, rq_3, (rg_w rl_0 (by decide) (by decide)), t_12⟩ o_c_1 oq
    clear oq hz
    refine lv_iconst (v := 1) hx hb dX8_startsThing_88 (by decide) ?_
    exact W.zret hx hb hr rfl (fun t ht hWm => ⟨⟨1, (Ty, G), rfl, ⟨rg_w rl_1 (by decide) (by decide), ⟨rfl, STEP.rf hW⟩⟩, by show HT g Ty G t.heap; rw [ht]; exact hH⟩, hS.F ht⟩) hS.2.2 dX8_startsThing_89
  have L_41 : ∀ (H : Heap) (locs : List Loc) (z0_41 : Int32) (ls : Array Slot), lv_has ls 3 [(0, .ref h0), (1, .int a0)] → HT g Ty G H → va_S (AF Ty s.heap.size) s.heap H locs → Wm p l e (wsG yX8_startsThing cX8_startsThing 3 (some .boolean)) ({ frames := 7, cells := 0, slots := 0, locals := 159 }) s m [.ref h0, .int a0] below meth c H locs (0) (0) (QwI g Ty s.heap.size (fun r u => (rgI (0) (1) r) ∧ u.1 = Ty ∧ STEP g G u.2)) 0 0 (AF Ty s.heap.size) (F0 m 41 ls [.int z0_41]) := by
    intro H locs z0_41 ls hl hH hS
    refine lv_istore_n (lv' := [(2, .int z0_41), (0, .ref h0), (1, .int a0)]) hx hb dX8_startsThing_41 rfl hl (by decide) rfl (fun ls hl => ?_)
    refine lv_iload_n hx hb dX8_startsThing_42 rfl (lv_at hl 2 rfl) ?_
    refine vp_callSi (W.runS (As := [.int a0]) (rest := []) ⟨hx, hb, hml, hown, hts⟩ (c_X8_isDigit l g Ty G a0 ) (cwSx 1 hts hG (gwC mw_532) mw_81 mw_530 mw_531 rfl rfl rfl hd_X8_isDigit ⟨Nat.le_of_ble_eq_true rfl, Nat.le_of_ble_eq_true rfl⟩) ⟨PcH_blind, PcH_pre hK hH⟩ rfl rfl hl.1 rfl (lv_room (Nat.le_of_ble_eq_true rfl)) dX8_startsThing_43 ⟨Nat.zero_le _, Nat.zero_le _⟩) (fun x_13 hx_13 => ?_)
    have rx_13 : rgI (0) (1) x_13 := hx_13
    refine lv_if_eq (tgt := 65) hx hb dX8_startsThing_46 (by decide) (fun c_14 => ?_) (fun c_14 => ?_)
    · have r_15 : rgI (0) (0) x_13 := rg_w (rg_eq rl_0 c_14) (by decide) (by decide)
      refine lv_iload_n hx hb dX8_startsThing_65 rfl (lv_at hl 0 rfl) ?_
      refine lv_if_lt (tgt := 81) hx hb dX8_startsThing_66 (by decide) (fun c_16 => ?_) (fun c_16 => ?_)
      · have r_17 : rgI (-2147483648) (-1) z0_41 := rg_w (rg_ltL (rg_top z0_41) rl_0 c_16) (by decide) (by decide)
        refine lv_iconst (v := 0) hx hb dX8_startsThing_81 (by decide) ?_
        exact W.zret hx hb hr rfl (fun t ht hWm => ⟨⟨0, (Ty, G), rfl, ⟨rg_w rl_0 (by decide) (by decide), ⟨rfl, STEP.rf hW⟩⟩, by show HT g Ty G t.heap; rw [ht]; exact hH⟩, hS.F ht⟩) hS.2.2 dX8_startsThing_82
      · have r_18 : rgI (0) (2147483647) z0_41 := rg_w (rg_leR rl_0 (rg_top z0_41) (nlt_le c_16)) (by decide) (by decide)
        refine lv_aload_n hx hb dX8_startsThing_69 rfl (lv_at hl 1 rfl) ?_
        refine lv_sipush (v := 1000) hx hb dX8_startsThing_70 (by decide) ?_
        refine lv_iload_n hx hb dX8_startsThing_73 rfl (lv_at hl 0 rfl) ?_
        refine lv_iadd hx hb dX8_startsThing_74 ?_
        refine lv_topi (fun x_19 ex_19 => ?_)
        obtain ⟨_, ⟨q_21, q_22, q_25, q_26, q_28, q_29, q_30, rfl, kq_21, kq_23, kq_29, kq_30, rq_22, rq_25, t_31⟩, o_c_20⟩ := hH h0 _ k_h0
        refine va_callv (va_runV (As := [.int x_19]) (rest := []) ⟨hx, hb, hml, hown, hts⟩ (c_X8_emit l g Ty G H.size h0 x_19 k_h0) (cwV 1 hts (gwV mw_533 mw_535 mw_3 mw_81 mw_536) rfl rfl rfl hv_X8_emit ⟨Nat.le_of_ble_eq_true rfl, Nat.le_of_ble_eq_true rfl⟩) ⟨PcT_blind, hg_recv hK o_c_20 rfl, PcT_pre hK hH⟩ rfl rfl hl.1 rfl (lv_room (Nat.le_of_ble_eq_true rfl)) dX8_startsThing_75 ⟨Nat.zero_le _, Nat.zero_le _⟩) hS (fun q _ h => AF.mono hS.1 h) (fun q h => AF.mono hS.1 h) (fun ux_32 t H locs ht hvm hx_32 hB hz hk hS => ?_)
        have hH : HT g Ty G H := by rw [← ht]; rw [hx_32] at hB; exact hB
        refine lv_goto (tgt := 83) hx hb dX8_startsThing_78 (by decide) ?_
        exact L_83 H locs ls (lv_sub hl [1] rfl) hH hS
    · have r_33 : rgI (1) (1) x_13 := rg_w (rg_neL rx_13 rl_0 c_14) (by decide) (by decide)
      refine lv_aload_n hx hb dX8_startsThing_49 rfl (lv_at hl 1 rfl) ?_
      refine lv_iload_n hx hb dX8_startsThing_50 rfl (lv_at hl 2 rfl) ?_
      refine lv_bipush (v := 48) hx hb dX8_startsThing_51 (by decide) ?_
      refine lv_isub hx hb dX8_startsThing_53 ?_
      refine lv_topi (fun x_34 ex_34 => ?_)
      obtain ⟨_, ⟨q_36, q_37, q_40, q_41, q_43, q_44, q_45, rfl, kq_36, kq_38, kq_44, kq_45, rq_37, rq_40, t_46⟩, o_c_35⟩ := hH h0 _ k_h0
      refine va_callv (va_runV (As := [.int x_34]) (rest := []) ⟨hx, hb, hml, hown, hts⟩ (c_X8_emit l g Ty G H.size h0 x_34 k_h0) (cwV 1 hts (gwV mw_533 mw_535 mw_3 mw_81 mw_536) rfl rfl rfl hv_X8_emit ⟨Nat.le_of_ble_eq_true rfl, Nat.le_of_ble_eq_true rfl⟩) ⟨PcT_blind, hg_recv hK o_c_35 rfl, PcT_pre hK hH⟩ rfl rfl hl.1 rfl (lv_room (Nat.le_of_ble_eq_true rfl)) dX8_startsThing_54 ⟨Nat.zero_le _, Nat.zero_le _⟩) hS (fun q _ h => AF.mono hS.1 h) (fun q h => AF.mono hS.1 h) (fun ux_47 t H locs ht hvm hx_47 hB hz hk hS => ?_)
      have hH : HT g Ty G H := by rw [← ht]; rw [hx_47] at hB; exact hB
      refine lv_aload_n hx hb dX8_startsThing_57 rfl (lv_at hl 1 rfl) ?_
      refine lv_iconst (v := 1) hx hb dX8_startsThing_58 (by decide) ?_
      obtain ⟨_, ⟨q_49, q_50, q_53, q_54, q_56, q_57, q_58, rfl, kq_49, kq_51, kq_57, kq_58, rq_50, rq_53, t_59⟩, o_c_48⟩ := hH h0 _ k_h0
      refine hg_put (ty := .int) hx hb hG igX8 tyX8 tyX8_ok nmX8 hown hK hS o_c_48 (AF.of k_h0) rfl 5 (by decide) (hG _ mw_207) rfl (by decide +kernel) rfl rfl (Nat.le_of_ble_eq_true rfl) dX8_startsThing_59 (fun H locs o_c_48 hz oq hS => ?_)
      have o_c_48 : va_at g.1 vwCl (h0, .inr (8, [.ref q_49, .int q_50, .ref (g.2.2 51), .int (G.1 5), .int q_53, .int 1, .int (G.1 6), .int q_56, .ref q_57, .ref q_58])) H := o_c_48
      have hH : HT g Ty G H := hH.put k_h0 ⟨q_49, q_50, q_53, 1, q_56, q_57, q_58, rfl, kq_49, kq_51, kq_57, kq_58, rq_50, rq_53, t_59⟩ o_c_48 oq
      clear oq hz
      refine lv_goto (tgt := 83) hx hb dX8_startsThing_62 (by decide) ?_
      exact L_83 H locs ls (lv_sub hl [1] rfl) hH hS
  refine lv_iload_n hx hb dX8_startsThing_0 rfl (lv_at hl 1 rfl) ?_
  refine lv_bipush (v := 45) hx hb dX8_startsThing_1 (by decide) ?_
  refine lv_icmp_ne (tgt := 15) hx hb dX8_startsThing_3 (by decide) (fun c_60 => ?_) (fun c_60 => ?_)
  · refine lv_iload_n hx hb dX8_startsThing_15 rfl (lv_at hl 1 rfl) ?_
    refine lv_bipush (v := 40) hx hb dX8_startsThing_16 (by decide) ?_
    refine lv_icmp_ne (tgt := 26) hx hb dX8_startsThing_18 (by decide) (fun c_61 => ?_) (fun c_61 => ?_)
    · refine lv_iload_n hx hb dX8_startsThing_26 rfl (lv_at hl 1 rfl) ?_
      refine lv_if_lt (tgt := 40) hx hb dX8_startsThing_27 (by decide) (fun c_62 => ?_) (fun c_62 => ?_)
      · have r_63 : rgI (-2147483648) (-1) a0 := rg_w (rg_ltL (rg_top a0) rl_0 c_62) (by decide) (by decide)
        refine lv_iconst (v := (-1)) hx hb dX8_startsThing_40 (by decide) ?_
        exact L_41 s.heap [] (-1) ls (lv_sub hl [0, 1] rfl) hH hS
      · have r_64 : rgI (0) (2147483647) a0 := rg_w (rg_leR rl_0 (rg_top a0) (nlt_le c_62)) (by decide) (by decide)
        refine va_ldcS hx hb hown hO.2.2.2.2.2.2.2 dX8_startsThing_30 ?_
        refine lv_iload_n hx hb dX8_startsThing_32 rfl (lv_at hl 1 rfl) ?_
        refine lv_i2c hx hb dX8_startsThing_33 rfl ?_
        refine lv_topi (fun x_65 ex_65 => ?_)
        refine vp_callSi (W.runV (As := [.int x_65]) (rest := []) ⟨hx, hb, hml, hown, hts⟩ (c_J0_indexOf_0f7a4 l g  (AF Ty s.heap.size) x_65 ) (cwV 1 hts (gwV mw_444 mw_445 mw_446 mw_89 mw_447) rfl rfl rfl hv_J0_indexOf_0f7a4 ⟨Nat.le_of_ble_eq_true rfl, Nat.le_of_ble_eq_true rfl⟩) ⟨PcB_blind, OC_recv hO hS, PcB_pre hK hO hS⟩ rfl rfl hl.1 rfl (lv_room (Nat.le_of_ble_eq_true rfl)) dX8_startsThing_34 ⟨Nat.zero_le _, Nat.zero_le _⟩) (fun x_66 hx_66 => ?_)
        refine lv_goto (tgt := 41) hx hb dX8_startsThing_37 (by decide) ?_
        exact L_41 s.heap [] x_66 ls (lv_sub hl [0, 1] rfl) hH hS
    · have r_67 : rgI (40) (40) a0 := rg_w (rg_eq rl_40 c_61) (by decide) (by decide)
      refine lv_aload_n hx hb dX8_startsThing_21 rfl (lv_at hl 0 rfl) ?_
      obtain ⟨_, ⟨q_69, q_70, q_73, q_74, q_76, q_77, q_78, rfl, kq_69, kq_71, kq_77, kq_78, rq_70, rq_73, t_79⟩, o_c_68⟩ := hH h0 _ k_h0
      refine va_calli (va_runV (As := []) (rest := []) ⟨hx, hb, hml, hown, hts⟩ (c_X8_opens l g Ty G s.heap.size h0 k_h0 hW hp) (cwV 0 hts (gwV mw_439 mw_441 mw_2 mw_81 mw_442) rfl rfl rfl hv_X8_opens ⟨Nat.le_of_ble_eq_true rfl, Nat.le_of_ble_eq_true rfl⟩) ⟨PcT_blind, hg_recv hK o_c_68 rfl, PcT_pre hK hH⟩ rfl rfl hl.1 rfl (lv_room (Nat.le_of_ble_eq_true rfl)) dX8_startsThing_22 ⟨Nat.zero_le _, Nat.zero_le _⟩) hS (fun q _ h => AF.mono hS.1 h) (fun q h => AF.mono hS.1 h) (fun x_80 ux_80 t H locs ht hvm hx_80 hB hz hk hS => ?_)
      obtain ⟨hx_80, fx_80⟩ := hx_80
      obtain ⟨eTx_80, eGx_80⟩ := fx_80
      obtain ⟨G_81, eG_81⟩ : ∃ z, z = ux_80.2 := ⟨_, rfl⟩
      rw [← eG_81] at eGx_80
      have hH : HT g Ty G_81 H := by rw [← ht, ← eTx_80, eG_81]; exact hB
      have rx_80 : rgI (0) (1) x_80 := hx_80
      exact W.zret hx hb hr (nz01 rx_80) (fun t ht hWm => ⟨⟨x_80, (Ty, G_81), rfl, ⟨rg_w rx_80 (by decide) (by decide), ⟨rfl, eGx_80⟩⟩, by show HT g Ty G_81 t.heap; rw [ht]; exact hH⟩, hS.F ht⟩) hS.2.2 dX8_startsThing_25
  · have r_82 : rgI (45) (45) a0 := rg_w (rg_eq rl_45 c_60) (by decide) (by decide)
    refine lv_aload_n hx hb dX8_startsThing_6 rfl (lv_at hl 0 rfl) ?_
    refine lv_sipush (v := 256) hx hb dX8_startsThing_7 (by decide) ?_
    obtain ⟨_, ⟨q_84, q_85, q_88, q_89, q_91, q_92, q_93, rfl, kq_84, kq_86, kq_92, kq_93, rq_85, rq_88, t_94⟩, o_c_83⟩ := hH h0 _ k_h0
    refine va_callv (va_runV (As := [.int 256]) (rest := []) ⟨hx, hb, hml, hown, hts⟩ (c_X8_hold l g Ty G s.heap.size h0 256 k_h0 (rg_w hW.1 (by decide) (by decide))) (cwV 1 hts (gwV mw_435 mw_437 mw_1 mw_81 mw_438) rfl rfl rfl hv_X8_hold ⟨Nat.le_of_ble_eq_true rfl, Nat.le_of_ble_eq_true rfl⟩) ⟨PcT_blind, hg_recv hK o_c_83 rfl, PcT_pre hK hH⟩ rfl rfl hl.1 rfl (lv_room (Nat.le_of_ble_eq_true rfl)) dX8_startsThing_10 ⟨Nat.zero_le _, Nat.zero_le _⟩) hS (fun q _ h => AF.mono hS.1 h) (fun q h => AF.mono hS.1 h) (fun ux_95 t H locs ht hvm hx_95 hB hz hk hS => ?_)
    obtain ⟨eTx_95, eGx_95⟩ := hx_95
    obtain ⟨G_96, eG_96⟩ : ∃ z, z = ux_95.2 := ⟨_, rfl⟩
    rw [← eG_96] at eGx_95
    have hH : HT g Ty G_96 H := by rw [← ht, ← eTx_95, eG_96]; exact hB
    refine lv_iconst (v := 1) hx hb dX8_startsThing_13 (by decide) ?_
    exact W.zret hx hb hr rfl (fun t ht hWm => ⟨⟨1, (Ty, G_96), rfl, ⟨rg_w rl_1 (by decide) (by decide), ⟨rfl, hold_step hW hp eGx_95⟩⟩, by show HT g Ty G_96 t.heap; rw [ht]; exact hH⟩, hS.F ht⟩) hS.2.2 dX8_startsThing_14

set_option maxHeartbeats 4000000 in
set_option maxRecDepth 100000 in
theorem c_X8_read (l : Launch) (g : Gx) (Ty : TyM) (G : Gh) (sz : Nat) (h0 : Nat) (b0 : Nat) (k_h0 : Ty h0 = some (23, 0)) (k_b0 : Ty b0 = some (19, 0)) : Met l yX8_read (wsG yX8_read cX8_read 4 (some .int)) ({ frames := 8, cells := 0, slots := 0, locals := 181 }) (PcO g Ty G sz [.ref h0, .ref b0]) (QwI g Ty sz (fun r u => u.1 = Ty ∧ RLx g G u.2)) 0 0 (AF Ty sz) := by
  refine Met.ofW (cc := cX8_read) (maxL := 4) (ret := (some .int)) (by decide) rfl ?_
  intro p e s m args below meth c s₁ B hml hv
  obtain ⟨rfl, hsz, hK, hH, hO⟩ := hv
  subst hsz
  have hx := B.exec
  have hb := B.bytes
  have hr := B.returns
  have hts := atoms_spec (ws := (wsG yX8_read cX8_read 4 (some .int))) B.pre
  have hG : ∀ w ∈ GW, w.before ([.ref h0, .ref b0] : List Value).toArray s = true := fun w h => hts w (List.mem_cons_of_mem _ h)
  have hown : s.vm.findClass RX8 = some m.cls := findClass_of_methodNamed B.named
  have hlocks := B.notSynchronized
  have hl := lv_entry [.ref h0, .ref b0] (n := 4) (Nat.le_of_ble_eq_true rfl)
  rw [lg_entry_eq]
  generalize (lg_sl [.ref h0, .ref b0] ++ List.replicate (4 - (lg_sl [.ref h0, .ref b0]).length) Slot.unset).toArray = ls at hl ⊢
  have hl : lv_has ls 4 [(0, .ref h0), (1, .ref b0)] := hl
  have hS : va_S (AF Ty s.heap.size) s.heap s.heap [] := va_S.rf
  have L_124 : ∀ (H : Heap) (locs : List Loc) (G_124 : Gh) (ls : Array Slot), rgI (0) (40) (G_124.1 5) → RW g G_124 → RLx g G G_124 → lv_has ls 4 [(0, .ref h0)] → HT g Ty G_124 H → va_S (AF Ty s.heap.size) s.heap H locs → Wm p l e (wsG yX8_read cX8_read 4 (some .int)) ({ frames := 8, cells := 0, slots := 0, locals := 181 }) s m [.ref h0, .ref b0] below meth c H locs (0) (0) (QwI g Ty s.heap.size (fun r u => u.1 = Ty ∧ RLx g G u.2)) 0 0 (AF Ty s.heap.size) (F0 m 124 ls []) := by
    intro H locs G_124 ls rg5_124 hi0_124 hi1_124 hl hH hS
    refine lv_aload_n hx hb dX8_read_124 rfl (lv_at hl 0 rfl) ?_
    refine lv_iconst (v := 1) hx hb dX8_read_125 (by decide) ?_
    obtain ⟨_, ⟨q_2, q_3, q_6, q_7, q_9, q_10, q_11, rfl, kq_2, kq_4, kq_10, kq_11, rq_3, rq_6, t_12⟩, o_c_1⟩ := hH h0 _ k_h0
    refine va_callv (va_runV (As := [.int 1]) (rest := []) ⟨hx, hb, hml, hown, hts⟩ (c_X8_release l g Ty G_124 H.size h0 1 k_h0 (rg_w rg5_124 (by decide) (by decide))) (cwV 1 hts (gwV mw_549 mw_551 mw_7 mw_81 mw_552) rfl rfl rfl hv_X8_release ⟨Nat.le_of_ble_eq_true rfl, Nat.le_of_ble_eq_true rfl⟩) ⟨PcT_blind, hg_recv hK o_c_1 rfl, PcT_pre hK hH⟩ rfl rfl hl.1 rfl (lv_room (Nat.le_of_ble_eq_true rfl)) dX8_read_126 ⟨Nat.zero_le _, Nat.zero_le _⟩) hS (fun q _ h => AF.mono hS.1 h) (fun q h => AF.mono hS.1 h) (fun ux_13 t H locs ht hvm hx_13 hB hz hk hS => ?_)
    obtain ⟨eTx_13, eGx_13⟩ := hx_13
    obtain ⟨G_14, eG_14⟩ : ∃ z, z = ux_13.2 := ⟨_, rfl⟩
    rw [← eG_14] at eGx_13
    have w_15 : rgI (0) (40) (G_14.1 5) := RelR.w5 eGx_13 (rg_w rg5_124 (by decide) (by decide))
    have hH : HT g Ty G_14 H := by rw [← ht, ← eTx_13, eG_14]; exact hB
    refine lv_iconst (v := (-1)) hx hb dX8_read_129 (by decide) ?_
    exact W.iret hx hb hr (fun t ht hWm => ⟨⟨(-1), (Ty, G_14), rfl, ⟨rfl, (RLx.tr hi1_124 (RelR.fr eGx_13))⟩, by show HT g Ty G_14 t.heap; rw [ht]; exact hH⟩, hS.F ht⟩) hS.2.2 dX8_read_130
  have L_119 : ∀ (H : Heap) (locs : List Loc) (G_119 : Gh) (ls : Array Slot), RW g G_119 → RLx g G G_119 → lv_has ls 4 [(1, .ref b0)] → HT g Ty G_119 H → va_S (AF Ty s.heap.size) s.heap H locs → Wm p l e (wsG yX8_read cX8_read 4 (some .int)) ({ frames := 8, cells := 0, slots := 0, locals := 181 }) s m [.ref h0, .ref b0] below meth c H locs (0) (0) (QwI g Ty s.heap.size (fun r u => u.1 = Ty ∧ RLx g G u.2)) 0 0 (AF Ty s.heap.size) (F0 m 119 ls []) := by
    intro H locs G_119 ls hi0_119 hi1_119 hl hH hS
    refine lv_aload_n hx hb dX8_read_119 rfl (lv_at hl 0 rfl) ?_
    obtain ⟨_, ⟨q_17, rfl, kq_17, rq_18, t_19⟩, o_c_16⟩ := hH b0 _ k_b0
    refine hg_getN hx hb hG igX9 hown hK o_c_16 rfl 1 (by decide) ((hK.2.1 _ nwf_175).use rfl) rfl dX8_read_120 ?_
    exact W.iret hx hb hr (fun t ht hWm => ⟨⟨(G_119.1 0), (Ty, G_119), rfl, ⟨rfl, hi1_119⟩, by show HT g Ty G_119 t.heap; rw [ht]; exact hH⟩, hS.F ht⟩) hS.2.2 dX8_read_123
  have L_86 : ∀ (H : Heap) (locs : List Loc) (G_86 : Gh) (ls : Array Slot), rgI (0) (40) (G_86.1 5) → RW g G_86 → RLx g G G_86 → lv_has ls 4 [(0, .ref h0), (1, .ref b0)] → HT g Ty G_86 H → va_S (AF Ty s.heap.size) s.heap H locs → Wm p l e (wsG yX8_read cX8_read 4 (some .int)) ({ frames := 8, cells := 0, slots := 0, locals := 181 }) s m [.ref h0, .ref b0] below meth c H locs (0) (0) (QwI g Ty s.heap.size (fun r u => u.1 = Ty ∧ RLx g G u.2)) 0 0 (AF Ty s.heap.size) (F0 m 86 ls []) := by
    intro H locs G_86 ls rg5_86 hi0_86 hi1_86 hl hH hS
    refine lv_aload_n hx hb dX8_read_86 rfl (lv_at hl 1 rfl) ?_
    obtain ⟨_, ⟨q_21, rfl, kq_21, rq_22, t_23⟩, o_c_20⟩ := hH b0 _ k_b0
    refine hg_getN hx hb hG igX9 hown hK o_c_20 rfl 1 (by decide) ((hK.2.1 _ nwf_175).use rfl) rfl dX8_read_87 ?_
    refine lv_bipush (v := 40) hx hb dX8_read_90 (by decide) ?_
    refine lv_icmp_le (tgt := 98) hx hb dX8_read_92 (by decide) (fun c_24 => ?_) (fun c_24 => ?_)
    · have r_25 : rgI (0) (40) (G_86.1 0) := rg_w (rg_leL rq_22 rl_40 c_24) (by decide) (by decide)
      refine lv_aload_n hx hb dX8_read_98 rfl (lv_at hl 1 rfl) ?_
      refine hg_getN hx hb hG igX9 hown hK o_c_20 rfl 1 (by decide) ((hK.2.1 _ nwf_175).use rfl) rfl dX8_read_99 ?_
      refine lv_if_le (tgt := 124) hx hb dX8_read_102 (by decide) (fun c_26 => ?_) (fun c_26 => ?_)
      · have r_27 : rgI (0) (0) (G_86.1 0) := rg_w (rg_leL r_25 rl_0 c_26) (by decide) (by decide)
        exact L_124 H locs G_86 ls (rg_w rg5_86 (by decide) (by decide)) hi0_86 hi1_86 (lv_sub hl [0] rfl) hH hS
      · have r_28 : rgI (1) (40) (G_86.1 0) := rg_w (rg_ltR rl_0 r_25 (nle_lt c_26)) (by decide) (by decide)
        refine lv_aload_n hx hb dX8_read_105 rfl (lv_at hl 0 rfl) ?_
        obtain ⟨_, ⟨q_30, q_31, q_34, q_35, q_37, q_38, q_39, rfl, kq_30, kq_32, kq_38, kq_39, rq_31, rq_34, t_40⟩, o_c_29⟩ := hH h0 _ k_h0
        refine hg_get hx hb hG igX8 hown hK o_c_29 rfl 4 (by decide) (hG _ mw_206) rfl dX8_read_106 ?_
        refine lv_if_ne (tgt := 119) hx hb dX8_read_109 (by decide) (fun c_41 => ?_) (fun c_41 => ?_)
        · have r_42 : rgI (1) (1) q_34 := rg_w (rg_neL rq_34 rl_0 c_41) (by decide) (by decide)
          exact L_119 H locs G_86 ls hi0_86 hi1_86 (lv_sub hl [1] rfl) hH hS
        · have r_43 : rgI (0) (0) q_34 := rg_w (rg_eq rl_0 c_41) (by decide) (by decide)
          refine lv_aload_n hx hb dX8_read_112 rfl (lv_at hl 0 rfl) ?_
          refine hg_get hx hb hG igX8 hown hK o_c_29 rfl 6 (by decide) (hG _ mw_208) rfl dX8_read_113 ?_
          refine lv_if_le (tgt := 124) hx hb dX8_read_116 (by decide) (fun c_44 => ?_) (fun c_44 => ?_)
          · have r_45 : rgI (-2147483648) (0) (G_86.1 6) := rg_w (rg_leL (rg_top (G_86.1 6)) rl_0 c_44) (by decide) (by decide)
            exact L_124 H locs G_86 ls (rg_w rg5_86 (by decide) (by decide)) hi0_86 hi1_86 (lv_sub hl [0] rfl) hH hS
          · have r_46 : rgI (1) (2147483647) (G_86.1 6) := rg_w (rg_ltR rl_0 (rg_top (G_86.1 6)) (nle_lt c_44)) (by decide) (by decide)
            exact L_119 H locs G_86 ls hi0_86 hi1_86 (lv_sub hl [1] rfl) hH hS
    · have r_47 : rgI (41) (80) (G_86.1 0) := rg_w (rg_ltR rl_40 rq_22 (nle_lt c_24)) (by decide) (by decide)
      refine lv_bipush (v := 40) hx hb dX8_read_95 (by decide) ?_
      exact W.iret hx hb hr (fun t ht hWm => ⟨⟨40, (Ty, G_86), rfl, ⟨rfl, hi1_86⟩, by show HT g Ty G_86 t.heap; rw [ht]; exact hH⟩, hS.F ht⟩) hS.2.2 dX8_read_97
  have L_78 : ∀ (H : Heap) (locs : List Loc) (G_78 : Gh) (y2_78 : Int32) (ls : Array Slot), rgI (0) (39) y2_78 → RLx g G G_78 → lv_has ls 4 [(2, .int y2_78)] → HT g Ty G_78 H → va_S (AF Ty s.heap.size) s.heap H locs → Wm p l e (wsG yX8_read cX8_read 4 (some .int)) ({ frames := 8, cells := 0, slots := 0, locals := 181 }) s m [.ref h0, .ref b0] below meth c H locs (0) (0) (QwI g Ty s.heap.size (fun r u => u.1 = Ty ∧ RLx g G u.2)) 0 0 (AF Ty s.heap.size) (F0 m 78 ls []) := by
    intro H locs G_78 y2_78 ls ry2_78 hi0_78 hl hH hS
    refine lv_iload_n hx hb dX8_read_78 rfl (lv_at hl 0 rfl) ?_
    exact W.iret hx hb hr (fun t ht hWm => ⟨⟨y2_78, (Ty, G_78), rfl, ⟨rfl, hi0_78⟩, by show HT g Ty G_78 t.heap; rw [ht]; exact hH⟩, hS.F ht⟩) hS.2.2 dX8_read_79
  have L_32 : ∀ (n : Nat) (H : Heap) (locs : List Loc) (G_32 : Gh) (y2_32 : Int32) (ls : Array Slot), rgI (0) (40) (G_32.1 5) → rgI (0) (40) y2_32 → RW g G_32 → (G_32.1 5).toInt ≤ y2_32.toInt → RLx g G G_32 → (40 - (y2_32).toInt).toNat < n → lv_has ls 4 [(0, .ref h0), (1, .ref b0), (2, .int y2_32)] → HT g Ty G_32 H → va_S (AF Ty s.heap.size) s.heap H locs → Wm p l e (wsG yX8_read cX8_read 4 (some .int)) ({ frames := 8, cells := 0, slots := 0, locals := 181 }) s m [.ref h0, .ref b0] below meth c H locs (0) (0) (QwI g Ty s.heap.size (fun r u => u.1 = Ty ∧ RLx g G u.2)) 0 0 (AF Ty s.heap.size) (F0 m 32 ls []) := by
    intro n
    induction n with
    | zero => intro H locs G_32 y2_32 ls rg5_32 ry2_32 hi0_32 hi1_32 hi2_32 hm; exact absurd hm (Nat.not_lt_zero _)
    | succ n ih_32 =>
      intro H locs G_32 y2_32 ls rg5_32 ry2_32 hi0_32 hi1_32 hi2_32 hm_32 hl hH hS
      have L_80 : ∀ (H : Heap) (locs : List Loc) (G_80 : Gh) (ls : Array Slot), rgI (0) (40) (G_80.1 5) → rgI (0) (39) y2_32 → RW g G_80 → (G_80.1 5).toInt ≤ (y2_32).toInt + 1 → RLx g G G_80 → lv_has ls 4 [(0, .ref h0), (1, .ref b0), (2, .int y2_32)] → HT g Ty G_80 H → va_S (AF Ty s.heap.size) s.heap H locs → Wm p l e (wsG yX8_read cX8_read 4 (some .int)) ({ frames := 8, cells := 0, slots := 0, locals := 181 }) s m [.ref h0, .ref b0] below meth c H locs (0) (0) (QwI g Ty s.heap.size (fun r u => u.1 = Ty ∧ RLx g G u.2)) 0 0 (AF Ty s.heap.size) (F0 m 80 ls []) := by
        intro H locs G_80 ls rg5_80 ry2_80 hi0_80 hi1_80 hi2_80 hl hH hS
        obtain ⟨x_48, ex_48⟩ : ∃ y : Int32, y = y2_32 + 1 := ⟨_, rfl⟩
        have rx_48 : rgI (1) (40) x_48 := by rw [ex_48]; exact rg_w (rg_add ry2_80 rl_1 (by decide) (by decide)) (by decide) (by decide)
        have qx_48 : x_48.toInt = (y2_32 : Int32).toInt + 1 := by rw [ex_48]; exact rg_addE ry2_80 rl_1 (by decide) (by decide)
        refine lv_iinc (v := x_48) (lv' := [(2, .int x_48), (0, .ref h0), (1, .ref b0)]) hx hb dX8_read_80 hl (k := 2) rfl (by rw [ex_48]; rfl) (by decide) rfl (fun ls hl => ?_)
        refine lv_goto (tgt := 32) hx hb dX8_read_83 (by decide) ?_
        exact ih_32 H locs G_80 x_48 ls (rg_w rg5_80 (by decide) (by decide)) (rg_w rx_48 (by decide) (by decide)) hi0_80 (by have h1 := hi1_80; have h2 := qx_48; omega) hi2_80 (by have h1 := qx_48; have h2 := ry2_80.1; have h3 := ry2_80.2; have h4 := hm_32; omega) (lv_sub hl [1, 2, 0] rfl) hH hS
      refine lv_iload_n hx hb dX8_read_32 rfl (lv_at hl 2 rfl) ?_
      refine lv_aload_n hx hb dX8_read_33 rfl (lv_at hl 1 rfl) ?_
      obtain ⟨_, ⟨q_50, rfl, kq_50, rq_51, t_52⟩, o_c_49⟩ := hH b0 _ k_b0
      refine hg_getN hx hb hG igX9 hown hK o_c_49 rfl 1 (by decide) ((hK.2.1 _ nwf_175).use rfl) rfl dX8_read_34 ?_
      refine lv_icmp_ge (tgt := 86) hx hb dX8_read_37 (by decide) (fun c_53 => ?_) (fun c_53 => ?_)
      · have r_54 : rgI (0) (40) (G_32.1 0) := rg_w (rg_leL rq_51 ry2_32 c_53) (by decide) (by decide)
        exact L_86 H locs G_32 ls (rg_w rg5_32 (by decide) (by decide)) hi0_32 hi2_32 (lv_sub hl [0, 1] rfl) hH hS
      · have r_55 : rgI (1) (80) (G_32.1 0) := rg_w (rg_ltR ry2_32 rq_51 (nle_lt c_53)) (by decide) (by decide)
        refine lv_iload_n hx hb dX8_read_40 rfl (lv_at hl 2 rfl) ?_
        refine lv_bipush (v := 40) hx hb dX8_read_41 (by decide) ?_
        refine lv_icmp_ge (tgt := 86) hx hb dX8_read_43 (by decide) (fun c_56 => ?_) (fun c_56 => ?_)
        · have r_57 : rgI (40) (40) y2_32 := rg_w (rg_leR rl_40 ry2_32 c_56) (by decide) (by decide)
          exact L_86 H locs G_32 ls (rg_w rg5_32 (by decide) (by decide)) hi0_32 hi2_32 (lv_sub hl [0, 1] rfl) hH hS
        · have r_58 : rgI (0) (39) y2_32 := rg_w (rg_ltL ry2_32 rl_40 (nle_lt c_56)) (by decide) (by decide)
          refine lv_aload_n hx hb dX8_read_46 rfl (lv_at hl 1 rfl) ?_
          refine lv_iload_n hx hb dX8_read_47 rfl (lv_at hl 2 rfl) ?_
          refine vp_callSi (W.runV (As := [.int y2_32]) (rest := []) ⟨hx, hb, hml, hown, hts⟩ (c_X9_signAt l g Ty G_32 b0 y2_32 k_b0) (cwV 1 hts (gwV mw_427 mw_428 mw_429 mw_79 mw_430) rfl rfl rfl hv_X9_signAt ⟨Nat.le_of_ble_eq_true rfl, Nat.le_of_ble_eq_true rfl⟩) ⟨PcH_blind, hg_recv hK o_c_49 rfl, PcH_pre hK hH⟩ rfl rfl hl.1 rfl (lv_room (Nat.le_of_ble_eq_true rfl)) dX8_read_48 ⟨Nat.zero_le _, Nat.zero_le _⟩) (fun x_59 hx_59 => ?_)
          refine lv_istore_n (lv' := [(3, .int x_59), (0, .ref h0), (1, .ref b0), (2, .int y2_32)]) hx hb dX8_read_51 rfl hl (by decide) rfl (fun ls hl => ?_)
          refine lv_aload_n hx hb dX8_read_52 rfl (lv_at hl 1 rfl) ?_
          obtain ⟨_, ⟨q_61, q_62, q_65, q_66, q_68, q_69, q_70, rfl, kq_61, kq_63, kq_69, kq_70, rq_62, rq_65, t_71⟩, o_c_60⟩ := hH h0 _ k_h0
          refine hg_get hx hb hG igX8 hown hK o_c_60 rfl 4 (by decide) (hG _ mw_206) rfl dX8_read_53 ?_
          refine lv_if_eq (tgt := 70) hx hb dX8_read_56 (by decide) (fun c_72 => ?_) (fun c_72 => ?_)
          · have r_73 : rgI (0) (0) q_65 := rg_w (rg_eq rl_0 c_72) (by decide) (by decide)
            refine lv_aload_n hx hb dX8_read_70 rfl (lv_at hl 1 rfl) ?_
            refine lv_iload_n hx hb dX8_read_71 rfl (lv_at hl 0 rfl) ?_
            refine va_calli (va_runV (As := [.int x_59]) (rest := []) ⟨hx, hb, hml, hown, hts⟩ (c_X8_followsThing l g Ty G_32 H.size h0 x_59 k_h0 hi0_32 (by have h1 := hi1_32; have h2 := (r_58).2; omega)) (cwV 1 hts (gwV mw_537 mw_539 mw_4 mw_81 mw_540) rfl rfl rfl hv_X8_followsThing ⟨Nat.le_of_ble_eq_true rfl, Nat.le_of_ble_eq_true rfl⟩) ⟨PcT_blind, hg_recv hK o_c_60 rfl, PcT_pre hK hH⟩ rfl rfl hl.1 rfl (lv_room (Nat.le_of_ble_eq_true rfl)) dX8_read_72 ⟨Nat.zero_le _, Nat.zero_le _⟩) hS (fun q _ h => AF.mono hS.1 h) (fun q h => AF.mono hS.1 h) (fun x_74 ux_74 t H locs ht hvm hx_74 hB hz hk hS => ?_)
            obtain ⟨hx_74, fx_74⟩ := hx_74
            obtain ⟨eTx_74, eGx_74⟩ := fx_74
            obtain ⟨G_75, eG_75⟩ : ∃ z, z = ux_74.2 := ⟨_, rfl⟩
            rw [← eG_75] at eGx_74
            have hH : HT g Ty G_75 H := by rw [← ht, ← eTx_74, eG_75]; exact hB
            have rx_74 : rgI (0) (1) x_74 := hx_74
            refine lv_if_ne (tgt := 80) hx hb dX8_read_75 (by decide) (fun c_76 => ?_) (fun c_76 => ?_)
            · have r_77 : rgI (1) (1) x_74 := rg_w (rg_neL rx_74 rl_0 c_76) (by decide) (by decide)
              exact L_80 H locs G_75 ls eGx_74.2.1.1 r_58 eGx_74.2.1 (by have h1 := eGx_74.2.2; have h2 := hi1_32; omega) (RLx.tr hi2_32 eGx_74.1) (lv_sub hl [1, 2, 3] rfl) hH hS
            · have r_78 : rgI (0) (0) x_74 := rg_w (rg_eq rl_0 c_76) (by decide) (by decide)
              exact L_78 H locs G_75 y2_32 ls r_58 (RLx.tr hi2_32 eGx_74.1) (lv_sub hl [3] rfl) hH hS
          · have r_79 : rgI (1) (1) q_65 := rg_w (rg_neL rq_65 rl_0 c_72) (by decide) (by decide)
            refine lv_aload_n hx hb dX8_read_59 rfl (lv_at hl 1 rfl) ?_
            refine lv_iload_n hx hb dX8_read_60 rfl (lv_at hl 0 rfl) ?_
            refine va_calli (va_runV (As := [.int x_59]) (rest := []) ⟨hx, hb, hml, hown, hts⟩ (c_X8_startsThing l g Ty G_32 H.size h0 x_59 k_h0 hi0_32 (by have h1 := hi1_32; have h2 := (r_58).2; omega)) (cwV 1 hts (gwV mw_431 mw_433 mw_0 mw_81 mw_434) rfl rfl rfl hv_X8_startsThing ⟨Nat.le_of_ble_eq_true rfl, Nat.le_of_ble_eq_true rfl⟩) ⟨PcO_blind, hg_recv hK o_c_60 rfl, PcO_pre hK hH hO hS⟩ rfl rfl hl.1 rfl (lv_room (Nat.le_of_ble_eq_true rfl)) dX8_read_61 ⟨Nat.zero_le _, Nat.zero_le _⟩) hS (fun q _ h => AF.mono hS.1 h) (fun q h => AF.mono hS.1 h) (fun x_80 ux_80 t H locs ht hvm hx_80 hB hz hk hS => ?_)
            obtain ⟨hx_80, fx_80⟩ := hx_80
            obtain ⟨eTx_80, eGx_80⟩ := fx_80
            obtain ⟨G_81, eG_81⟩ : ∃ z, z = ux_80.2 := ⟨_, rfl⟩
            rw [← eG_81] at eGx_80
            have hH : HT g Ty G_81 H := by rw [← ht, ← eTx_80, eG_81]; exact hB
            have rx_80 : rgI (0) (1) x_80 := hx_80
            refine lv_if_ne (tgt := 80) hx hb dX8_read_64 (by decide) (fun c_82 => ?_) (fun c_82 => ?_)
            · have r_83 : rgI (1) (1) x_80 := rg_w (rg_neL rx_80 rl_0 c_82) (by decide) (by decide)
              exact L_80 H locs G_81 ls eGx_80.2.1.1 r_58 eGx_80.2.1 (by have h1 := eGx_80.2.2; have h2 := hi1_32; omega) (RLx.tr hi2_32 eGx_80.1) (lv_sub hl [1, 2, 3] rfl) hH hS
            · have r_84 : rgI (0) (0) x_80 := rg_w (rg_eq rl_0 c_82) (by decide) (by decide)
              refine lv_goto (tgt := 78) hx hb dX8_read_67 (by decide) ?_
              exact L_78 H locs G_81 y2_32 ls r_58 (RLx.tr hi2_32 eGx_80.1) (lv_sub hl [3] rfl) hH hS
  refine lv_aload_n hx hb dX8_read_0 rfl (lv_at hl 0 rfl) ?_
  refine lv_iconst (v := 0) hx hb dX8_read_1 (by decide) ?_
  obtain ⟨_, ⟨q_86, q_87, q_90, q_91, q_93, q_94, q_95, rfl, kq_86, kq_88, kq_94, kq_95, rq_87, rq_90, t_96⟩, o_c_85⟩ := hH h0 _ k_h0
  refine hg_put (ty := .int) hx hb hG igX8 tyX8 tyX8_ok nmX8 hown hK hS o_c_85 (AF.of k_h0) rfl 1 (by decide) (hG _ mw_203) rfl (by decide +kernel) rfl rfl (Nat.le_of_ble_eq_true rfl) dX8_read_2 (fun H locs o_c_85 hz oq hS => ?_)
  have o_c_85 : va_at g.1 vwCl (h0, .inr (8, [.ref q_86, .int 0, .ref (g.2.2 51), .int (G.1 5), .int q_90, .int q_91, .int (G.1 6), .int q_93, .ref q_94, .ref q_95])) H := o_c_85
  have hH : HT g Ty G H := hH.put k_h0 ⟨q_86, 0, q_90, q_91, q_93, q_94, q_95, rfl, kq_86, kq_88, kq_94, kq_95, (rg_w rl_0 (by decide) (by decide)), rq_90, t_96⟩ o_c_85 oq
  clear oq hz
  refine lv_aload_n hx hb dX8_read_5 rfl (lv_at hl 0 rfl) ?_
  refine lv_iconst (v := 0) hx hb dX8_read_6 (by decide) ?_
  refine hg_put (ty := .int) hx hb hG igX8 tyX8 tyX8_ok nmX8 hown hK hS o_c_85 (AF.of k_h0) rfl 3 (by decide) (hG _ mw_205) rfl (by decide +kernel) rfl rfl (Nat.le_of_ble_eq_true rfl) dX8_read_7 (fun H locs o_c_85 hz oq hS => ?_)
  obtain ⟨G_97, eG_97⟩ : ∃ z : Gh, z = gset G 5 0 := ⟨_, rfl⟩
  have hH : HT g Ty G_97 H := by rw [eG_97]; exact HT.putN 5 0 hH k_h0 ⟨q_86, 0, q_90, q_91, q_93, q_94, q_95, rfl, kq_86, kq_88, kq_94, kq_95, (rg_w rl_0 (by decide) (by decide)), rq_90, t_96⟩ o_c_85 oq (Or.inr (Or.inr (Or.inr (Or.inr (Or.inl ⟨Or.inl rfl, t_96⟩)))))
  have u_98 : G_97.1 5 = 0 := by rw [eG_97]; exact gs_eq
  clear oq hz
  refine lv_aload_n hx hb dX8_read_10 rfl (lv_at hl 0 rfl) ?_
  refine lv_iconst (v := 1) hx hb dX8_read_11 (by decide) ?_
  obtain ⟨_, ⟨q_100, q_101, q_104, q_105, q_107, q_108, q_109, rfl, kq_100, kq_102, kq_108, kq_109, rq_101, rq_104, t_110⟩, o_c_99⟩ := hH h0 _ k_h0
  refine hg_put (ty := .boolean) hx hb hG igX8 tyX8 tyX8_ok nmX8 hown hK hS o_c_99 (AF.of k_h0) rfl 4 (by decide) (hG _ mw_206) rfl (by decide +kernel) (by rfl) (by rfl) (Nat.le_of_ble_eq_true rfl) dX8_read_12 (fun H locs o_c_99 hz oq hS => ?_)
  have o_c_99 : va_at g.1 vwCl (h0, .inr (8, [.ref q_100, .int q_101, .ref (g.2.2 51), .int (G_97.1 5), .int 1, .int q_105, .int (G_97.1 6), .int q_107, .ref q_108, .ref q_109])) H := o_c_99
  have hH : HT g Ty G_97 H := hH.put k_h0 ⟨q_100, q_101, 1, q_105, q_107, q_108, q_109, rfl, kq_100, kq_102, kq_108, kq_109, rq_101, (rg_w rl_1 (by decide) (by decide)), t_110⟩ o_c_99 oq
  clear oq hz
  refine lv_aload_n hx hb dX8_read_15 rfl (lv_at hl 0 rfl) ?_
  refine lv_iconst (v := 0) hx hb dX8_read_16 (by decide) ?_
  refine hg_put (ty := .int) hx hb hG igX8 tyX8 tyX8_ok nmX8 hown hK hS o_c_99 (AF.of k_h0) rfl 5 (by decide) (hG _ mw_207) rfl (by decide +kernel) rfl rfl (Nat.le_of_ble_eq_true rfl) dX8_read_17 (fun H locs o_c_99 hz oq hS => ?_)
  have o_c_99 : va_at g.1 vwCl (h0, .inr (8, [.ref q_100, .int q_101, .ref (g.2.2 51), .int (G_97.1 5), .int 1, .int 0, .int (G_97.1 6), .int q_107, .ref q_108, .ref q_109])) H := o_c_99
  have hH : HT g Ty G_97 H := hH.put k_h0 ⟨q_100, q_101, 1, 0, q_107, q_108, q_109, rfl, kq_100, kq_102, kq_108, kq_109, rq_101, (rg_w rl_1 (by decide) (by decide)), t_110⟩ o_c_99 oq
  clear oq hz
  refine lv_aload_n hx hb dX8_read_20 rfl (lv_at hl 0 rfl) ?_
  refine lv_iconst (v := 0) hx hb dX8_read_21 (by decide) ?_
  refine hg_put (ty := .int) hx hb hG igX8 tyX8 tyX8_ok nmX8 hown hK hS o_c_99 (AF.of k_h0) rfl 6 (by decide) (hG _ mw_208) rfl (by decide +kernel) rfl rfl (Nat.le_of_ble_eq_true rfl) dX8_read_22 (fun H locs o_c_99 hz oq hS => ?_)
  obtain ⟨G_111, eG_111⟩ : ∃ z : Gh, z = gset G_97 6 0 := ⟨_, rfl⟩
  have hH : HT g Ty G_111 H := by rw [eG_111]; exact HT.putN 6 0 hH k_h0 ⟨q_100, q_101, 1, 0, q_107, q_108, q_109, rfl, kq_100, kq_102, kq_108, kq_109, rq_101, (rg_w rl_1 (by decide) (by decide)), t_110⟩ o_c_99 oq (Or.inr (Or.inr (Or.inr (Or.inr (Or.inl ⟨Or.inr rfl, t_110⟩)))))
  have u_112 : G_111.1 5 = 0 := by rw [eG_111]; exact (gs_ne (by decide)).trans u_98
  have u_113 : G_111.1 6 = 0 := by rw [eG_111]; exact gs_eq
  clear oq hz
  refine lv_aload_n hx hb dX8_read_25 rfl (lv_at hl 0 rfl) ?_
  refine lv_iconst (v := 0) hx hb dX8_read_26 (by decide) ?_
  obtain ⟨_, ⟨q_115, q_116, q_119, q_120, q_122, q_123, q_124, rfl, kq_115, kq_117, kq_123, kq_124, rq_116, rq_119, t_125⟩, o_c_114⟩ := hH h0 _ k_h0
  refine hg_put (ty := .int) hx hb hG igX8 tyX8 tyX8_ok nmX8 hown hK hS o_c_114 (AF.of k_h0) rfl 7 (by decide) (hG _ mw_209) rfl (by decide +kernel) rfl rfl (Nat.le_of_ble_eq_true rfl) dX8_read_27 (fun H locs o_c_114 hz oq hS => ?_)
  have o_c_114 : va_at g.1 vwCl (h0, .inr (8, [.ref q_115, .int q_116, .ref (g.2.2 51), .int (G_111.1 5), .int q_119, .int q_120, .int (G_111.1 6), .int 0, .ref q_123, .ref q_124])) H := o_c_114
  have hH : HT g Ty G_111 H := hH.put k_h0 ⟨q_115, q_116, q_119, q_120, 0, q_123, q_124, rfl, kq_115, kq_117, kq_123, kq_124, rq_116, rq_119, t_125⟩ o_c_114 oq
  clear oq hz
  refine lv_iconst (v := 0) hx hb dX8_read_30 (by decide) ?_
  refine lv_istore_n (lv' := [(2, .int 0), (0, .ref h0), (1, .ref b0)]) hx hb dX8_read_31 rfl hl (by decide) rfl (fun ls hl => ?_)
  exact L_32 _ H locs G_111 0 ls (by rw [u_112]; exact rg_w rl_0 (by decide) (by decide)) (rg_w rl_0 (by decide) (by decide)) (rw0 (g := g) eG_97 eG_111).1 (rw0 (g := g) eG_97 eG_111).2.1 (rw0 (g := g) eG_97 eG_111).2.2 (Nat.lt_succ_self _) (lv_sub hl [1, 2, 0] rfl) hH hS
