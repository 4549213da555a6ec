set_option maxHeartbeats 4000000 in
set_option maxRecDepth 100000 in
theorem c_X12_goersOf (l : Launch) (g : Gx) (Ty : TyM) (G : Gh) (sz : Nat) (h0 : Nat) (b0 : Nat) (a1 : Int32) (a2 : Int32) (k_h0 : Ty h0 = some (22, 0)) (k_b0 : Ty b0 = some (30, 122)) (ρ : Nat → Nat) (hT : P1 (G.2.1 b0) ρ) (hm0 : thr (G.2.1 b0) a1) (rl : Nat) (krl : Ty rl = some (31, 40)) (hr1 : G.2.2 111 = some rl) (hr3 : rgI 0 40 (G.1 113)) : Met l yX12_goersOf (wsG yX12_goersOf cX12_goersOf 8 (some .int)) ({ frames := 339, cells := 0, slots := 0, locals := 7944 }) (PcT g Ty G sz [.ref h0, .ref b0, .int a1, .int a2]) (QwI g Ty sz (fun r u => ((GB (G.2.1 b0) r)) ∧ u.1 = Ty ∧ FR [107, 108, 109, 110, 114] [(g.2.2 115)] [106] G u.2)) 0 0 (AF Ty sz) := by
  refine Met.ofW (cc := cX12_goersOf) (maxL := 8) (ret := (some .int)) (by decide) rfl ?_
  intro p e s m args below meth c s₁ B hml hv
  obtain ⟨rfl, hsz, hK, hH⟩ := hv
  subst hsz
  have hx := B.exec
  have hb := B.bytes
  have hr := B.returns
  have hts := atoms_spec (ws := (wsG yX12_goersOf cX12_goersOf 8 (some .int))) B.pre
  have hG : ∀ w ∈ GW, w.before ([.ref h0, .ref b0, .int a1, .int a2] : List Value).toArray s = true := fun w h => hts w (List.mem_cons_of_mem _ h)
  have hown : s.vm.findClass RX12 = some m.cls := findClass_of_methodNamed B.named
  have hlocks := B.notSynchronized
  have hl := lv_entry [.ref h0, .ref b0, .int a1, .int a2] (n := 8) (Nat.le_of_ble_eq_true rfl)
  rw [lg_entry_eq]
  generalize (lg_sl [.ref h0, .ref b0, .int a1, .int a2] ++ List.replicate (8 - (lg_sl [.ref h0, .ref b0, .int a1, .int a2]).length) Slot.unset).toArray = ls at hl ⊢
  have hl : lv_has ls 8 [(0, .ref h0), (1, .ref b0), (2, .int a1), (3, .int a2)] := hl
  have hmk : mdK g Ty := mdk_of hH k_h0
  have hS : va_S (AF Ty s.heap.size) s.heap s.heap [] := va_S.rf
  have L_13 : ∀ (n : Nat) (H : Heap) (locs : List Loc) (G_13 : Gh) (y4_13 : Int32) (y5_13 : Int32) (y6_13 : Int32) (ls : Array Slot), FR [107, 108, 109, 110, 114] [(g.2.2 115)] [106] G G_13 → rgI (0) (24) y6_13 → y4_13 = F_X12_spreadOf (G.2.1 b0) a1 → SB (G.2.1 b0) y4_13 → GB (G.2.1 b0) y5_13 → (24 - (y6_13).toInt).toNat < n → lv_has ls 8 [(0, .ref h0), (1, .ref b0), (2, .int a1), (3, .int a2), (4, .int y4_13), (5, .int y5_13), (6, .int y6_13)] → HT g Ty G_13 H → va_S (AF Ty s.heap.size) s.heap H locs → Wm p l e (wsG yX12_goersOf cX12_goersOf 8 (some .int)) ({ frames := 339, cells := 0, slots := 0, locals := 7944 }) s m [.ref h0, .ref b0, .int a1, .int a2] below meth c H locs (0) (0) (QwI g Ty s.heap.size (fun r u => ((GB (G.2.1 b0) r)) ∧ u.1 = Ty ∧ FR [107, 108, 109, 110, 114] [(g.2.2 115)] [106] G u.2)) 0 0 (AF Ty s.heap.size) (F0 m 13 ls []) := by
    intro n
    induction n with
    | zero => intro H locs G_13 y4_13 y5_13 y6_13 ls fr_13 ry6_13 hi0_13 hi1_13 hi2_13 hm; exact absurd hm (Nat.not_lt_zero _)
    | succ n ih_13 =>
      intro H locs G_13 y4_13 y5_13 y6_13 ls fr_13 ry6_13 hi0_13 hi1_13 hi2_13 hm_13 hl hH hS
      refine lv_iload hx hb dX12_goersOf_13 (lv_at hl 6 rfl) ?_
      refine lv_bipush (v := 24) hx hb dX12_goersOf_15 (by decide) ?_
      refine lv_icmp_ge (tgt := 90) hx hb dX12_goersOf_17 (by decide) (fun c_1 => ?_) (fun c_1 => ?_)
      · have r_2 : rgI (24) (24) y6_13 := rg_w (rg_leR rl_24 ry6_13 c_1) (by decide) (by decide)
        refine lv_iload hx hb dX12_goersOf_90 (lv_at hl 5 rfl) ?_
        exact W.iret hx hb hr (fun t ht hWm => ⟨⟨y5_13, (Ty, G_13), rfl, ⟨hi2_13, ⟨rfl, fr_13⟩⟩, by show HT g Ty G_13 t.heap; rw [ht]; exact hH⟩, hS.F ht⟩) hS.2.2 dX12_goersOf_92
      · have r_3 : rgI (0) (23) y6_13 := rg_w (rg_ltL ry6_13 rl_24 (nle_lt c_1)) (by decide) (by decide)
        refine lv_iload hx hb dX12_goersOf_20 (lv_at hl 4 rfl) ?_
        refine lv_iload hx hb dX12_goersOf_22 (lv_at hl 6 rfl) ?_
        refine vp_callSi (W.runS (As := [.int y4_13, .int y6_13]) (rest := []) ⟨hx, hb, hml, hown, hts⟩ (c_X12_has l g Ty G_13 y4_13 y6_13 ) (cwSx 2 hts hG (gwC mw_1563) mw_88 mw_1561 mw_1562 rfl rfl rfl hd_X12_has ⟨Nat.le_of_ble_eq_true rfl, Nat.le_of_ble_eq_true rfl⟩) ⟨PcH_blind, PcH_pre hK hH⟩ rfl rfl hl.1 rfl (lv_room (Nat.le_of_ble_eq_true rfl)) dX12_goersOf_24 ⟨Nat.zero_le _, Nat.zero_le _⟩) (fun x_4 hx_4 => ?_)
        have rx_4 : rgI (0) (1) x_4 := hx_4.1
        refine lv_if_ne (tgt := 33) hx hb dX12_goersOf_27 (by decide) (fun c_5 => ?_) (fun c_5 => ?_)
        · have r_6 : rgI (1) (1) x_4 := rg_w (rg_neL rx_4 rl_0 c_5) (by decide) (by decide)
          have hb_7 : bt y4_13 (y6_13 : Int32).toNatClampNeg = true := has_1 (rg_w r_3 (by decide) (by decide)) (by rw [← hx_4.2]; exact c_5)
          refine lv_aload_n hx hb dX12_goersOf_33 rfl (lv_at hl 1 rfl) ?_
          refine lv_iload hx hb dX12_goersOf_34 (lv_at hl 6 rfl) ?_
          refine lv_iload_n hx hb dX12_goersOf_36 rfl (lv_at hl 3 rfl) ?_
          refine vp_callSi (W.runS (As := [.ref b0, .int y6_13, .int a2]) (rest := []) ⟨hx, hb, hml, hown, hts⟩ (c_X12_atOf l g Ty G_13 b0 y6_13 a2 k_b0) (cwSx 3 hts hG (gwC mw_1509) mw_88 mw_1507 mw_1508 rfl rfl rfl hd_X12_atOf ⟨Nat.le_of_ble_eq_true rfl, Nat.le_of_ble_eq_true rfl⟩) ⟨PcH_blind, PcH_pre hK hH⟩ rfl rfl hl.1 rfl (lv_room (Nat.le_of_ble_eq_true rfl)) dX12_goersOf_37 ⟨Nat.zero_le _, Nat.zero_le _⟩) (fun x_8 hx_8 => ?_)
          have rx_8 : rgI (1) (24) x_8 := hx_8.1
          have ex_9 : x_8 = F_X12_atOf (G.2.1 b0) y6_13 a2 := by rw [← (fr_13.2.1 b0 ⟨(ne_kd k_b0 hmk.2.2.2.1 (by decide)), trivial⟩)]; exact hx_8.2
          refine lv_istore (lv' := [(7, .int x_8), (0, .ref h0), (1, .ref b0), (2, .int a1), (3, .int a2), (4, .int y4_13), (5, .int y5_13), (6, .int y6_13)]) hx hb dX12_goersOf_40 hl (by decide) rfl (fun ls hl => ?_)
          refine lv_iload hx hb dX12_goersOf_42 (lv_at hl 0 rfl) ?_
          refine lv_bipush (v := 24) hx hb dX12_goersOf_44 (by decide) ?_
          refine lv_icmp_eq (tgt := 84) hx hb dX12_goersOf_46 (by decide) (fun c_10 => ?_) (fun c_10 => ?_)
          · have r_11 : rgI (24) (24) x_8 := rg_w (rg_eq rl_24 c_10) (by decide) (by decide)
            obtain ⟨x_12, ex_12⟩ : ∃ y : Int32, y = y6_13 + 1 := ⟨_, rfl⟩
            have rx_12 : rgI (1) (24) x_12 := by rw [ex_12]; exact rg_w (rg_add r_3 rl_1 (by decide) (by decide)) (by decide) (by decide)
            have qx_12 : x_12.toInt = (y6_13 : Int32).toInt + 1 := by rw [ex_12]; exact rg_addE r_3 rl_1 (by decide) (by decide)
            refine lv_iinc (v := x_12) (lv' := [(6, .int x_12), (7, .int x_8), (0, .ref h0), (1, .ref b0), (2, .int a1), (3, .int a2), (4, .int y4_13), (5, .int y5_13)]) hx hb dX12_goersOf_84 hl (k := 7) rfl (by rw [ex_12]; rfl) (by decide) rfl (fun ls hl => ?_)
            refine lv_goto (tgt := 13) hx hb dX12_goersOf_87 (by decide) ?_
            exact ih_13 H locs G_13 y4_13 y5_13 x_12 ls fr_13 (rg_w rx_12 (by decide) (by decide)) hi0_13 hi1_13 hi2_13 (by have h1 := qx_12; have h2 := r_3.1; have h3 := r_3.2; have h4 := hm_13; omega) (lv_sub hl [2, 3, 4, 5, 6, 7, 0] rfl) hH hS
          · have r_13 : rgI (1) (23) x_8 := rg_w (rg_neR rx_8 rl_24 c_10) (by decide) (by decide)
            refine lv_aload_n hx hb dX12_goersOf_49 rfl (lv_at hl 2 rfl) ?_
            refine lv_iload hx hb dX12_goersOf_50 (lv_at hl 0 rfl) ?_
            refine vp_callSi (W.runS (As := [.ref b0, .int x_8]) (rest := []) ⟨hx, hb, hml, hown, hts⟩ (c_X12_childrenOf l g Ty G_13 b0 x_8 k_b0) (cwSx 2 hts hG (gwC mw_1576) mw_88 mw_1574 mw_1575 rfl rfl rfl hd_X12_childrenOf ⟨Nat.le_of_ble_eq_true rfl, Nat.le_of_ble_eq_true rfl⟩) ⟨PcH_blind, PcH_pre hK hH⟩ rfl rfl hl.1 rfl (lv_room (Nat.le_of_ble_eq_true rfl)) dX12_goersOf_52 ⟨Nat.zero_le _, Nat.zero_le _⟩) (fun x_14 hx_14 => ?_)
            have ex_15 : x_14 = F_X12_childrenOf (G.2.1 b0) x_8 := by rw [← (fr_13.2.1 b0 ⟨(ne_kd k_b0 hmk.2.2.2.1 (by decide)), trivial⟩)]; exact hx_14
            refine lv_if_ne (tgt := 84) hx hb dX12_goersOf_55 (by decide) (fun c_16 => ?_) (fun c_16 => ?_)
            · obtain ⟨x_17, ex_17⟩ : ∃ y : Int32, y = y6_13 + 1 := ⟨_, rfl⟩
              have rx_17 : rgI (1) (24) x_17 := by rw [ex_17]; exact rg_w (rg_add r_3 rl_1 (by decide) (by decide)) (by decide) (by decide)
              have qx_17 : x_17.toInt = (y6_13 : Int32).toInt + 1 := by rw [ex_17]; exact rg_addE r_3 rl_1 (by decide) (by decide)
              refine lv_iinc (v := x_17) (lv' := [(6, .int x_17), (7, .int x_8), (0, .ref h0), (1, .ref b0), (2, .int a1), (3, .int a2), (4, .int y4_13), (5, .int y5_13)]) hx hb dX12_goersOf_84 hl (k := 7) rfl (by rw [ex_17]; rfl) (by decide) rfl (fun ls hl => ?_)
              refine lv_goto (tgt := 13) hx hb dX12_goersOf_87 (by decide) ?_
              exact ih_13 H locs G_13 y4_13 y5_13 x_17 ls fr_13 (rg_w rx_17 (by decide) (by decide)) hi0_13 hi1_13 hi2_13 (by have h1 := qx_17; have h2 := r_3.1; have h3 := r_3.2; have h4 := hm_13; omega) (lv_sub hl [2, 3, 4, 5, 6, 7, 0] rfl) hH hS
            · have r_18 : rgI (0) (0) x_14 := rg_w (rg_eq rl_0 c_16) (by decide) (by decide)
              refine lv_iload hx hb dX12_goersOf_58 (lv_at hl 7 rfl) ?_
              refine lv_iload_n hx hb dX12_goersOf_60 rfl (lv_at hl 3 rfl) ?_
              refine lv_icmp_eq (tgt := 75) hx hb dX12_goersOf_61 (by decide) (fun c_19 => ?_) (fun c_19 => ?_)
              · refine lv_iload hx hb dX12_goersOf_75 (lv_at hl 6 rfl) ?_
                refine lv_iconst (v := 1) hx hb dX12_goersOf_77 (by decide) ?_
                refine lv_iload hx hb dX12_goersOf_78 (lv_at hl 0 rfl) ?_
                refine lv_ishl hx hb dX12_goersOf_80 ?_
                refine lv_topi (fun x_20 ex_20 => ?_)
                refine lv_ior hx hb dX12_goersOf_81 ?_
                refine lv_topi (fun x_21 ex_21 => ?_)
                refine lv_istore (lv' := [(5, .int x_21), (7, .int x_8), (0, .ref h0), (1, .ref b0), (2, .int a1), (3, .int a2), (4, .int y4_13), (6, .int y6_13)]) hx hb dX12_goersOf_82 hl (by decide) rfl (fun ls hl => ?_)
                obtain ⟨x_22, ex_22⟩ : ∃ y : Int32, y = y6_13 + 1 := ⟨_, rfl⟩
                have rx_22 : rgI (1) (24) x_22 := by rw [ex_22]; exact rg_w (rg_add r_3 rl_1 (by decide) (by decide)) (by decide) (by decide)
                have qx_22 : x_22.toInt = (y6_13 : Int32).toInt + 1 := by rw [ex_22]; exact rg_addE r_3 rl_1 (by decide) (by decide)
                refine lv_iinc (v := x_22) (lv' := [(6, .int x_22), (5, .int x_21), (7, .int x_8), (0, .ref h0), (1, .ref b0), (2, .int a1), (3, .int a2), (4, .int y4_13)]) hx hb dX12_goersOf_84 hl (k := 7) rfl (by rw [ex_22]; rfl) (by decide) rfl (fun ls hl => ?_)
                refine lv_goto (tgt := 13) hx hb dX12_goersOf_87 (by decide) ?_
                exact ih_13 H locs G_13 y4_13 x_21 x_22 ls fr_13 (rg_w rx_22 (by decide) (by decide)) hi0_13 hi1_13 (GB_s hi2_13 ex_9 c_10 (by rw [← ex_15]; exact c_16) ex_20 ex_21) (by have h1 := qx_22; have h2 := r_3.1; have h3 := r_3.2; have h4 := hm_13; omega) (lv_sub hl [3, 4, 5, 6, 7, 1, 0] rfl) hH hS
              · have th_23 : thr (G.2.1 b0) y6_13 := SB.th hi1_13 r_3 hb_7
                refine lv_aload_n hx hb dX12_goersOf_64 rfl (lv_at hl 1 rfl) ?_
                refine lv_aload_n hx hb dX12_goersOf_65 rfl (lv_at hl 2 rfl) ?_
                refine lv_iload hx hb dX12_goersOf_66 (lv_at hl 7 rfl) ?_
                refine lv_iload_n hx hb dX12_goersOf_68 rfl (lv_at hl 4 rfl) ?_
                obtain ⟨_, ⟨rfl, t_25, hk_26⟩, o_c_24⟩ := hH h0 _ k_h0
                refine va_calli (va_runV (As := [.ref b0, .int y6_13, .int a2]) (rest := []) ⟨hx, hb, hml, hown, hts⟩ (c_X12_isLet l g Ty G_13 H.size h0 b0 y6_13 a2 k_h0 k_b0 (rg_w r_3 (by decide) (by decide)) ρ (by rw [(fr_13.2.1 b0 ⟨(ne_kd k_b0 hmk.2.2.2.1 (by decide)), trivial⟩)]; exact hT) (by rw [(fr_13.2.1 b0 ⟨(ne_kd k_b0 hmk.2.2.2.1 (by decide)), trivial⟩)]; exact th_23) rl krl ((fr_13.2.2 111 (by decide)).trans hr1) (by rw [(fr_13.1 113 (by decide))]; exact hr3)) (cwV 3 hts (gwV mw_1570 mw_1572 mw_52 mw_88 mw_1573) rfl rfl rfl hv_X12_isLet ⟨Nat.le_of_ble_eq_true rfl, Nat.le_of_ble_eq_true rfl⟩) ⟨PcT_blind, hg_recv hK o_c_24 rfl, PcT_pre hK hH⟩ rfl rfl hl.1 rfl (lv_room (Nat.le_of_ble_eq_true rfl)) dX12_goersOf_69 ⟨Nat.zero_le _, Nat.zero_le _⟩) hS (fun q _ h => AF.mono hS.1 h) (fun q h => AF.mono hS.1 h) (fun x_27 ux_27 t H locs ht hvm hx_27 hB hz hk hS => ?_)
                obtain ⟨hx_27, fx_27⟩ := hx_27
                obtain ⟨eTx_27, eGx_27⟩ := fx_27
                obtain ⟨G_28, eG_28⟩ : ∃ z, z = ux_27.2 := ⟨_, rfl⟩
                rw [← eG_28] at eGx_27
                have fr_29 : FR [107, 108, 109, 110, 114] [(g.2.2 115)] [106] G G_28 := FR.tr fr_13 eGx_27 (by decide) (fun b h => ⟨h.1, trivial⟩) (by decide)
                have u_30 : G_28.1 113 = (G.1 113) := (eGx_27.1 113 (by decide)).trans (fr_13.1 113 (by decide))
                have w_31 : G_28.2.1 b0 = (G.2.1 b0) := (eGx_27.2.1 b0 ⟨(ne_kd k_b0 hmk.2.2.2.1 (by decide)), trivial⟩).trans (fr_13.2.1 b0 ⟨(ne_kd k_b0 hmk.2.2.2.1 (by decide)), trivial⟩)
                have w_32 : G_28.2.1 rl = (G.2.1 rl) := (eGx_27.2.1 rl ⟨(ne_kd krl hmk.2.2.2.1 (by decide)), trivial⟩).trans (fr_13.2.1 rl ⟨(ne_kd krl hmk.2.2.2.1 (by decide)), trivial⟩)
                have u_33 : G_28.2.2 111 = some rl := (eGx_27.2.2 111 (by decide)).trans ((fr_13.2.2 111 (by decide)).trans hr1)
                have hH : HT g Ty G_28 H := by rw [← ht, ← eTx_27, eG_28]; exact hB
                have rx_27 : rgI (0) (1) x_27 := hx_27.1
                refine lv_if_eq (tgt := 84) hx hb dX12_goersOf_72 (by decide) (fun c_34 => ?_) (fun c_34 => ?_)
                · have r_35 : rgI (0) (0) x_27 := rg_w (rg_eq rl_0 c_34) (by decide) (by decide)
                  obtain ⟨x_36, ex_36⟩ : ∃ y : Int32, y = y6_13 + 1 := ⟨_, rfl⟩
                  have rx_36 : rgI (1) (24) x_36 := by rw [ex_36]; exact rg_w (rg_add r_3 rl_1 (by decide) (by decide)) (by decide) (by decide)
                  have qx_36 : x_36.toInt = (y6_13 : Int32).toInt + 1 := by rw [ex_36]; exact rg_addE r_3 rl_1 (by decide) (by decide)
                  refine lv_iinc (v := x_36) (lv' := [(6, .int x_36), (7, .int x_8), (0, .ref h0), (1, .ref b0), (2, .int a1), (3, .int a2), (4, .int y4_13), (5, .int y5_13)]) hx hb dX12_goersOf_84 hl (k := 7) rfl (by rw [ex_36]; rfl) (by decide) rfl (fun ls hl => ?_)
                  refine lv_goto (tgt := 13) hx hb dX12_goersOf_87 (by decide) ?_
                  exact ih_13 H locs G_28 y4_13 y5_13 x_36 ls fr_29 (rg_w rx_36 (by decide) (by decide)) hi0_13 hi1_13 hi2_13 (by have h1 := qx_36; have h2 := r_3.1; have h3 := r_3.2; have h4 := hm_13; omega) (lv_sub hl [2, 3, 4, 5, 6, 7, 0] rfl) hH hS
                · have r_37 : rgI (1) (1) x_27 := rg_w (rg_neL rx_27 rl_0 c_34) (by decide) (by decide)
                  refine lv_iload hx hb dX12_goersOf_75 (lv_at hl 6 rfl) ?_
                  refine lv_iconst (v := 1) hx hb dX12_goersOf_77 (by decide) ?_
                  refine lv_iload hx hb dX12_goersOf_78 (lv_at hl 0 rfl) ?_
                  refine lv_ishl hx hb dX12_goersOf_80 ?_
                  refine lv_topi (fun x_38 ex_38 => ?_)
                  refine lv_ior hx hb dX12_goersOf_81 ?_
                  refine lv_topi (fun x_39 ex_39 => ?_)
                  refine lv_istore (lv' := [(5, .int x_39), (7, .int x_8), (0, .ref h0), (1, .ref b0), (2, .int a1), (3, .int a2), (4, .int y4_13), (6, .int y6_13)]) hx hb dX12_goersOf_82 hl (by decide) rfl (fun ls hl => ?_)
                  obtain ⟨x_40, ex_40⟩ : ∃ y : Int32, y = y6_13 + 1 := ⟨_, rfl⟩
                  have rx_40 : rgI (1) (24) x_40 := by rw [ex_40]; exact rg_w (rg_add r_3 rl_1 (by decide) (by decide)) (by decide) (by decide)
                  have qx_40 : x_40.toInt = (y6_13 : Int32).toInt + 1 := by rw [ex_40]; exact rg_addE r_3 rl_1 (by decide) (by decide)
                  refine lv_iinc (v := x_40) (lv' := [(6, .int x_40), (5, .int x_39), (7, .int x_8), (0, .ref h0), (1, .ref b0), (2, .int a1), (3, .int a2), (4, .int y4_13)]) hx hb dX12_goersOf_84 hl (k := 7) rfl (by rw [ex_40]; rfl) (by decide) rfl (fun ls hl => ?_)
                  refine lv_goto (tgt := 13) hx hb dX12_goersOf_87 (by decide) ?_
                  exact ih_13 H locs G_28 y4_13 x_39 x_40 ls fr_29 (rg_w rx_40 (by decide) (by decide)) hi0_13 hi1_13 (GB_s hi2_13 ex_9 c_10 (by rw [← ex_15]; exact c_16) ex_38 ex_39) (by have h1 := qx_40; have h2 := r_3.1; have h3 := r_3.2; have h4 := hm_13; omega) (lv_sub hl [3, 4, 5, 6, 7, 1, 0] rfl) hH hS
        · have r_41 : rgI (0) (0) x_4 := rg_w (rg_eq rl_0 c_5) (by decide) (by decide)
          have hb_42 : bt y4_13 (y6_13 : Int32).toNatClampNeg = false := has_0 (rg_w r_3 (by decide) (by decide)) (by rw [← hx_4.2]; exact c_5)
          refine lv_goto (tgt := 84) hx hb dX12_goersOf_30 (by decide) ?_
          obtain ⟨x_43, ex_43⟩ : ∃ y : Int32, y = y6_13 + 1 := ⟨_, rfl⟩
          have rx_43 : rgI (1) (24) x_43 := by rw [ex_43]; exact rg_w (rg_add r_3 rl_1 (by decide) (by decide)) (by decide) (by decide)
          have qx_43 : x_43.toInt = (y6_13 : Int32).toInt + 1 := by rw [ex_43]; exact rg_addE r_3 rl_1 (by decide) (by decide)
          refine lv_iinc (v := x_43) (lv' := [(6, .int x_43), (0, .ref h0), (1, .ref b0), (2, .int a1), (3, .int a2), (4, .int y4_13), (5, .int y5_13)]) hx hb dX12_goersOf_84 hl (k := 6) rfl (by rw [ex_43]; rfl) (by decide) rfl (fun ls hl => ?_)
          refine lv_goto (tgt := 13) hx hb dX12_goersOf_87 (by decide) ?_
          exact ih_13 H locs G_13 y4_13 y5_13 x_43 ls fr_13 (rg_w rx_43 (by decide) (by decide)) hi0_13 hi1_13 hi2_13 (by have h1 := qx_43; have h2 := r_3.1; have h3 := r_3.2; have h4 := hm_13; omega) (lv_sub hl [1, 2, 3, 4, 5, 6, 0] rfl) hH hS
  refine lv_aload_n hx hb dX12_goersOf_0 rfl (lv_at hl 1 rfl) ?_
  refine lv_iload_n hx hb dX12_goersOf_1 rfl (lv_at hl 2 rfl) ?_
  refine vp_callSi (W.runS (As := [.ref b0, .int a1]) (rest := []) ⟨hx, hb, hml, hown, hts⟩ (c_X12_spreadOf l g Ty G b0 a1 k_b0 hm0) (cwSx 2 hts hG (gwC mw_1560) mw_88 mw_1558 mw_1559 rfl rfl rfl hd_X12_spreadOf ⟨Nat.le_of_ble_eq_true rfl, Nat.le_of_ble_eq_true rfl⟩) ⟨PcH_blind, PcH_pre hK hH⟩ rfl rfl hl.1 rfl (lv_room (Nat.le_of_ble_eq_true rfl)) dX12_goersOf_2 ⟨Nat.zero_le _, Nat.zero_le _⟩) (fun x_44 hx_44 => ?_)
  refine lv_istore (lv' := [(4, .int x_44), (0, .ref h0), (1, .ref b0), (2, .int a1), (3, .int a2)]) hx hb dX12_goersOf_5 hl (by decide) rfl (fun ls hl => ?_)
  refine lv_iconst (v := 0) hx hb dX12_goersOf_7 (by decide) ?_
  refine lv_istore (lv' := [(5, .int 0), (4, .int x_44), (0, .ref h0), (1, .ref b0), (2, .int a1), (3, .int a2)]) hx hb dX12_goersOf_8 hl (by decide) rfl (fun ls hl => ?_)
  refine lv_iconst (v := 0) hx hb dX12_goersOf_10 (by decide) ?_
  refine lv_istore (lv' := [(6, .int 0), (5, .int 0), (4, .int x_44), (0, .ref h0), (1, .ref b0), (2, .int a1), (3, .int a2)]) hx hb dX12_goersOf_11 hl (by decide) rfl (fun ls hl => ?_)
  exact L_13 _ s.heap [] G x_44 0 0 ls FR.rf (rg_w rl_0 (by decide) (by decide)) hx_44.2 hx_44.1 GB_0 (Nat.lt_succ_self _) (lv_sub hl [3, 4, 5, 6, 2, 1, 0] rfl) hH hS

set_option maxHeartbeats 4000000 in
set_option maxRecDepth 100000 in
theorem c_X12_goUnmount (l : Launch) (g : Gx) (Ty : TyM) (G : Gh) (sz : Nat) (h0 : Nat) (b0 : Nat) (a1 : Int32) (a2 : Int32) (k_h0 : Ty h0 = some (22, 0)) (k_b0 : Ty b0 = some (30, 122)) (pr1 : rgI (0) (23) a1) (Bd : Int) (hTI : TI Bd (G.2.1 b0)) (hm0 : thr (G.2.1 b0) a1) (rl : Nat) (krl : Ty rl = some (31, 40)) (hr1 : G.2.2 111 = some rl) (hr3 : rgI 0 40 (G.1 113)) : Met l yX12_goUnmount (wsG yX12_goUnmount cX12_goUnmount 7 (some .int)) ({ frames := 340, cells := 0, slots := 0, locals := 7971 }) (PcT g Ty G sz [.ref h0, .ref b0, .int a1, .int a2]) (QwI g Ty sz (fun r u => u.1 = Ty ∧ FR [107, 108, 109, 110, 114] [b0, (g.2.2 115)] [106] G u.2 ∧ TI Bd (u.2.2.1 b0))) 0 0 (AF Ty sz) := by
  refine Met.ofW (cc := cX12_goUnmount) (maxL := 7) (ret := (some .int)) (by decide) rfl ?_
  intro p e s m args below meth c s₁ B hml hv
  obtain ⟨rfl, hsz, hK, hH⟩ := hv
  subst hsz
  have hx := B.exec
  have hb := B.bytes
  have hr := B.returns
  have hts := atoms_spec (ws := (wsG yX12_goUnmount cX12_goUnmount 7 (some .int))) B.pre
  have hG : ∀ w ∈ GW, w.before ([.ref h0, .ref b0, .int a1, .int a2] : List Value).toArray s = true := fun w h => hts w (List.mem_cons_of_mem _ h)
  have hown : s.vm.findClass RX12 = some m.cls := findClass_of_methodNamed B.named
  have hlocks := B.notSynchronized
  have hl := lv_entry [.ref h0, .ref b0, .int a1, .int a2] (n := 7) (Nat.le_of_ble_eq_true rfl)
  rw [lg_entry_eq]
  generalize (lg_sl [.ref h0, .ref b0, .int a1, .int a2] ++ List.replicate (7 - (lg_sl [.ref h0, .ref b0, .int a1, .int a2]).length) Slot.unset).toArray = ls at hl ⊢
  have hl : lv_has ls 7 [(0, .ref h0), (1, .ref b0), (2, .int a1), (3, .int a2)] := hl
  have hmk : mdK g Ty := mdk_of hH k_h0
  have hS : va_S (AF Ty s.heap.size) s.heap s.heap [] := va_S.rf
  obtain ⟨⟨σ0, hTS0⟩, h1, hBB⟩ := id hTI
  obtain ⟨ρ, hT⟩ := hTS0.1
  have L_12 : ∀ (n : Nat) (H : Heap) (locs : List Loc) (G_12 : Gh) (fl0_12 : Nat → Int32) (y4_12 : Int32) (y5_12 : Int32) (ls : Array Slot), FR [107, 108, 109, 110, 114] [b0, (g.2.2 115)] [106] G G_12 → G_12.2.1 b0 = fl0_12 → rgI (0) (24) y5_12 → GB (G.2.1 b0) y4_12 → UM (G.2.1 b0) fl0_12 → (24 - (y5_12).toInt).toNat < n → lv_has ls 7 [(1, .ref b0), (3, .int a2), (4, .int y4_12), (5, .int y5_12)] → HT g Ty G_12 H → va_S (AF Ty s.heap.size) s.heap H locs → Wm p l e (wsG yX12_goUnmount cX12_goUnmount 7 (some .int)) ({ frames := 340, cells := 0, slots := 0, locals := 7971 }) s m [.ref h0, .ref b0, .int a1, .int a2] below meth c H locs (0) (0) (QwI g Ty s.heap.size (fun r u => u.1 = Ty ∧ FR [107, 108, 109, 110, 114] [b0, (g.2.2 115)] [106] G u.2 ∧ TI Bd (u.2.2.1 b0))) 0 0 (AF Ty s.heap.size) (F0 m 12 ls []) := by
    intro n
    induction n with
    | zero => intro H locs G_12 fl0_12 y4_12 y5_12 ls fr_12 efl0_12 ry5_12 hi0_12 hi1_12 hm; exact absurd hm (Nat.not_lt_zero _)
    | succ n ih_12 =>
      intro H locs G_12 fl0_12 y4_12 y5_12 ls fr_12 efl0_12 ry5_12 hi0_12 hi1_12 hm_12 hl hH hS
      refine lv_iload hx hb dX12_goUnmount_12 (lv_at hl 3 rfl) ?_
      refine lv_bipush (v := 24) hx hb dX12_goUnmount_14 (by decide) ?_
      refine lv_icmp_ge (tgt := 80) hx hb dX12_goUnmount_16 (by decide) (fun c_1 => ?_) (fun c_1 => ?_)
      · have r_2 : rgI (24) (24) y5_12 := rg_w (rg_leR rl_24 ry5_12 c_1) (by decide) (by decide)
        refine lv_aload_n hx hb dX12_goUnmount_80 rfl (lv_at hl 0 rfl) ?_
        refine lv_bipush (v := 120) hx hb dX12_goUnmount_81 (by decide) ?_
        refine lv_dup2_11 hx hb dX12_goUnmount_83 rfl rfl ?_
        obtain ⟨_, rfl, o_c_3⟩ := hH b0 _ k_b0
        have o_c_3 : va_at g.1 vwCl (b0, .inl (g.2.1 1, 122, .inl (G_12.2.1 b0))) H := o_c_3
        refine hg_iald hx hb hK o_c_3 (rg_in (n := 122) rl_120 (by decide) (by decide)) dX12_goUnmount_84 ?_
        rw [efl0_12]
        refine lv_topi (fun x_4 ex_4 => ?_)
        refine lv_iconst (v := 1) hx hb dX12_goUnmount_85 (by decide) ?_
        refine lv_iadd hx hb dX12_goUnmount_86 ?_
        refine lv_topi (fun x_5 ex_5 => ?_)
        refine hg_iast hx hb hK hS o_c_3 (AF.of k_b0) (rg_in (n := 122) rl_120 (by decide) (by decide)) dX12_goUnmount_87 (fun H locs o_c_3 hz oq hS => ?_)
        obtain ⟨G_6, eG_6⟩ : ∃ z : Gh, z = aset G_12 b0 (upd (G_12.2.1 b0) (120 : Int32).toNatClampNeg x_5) := ⟨_, rfl⟩
        have hH : HT g Ty G_6 H := by rw [eG_6]; exact HT.putA (upd (G_12.2.1 b0) (120 : Int32).toNatClampNeg x_5) hH k_b0 cf30 o_c_3 oq
        obtain ⟨f_7, ef_7⟩ : ∃ z : Nat → Int32, z = (upd fl0_12 (120 : Int32).toNatClampNeg x_5) := ⟨_, rfl⟩
        have eaf_7 : G_6 = aset G_12 b0 f_7 := by rw [eG_6, ef_7, efl0_12]
        have fr_8 : FR [107, 108, 109, 110, 114] [b0, (g.2.2 115)] [106] G G_6 := FR.a fr_12 eaf_7 (fun b h => h.1)
        have u_9 : G_6.1 113 = (G.1 113) := by rw [eaf_7]; exact (fr_12.1 113 (by decide))
        have w_10 : G_6.2.1 b0 = f_7 := by rw [eaf_7]; exact aset_eq
        have w_11 : G_6.2.1 rl = (G.2.1 rl) := by rw [eaf_7]; exact (aset_ne (ne_kd krl k_b0 (by decide))).trans (fr_12.2.1 rl ⟨(ne_kd krl k_b0 (by decide)), (ne_kd krl hmk.2.2.2.1 (by decide)), trivial⟩)
        have u_12 : G_6.2.2 111 = some rl := by rw [eaf_7]; exact ((fr_12.2.2 111 (by decide)).trans hr1)
        clear oq hz
        refine lv_iload hx hb dX12_goUnmount_88 (lv_at hl 2 rfl) ?_
        exact W.iret hx hb hr (fun t ht hWm => ⟨⟨y4_12, (Ty, G_6), rfl, ⟨rfl, ⟨fr_8, (by rw [w_10]; exact UM_end hi1_12 hTI ef_7)⟩⟩, by show HT g Ty G_6 t.heap; rw [ht]; exact hH⟩, hS.F ht⟩) hS.2.2 dX12_goUnmount_90
      · have r_13 : rgI (0) (23) y5_12 := rg_w (rg_ltL ry5_12 rl_24 (nle_lt c_1)) (by decide) (by decide)
        refine lv_aload_n hx hb dX12_goUnmount_19 rfl (lv_at hl 0 rfl) ?_
        refine lv_iload hx hb dX12_goUnmount_20 (lv_at hl 3 rfl) ?_
        refine vp_callSi (W.runS (As := [.ref b0, .int y5_12]) (rest := []) ⟨hx, hb, hml, hown, hts⟩ (c_X12_isThere l g Ty G_12 b0 y5_12 k_b0) (cwSx 2 hts hG (gwC mw_1520) mw_88 mw_1518 mw_1519 rfl rfl rfl hd_X12_isThere ⟨Nat.le_of_ble_eq_true rfl, Nat.le_of_ble_eq_true rfl⟩) ⟨PcH_blind, PcH_pre hK hH⟩ rfl rfl hl.1 rfl (lv_room (Nat.le_of_ble_eq_true rfl)) dX12_goUnmount_22 ⟨Nat.zero_le _, Nat.zero_le _⟩) (fun x_14 hx_14 => ?_)
        have rx_14 : rgI (0) (1) x_14 := hx_14.1
        have ex_15 : x_14 = F_X12_isThere fl0_12 y5_12 := by rw [← efl0_12]; exact hx_14.2.2
        refine lv_if_eq (tgt := 38) hx hb dX12_goUnmount_25 (by decide) (fun c_16 => ?_) (fun c_16 => ?_)
        · have r_17 : rgI (0) (0) x_14 := rg_w (rg_eq rl_0 c_16) (by decide) (by decide)
          refine lv_bipush (v := 24) hx hb dX12_goUnmount_38 (by decide) ?_
          refine lv_istore (lv' := [(6, .int 24), (1, .ref b0), (3, .int a2), (4, .int y4_12), (5, .int y5_12)]) hx hb dX12_goUnmount_40 hl (by decide) rfl (fun ls hl => ?_)
          refine lv_iload hx hb dX12_goUnmount_42 (lv_at hl 0 rfl) ?_
          refine lv_bipush (v := 24) hx hb dX12_goUnmount_44 (by decide) ?_
          refine lv_icmp_eq (tgt := 74) hx hb dX12_goUnmount_46 (by decide) (fun c_18 => ?_) (fun c_18 => ?_)
          · obtain ⟨x_19, ex_19⟩ : ∃ y : Int32, y = y5_12 + 1 := ⟨_, rfl⟩
            have rx_19 : rgI (1) (24) x_19 := by rw [ex_19]; exact rg_w (rg_add r_13 rl_1 (by decide) (by decide)) (by decide) (by decide)
            have qx_19 : x_19.toInt = (y5_12 : Int32).toInt + 1 := by rw [ex_19]; exact rg_addE r_13 rl_1 (by decide) (by decide)
            refine lv_iinc (v := x_19) (lv' := [(5, .int x_19), (6, .int 24), (1, .ref b0), (3, .int a2), (4, .int y4_12)]) hx hb dX12_goUnmount_74 hl (k := 4) rfl (by rw [ex_19]; rfl) (by decide) rfl (fun ls hl => ?_)
            refine lv_goto (tgt := 12) hx hb dX12_goUnmount_77 (by decide) ?_
            exact ih_12 H locs G_12 fl0_12 y4_12 x_19 ls fr_12 efl0_12 (rg_w rx_19 (by decide) (by decide)) hi0_12 hi1_12 (by have h1 := qx_19; have h2 := r_13.1; have h3 := r_13.2; have h4 := hm_12; omega) (lv_sub hl [2, 3, 4, 0] rfl) hH hS
          · exact absurd rfl c_18
        · have th_20 : thr fl0_12 y5_12 := F_isThere_thr (by rw [← ex_15]; exact c_16)
          have r_21 : rgI (1) (1) x_14 := rg_w (rg_neL rx_14 rl_0 c_16) (by decide) (by decide)
          refine lv_aload_n hx hb dX12_goUnmount_28 rfl (lv_at hl 0 rfl) ?_
          refine lv_iload hx hb dX12_goUnmount_29 (lv_at hl 3 rfl) ?_
          refine lv_iload_n hx hb dX12_goUnmount_31 rfl (lv_at hl 1 rfl) ?_
          refine vp_callSi (W.runS (As := [.ref b0, .int y5_12, .int a2]) (rest := []) ⟨hx, hb, hml, hown, hts⟩ (c_X12_atOf l g Ty G_12 b0 y5_12 a2 k_b0) (cwSx 3 hts hG (gwC mw_1509) mw_88 mw_1507 mw_1508 rfl rfl rfl hd_X12_atOf ⟨Nat.le_of_ble_eq_true rfl, Nat.le_of_ble_eq_true rfl⟩) ⟨PcH_blind, PcH_pre hK hH⟩ rfl rfl hl.1 rfl (lv_room (Nat.le_of_ble_eq_true rfl)) dX12_goUnmount_32 ⟨Nat.zero_le _, Nat.zero_le _⟩) (fun x_22 hx_22 => ?_)
          have rx_22 : rgI (1) (24) x_22 := hx_22.1
          have ex_23 : x_22 = F_X12_atOf fl0_12 y5_12 a2 := by rw [← efl0_12]; exact hx_22.2
          refine lv_goto (tgt := 40) hx hb dX12_goUnmount_35 (by decide) ?_
          refine lv_istore (lv' := [(6, .int x_22), (1, .ref b0), (3, .int a2), (4, .int y4_12), (5, .int y5_12)]) hx hb dX12_goUnmount_40 hl (by decide) rfl (fun ls hl => ?_)
          refine lv_iload hx hb dX12_goUnmount_42 (lv_at hl 0 rfl) ?_
          refine lv_bipush (v := 24) hx hb dX12_goUnmount_44 (by decide) ?_
          refine lv_icmp_eq (tgt := 74) hx hb dX12_goUnmount_46 (by decide) (fun c_24 => ?_) (fun c_24 => ?_)
          · have r_25 : rgI (24) (24) x_22 := rg_w (rg_eq rl_24 c_24) (by decide) (by decide)
            obtain ⟨x_26, ex_26⟩ : ∃ y : Int32, y = y5_12 + 1 := ⟨_, rfl⟩
            have rx_26 : rgI (1) (24) x_26 := by rw [ex_26]; exact rg_w (rg_add r_13 rl_1 (by decide) (by decide)) (by decide) (by decide)
            have qx_26 : x_26.toInt = (y5_12 : Int32).toInt + 1 := by rw [ex_26]; exact rg_addE r_13 rl_1 (by decide) (by decide)
            refine lv_iinc (v := x_26) (lv' := [(5, .int x_26), (6, .int x_22), (1, .ref b0), (3, .int a2), (4, .int y4_12)]) hx hb dX12_goUnmount_74 hl (k := 4) rfl (by rw [ex_26]; rfl) (by decide) rfl (fun ls hl => ?_)
            refine lv_goto (tgt := 12) hx hb dX12_goUnmount_77 (by decide) ?_
            exact ih_12 H locs G_12 fl0_12 y4_12 x_26 ls fr_12 efl0_12 (rg_w rx_26 (by decide) (by decide)) hi0_12 hi1_12 (by have h1 := qx_26; have h2 := r_13.1; have h3 := r_13.2; have h4 := hm_12; omega) (lv_sub hl [2, 3, 4, 0] rfl) hH hS
          · have r_27 : rgI (1) (23) x_22 := rg_w (rg_neR rx_22 rl_24 c_24) (by decide) (by decide)
            refine lv_iload hx hb dX12_goUnmount_49 (lv_at hl 3 rfl) ?_
            refine lv_iload hx hb dX12_goUnmount_51 (lv_at hl 0 rfl) ?_
            refine vp_callSi (W.runS (As := [.int y4_12, .int x_22]) (rest := []) ⟨hx, hb, hml, hown, hts⟩ (c_X12_has l g Ty G_12 y4_12 x_22 ) (cwSx 2 hts hG (gwC mw_1563) mw_88 mw_1561 mw_1562 rfl rfl rfl hd_X12_has ⟨Nat.le_of_ble_eq_true rfl, Nat.le_of_ble_eq_true rfl⟩) ⟨PcH_blind, PcH_pre hK hH⟩ rfl rfl hl.1 rfl (lv_room (Nat.le_of_ble_eq_true rfl)) dX12_goUnmount_53 ⟨Nat.zero_le _, Nat.zero_le _⟩) (fun x_28 hx_28 => ?_)
            have rx_28 : rgI (0) (1) x_28 := hx_28.1
            refine lv_if_ne (tgt := 62) hx hb dX12_goUnmount_56 (by decide) (fun c_29 => ?_) (fun c_29 => ?_)
            · have r_30 : rgI (1) (1) x_28 := rg_w (rg_neL rx_28 rl_0 c_29) (by decide) (by decide)
              have hb_31 : bt y4_12 (x_22 : Int32).toNatClampNeg = true := has_1 (rg_w r_27 (by decide) (by decide)) (by rw [← hx_28.2]; exact c_29)
              have kt_32 : ¬ fl0_12 (x_22 : Int32).toNatClampNeg = -1 := by rw [(atOf_is ex_23 c_24).2.1]; exact thr_ne th_20
              refine lv_aload_n hx hb dX12_goUnmount_62 rfl (lv_at hl 1 rfl) ?_
              refine lv_iload hx hb dX12_goUnmount_63 (lv_at hl 0 rfl) ?_
              refine va_callv (va_runS (As := [.ref b0, .int x_22]) (rest := []) ⟨hx, hb, hml, hown, hts⟩ (c_X12_goOut l g Ty G_12 H.size b0 x_22 k_b0 (rg_w r_27 (by decide) (by decide))) (cwSx 2 hts hG (gwC mw_1648) mw_88 mw_1646 mw_1647 rfl rfl rfl hd_X12_goOut ⟨Nat.le_of_ble_eq_true rfl, Nat.le_of_ble_eq_true rfl⟩) ⟨PcT_blind, PcT_pre hK hH⟩ rfl rfl hl.1 rfl (lv_room (Nat.le_of_ble_eq_true rfl)) dX12_goUnmount_65 ⟨Nat.zero_le _, Nat.zero_le _⟩) hS (fun q _ h => AF.mono hS.1 h) (fun q h => AF.mono hS.1 h) (fun ux_33 t H locs ht hvm hx_33 hB hz hk hS => ?_)
              obtain ⟨eTx_33, eGx_33⟩ := hx_33
              obtain ⟨G_34, eG_34⟩ : ∃ z, z = ux_33.2 := ⟨_, rfl⟩
              rw [← eG_34] at eGx_33
              have hg_36 := eGx_33
              rw [efl0_12] at hg_36
              obtain ⟨f_35, ef_35⟩ : ∃ z : Nat → Int32, z = F_X12_goOut fl0_12 x_22 := ⟨_, rfl⟩
              rw [← ef_35] at hg_36
              have fr_37 : FR [107, 108, 109, 110, 114] [b0, (g.2.2 115)] [106] G G_34 := FR.a fr_12 hg_36 (fun b h => h.1)
              have u_38 : G_34.1 113 = (G.1 113) := by rw [hg_36]; exact (fr_12.1 113 (by decide))
              have w_39 : G_34.2.1 b0 = f_35 := by rw [hg_36]; exact aset_eq
              have w_40 : G_34.2.1 rl = (G.2.1 rl) := by rw [hg_36]; exact (aset_ne (ne_kd krl k_b0 (by decide))).trans (fr_12.2.1 rl ⟨(ne_kd krl k_b0 (by decide)), (ne_kd krl hmk.2.2.2.1 (by decide)), trivial⟩)
              have u_41 : G_34.2.2 111 = some rl := by rw [hg_36]; exact ((fr_12.2.2 111 (by decide)).trans hr1)
              have hH : HT g Ty G_34 H := by rw [← ht, ← eTx_33, eG_34]; exact hB
              refine lv_aload_n hx hb dX12_goUnmount_68 rfl (lv_at hl 1 rfl) ?_
              refine lv_iload hx hb dX12_goUnmount_69 (lv_at hl 0 rfl) ?_
              refine va_callv (va_runS (As := [.ref b0, .int x_22]) (rest := []) ⟨hx, hb, hml, hown, hts⟩ (c_X12_clear l g Ty G_34 H.size b0 x_22 k_b0 (rg_w r_27 (by decide) (by decide))) (cwSx 2 hts hG (gwC mw_1666) mw_88 mw_1664 mw_1665 rfl rfl rfl hd_X12_clear ⟨Nat.le_of_ble_eq_true rfl, Nat.le_of_ble_eq_true rfl⟩) ⟨PcT_blind, PcT_pre hK hH⟩ rfl rfl hl.1 rfl (lv_room (Nat.le_of_ble_eq_true rfl)) dX12_goUnmount_71 ⟨Nat.zero_le _, Nat.zero_le _⟩) hS (fun q _ h => AF.mono hS.1 h) (fun q h => AF.mono hS.1 h) (fun ux_42 t H locs ht hvm hx_42 hB hz hk hS => ?_)
              obtain ⟨eTx_42, eGx_42⟩ := hx_42
              obtain ⟨G_43, eG_43⟩ : ∃ z, z = ux_42.2 := ⟨_, rfl⟩
              rw [← eG_43] at eGx_42
              have hg_45 := eGx_42
              rw [w_39] at hg_45
              obtain ⟨f_44, ef_44⟩ : ∃ z : Nat → Int32, z = F_X12_clear f_35 x_22 := ⟨_, rfl⟩
              rw [← ef_44] at hg_45
              have fr_46 : FR [107, 108, 109, 110, 114] [b0, (g.2.2 115)] [106] G G_43 := FR.a fr_37 hg_45 (fun b h => h.1)
              have u_47 : G_43.1 113 = (G.1 113) := by rw [hg_45]; exact u_38
              have w_48 : G_43.2.1 b0 = f_44 := by rw [hg_45]; exact aset_eq
              have w_49 : G_43.2.1 rl = (G.2.1 rl) := by rw [hg_45]; exact (aset_ne (ne_kd krl k_b0 (by decide))).trans w_40
              have u_50 : G_43.2.2 111 = some rl := by rw [hg_45]; exact u_41
              have hH : HT g Ty G_43 H := by rw [← ht, ← eTx_42, eG_43]; exact hB
              obtain ⟨x_51, ex_51⟩ : ∃ y : Int32, y = y5_12 + 1 := ⟨_, rfl⟩
              have rx_51 : rgI (1) (24) x_51 := by rw [ex_51]; exact rg_w (rg_add r_13 rl_1 (by decide) (by decide)) (by decide) (by decide)
              have qx_51 : x_51.toInt = (y5_12 : Int32).toInt + 1 := by rw [ex_51]; exact rg_addE r_13 rl_1 (by decide) (by decide)
              refine lv_iinc (v := x_51) (lv' := [(5, .int x_51), (6, .int x_22), (1, .ref b0), (3, .int a2), (4, .int y4_12)]) hx hb dX12_goUnmount_74 hl (k := 4) rfl (by rw [ex_51]; rfl) (by decide) rfl (fun ls hl => ?_)
              refine lv_goto (tgt := 12) hx hb dX12_goUnmount_77 (by decide) ?_
              exact ih_12 H locs G_43 f_44 y4_12 x_51 ls fr_46 w_48 (rg_w rx_51 (by decide) (by decide)) hi0_12 (UM_step hi1_12 hi0_12 h1 (atOf_is ex_23 c_24).1 hb_31 kt_32 ef_35 ef_44) (by have h1 := qx_51; have h2 := r_13.1; have h3 := r_13.2; have h4 := hm_12; omega) (lv_sub hl [2, 3, 4, 0] rfl) hH hS
            · have r_52 : rgI (0) (0) x_28 := rg_w (rg_eq rl_0 c_29) (by decide) (by decide)
              have hb_53 : bt y4_12 (x_22 : Int32).toNatClampNeg = false := has_0 (rg_w r_27 (by decide) (by decide)) (by rw [← hx_28.2]; exact c_29)
              refine lv_goto (tgt := 74) hx hb dX12_goUnmount_59 (by decide) ?_
              obtain ⟨x_54, ex_54⟩ : ∃ y : Int32, y = y5_12 + 1 := ⟨_, rfl⟩
              have rx_54 : rgI (1) (24) x_54 := by rw [ex_54]; exact rg_w (rg_add r_13 rl_1 (by decide) (by decide)) (by decide) (by decide)
              have qx_54 : x_54.toInt = (y5_12 : Int32).toInt + 1 := by rw [ex_54]; exact rg_addE r_13 rl_1 (by decide) (by decide)
              refine lv_iinc (v := x_54) (lv' := [(5, .int x_54), (6, .int x_22), (1, .ref b0), (3, .int a2), (4, .int y4_12)]) hx hb dX12_goUnmount_74 hl (k := 4) rfl (by rw [ex_54]; rfl) (by decide) rfl (fun ls hl => ?_)
              refine lv_goto (tgt := 12) hx hb dX12_goUnmount_77 (by decide) ?_
              exact ih_12 H locs G_12 fl0_12 y4_12 x_54 ls fr_12 efl0_12 (rg_w rx_54 (by decide) (by decide)) hi0_12 hi1_12 (by have h1 := qx_54; have h2 := r_13.1; have h3 := r_13.2; have h4 := hm_12; omega) (lv_sub hl [2, 3, 4, 0] rfl) hH hS
  refine lv_aload_n hx hb dX12_goUnmount_0 rfl (lv_at hl 0 rfl) ?_
  refine lv_aload_n hx hb dX12_goUnmount_1 rfl (lv_at hl 1 rfl) ?_
  refine lv_iload_n hx hb dX12_goUnmount_2 rfl (lv_at hl 2 rfl) ?_
  refine lv_iload_n hx hb dX12_goUnmount_3 rfl (lv_at hl 3 rfl) ?_
  obtain ⟨_, ⟨rfl, t_56, hk_57⟩, o_c_55⟩ := hH h0 _ k_h0
  refine va_calli (va_runV (As := [.ref b0, .int a1, .int a2]) (rest := []) ⟨hx, hb, hml, hown, hts⟩ (c_X12_goersOf l g Ty G s.heap.size h0 b0 a1 a2 k_h0 k_b0 ρ hT hm0 rl krl hr1 hr3) (cwV 3 hts (gwV mw_1660 mw_1662 mw_63 mw_88 mw_1663) rfl rfl rfl hv_X12_goersOf ⟨Nat.le_of_ble_eq_true rfl, Nat.le_of_ble_eq_true rfl⟩) ⟨PcT_blind, hg_recv hK o_c_55 rfl, PcT_pre hK hH⟩ rfl rfl hl.1 rfl (lv_room (Nat.le_of_ble_eq_true rfl)) dX12_goUnmount_4 ⟨Nat.zero_le _, Nat.zero_le _⟩) hS (fun q _ h => AF.mono hS.1 h) (fun q h => AF.mono hS.1 h) (fun x_58 ux_58 t H locs ht hvm hx_58 hB hz hk hS => ?_)
  obtain ⟨hx_58, fx_58⟩ := hx_58
  obtain ⟨eTx_58, eGx_58⟩ := fx_58
  obtain ⟨G_59, eG_59⟩ : ∃ z, z = ux_58.2 := ⟨_, rfl⟩
  rw [← eG_59] at eGx_58
  have fr_60 : FR [107, 108, 109, 110, 114] [b0, (g.2.2 115)] [106] G G_59 := FR.tr FR.rf eGx_58 (by decide) (fun b h => ⟨h.2.1, trivial⟩) (by decide)
  have u_61 : G_59.1 113 = (G.1 113) := (eGx_58.1 113 (by decide))
  have w_62 : G_59.2.1 b0 = (G.2.1 b0) := (eGx_58.2.1 b0 ⟨(ne_kd k_b0 hmk.2.2.2.1 (by decide)), trivial⟩)
  have w_63 : G_59.2.1 rl = (G.2.1 rl) := (eGx_58.2.1 rl ⟨(ne_kd krl hmk.2.2.2.1 (by decide)), trivial⟩)
  have u_64 : G_59.2.2 111 = some rl := (eGx_58.2.2 111 (by decide)).trans hr1
  have hH : HT g Ty G_59 H := by rw [← ht, ← eTx_58, eG_59]; exact hB
  refine lv_istore (lv' := [(4, .int x_58), (0, .ref h0), (1, .ref b0), (2, .int a1), (3, .int a2)]) hx hb dX12_goUnmount_7 hl (by decide) rfl (fun ls hl => ?_)
  refine lv_iconst (v := 0) hx hb dX12_goUnmount_9 (by decide) ?_
  refine lv_istore (lv' := [(5, .int 0), (4, .int x_58), (0, .ref h0), (1, .ref b0), (2, .int a1), (3, .int a2)]) hx hb dX12_goUnmount_10 hl (by decide) rfl (fun ls hl => ?_)
  exact L_12 _ H locs G_59 (G.2.1 b0) x_58 0 ls fr_60 w_62 (rg_w rl_0 (by decide) (by decide)) hx_58 ⟨⟨σ0, hTS0⟩, fun _ _ => Or.inl rfl⟩ (Nat.lt_succ_self _) (lv_sub hl [3, 5, 1, 0] rfl) hH hS

set_option maxHeartbeats 4000000 in
set_option maxRecDepth 100000 in
theorem c_X12_refusesBind (l : Launch) (g : Gx) (Ty : TyM) (G : Gh) (sz : Nat) (h0 : Nat) (b0 : Nat) (a1 : Int32) (a2 : Int32) (a3 : Int32) (k_h0 : Ty h0 = some (22, 0)) (k_b0 : Ty b0 = some (30, 122)) (ρ : Nat → Nat) (hT : P1 (G.2.1 b0) ρ) (rl : Nat) (krl : Ty rl = some (31, 40)) (hr1 : G.2.2 111 = some rl) (hr3 : rgI 0 40 (G.1 113)) : Met l yX12_refusesBind (wsG yX12_refusesBind cX12_refusesBind 6 (some .int)) ({ frames := 341, cells := 0, slots := 0, locals := 7993 }) (PcT g Ty G sz [.ref h0, .ref b0, .int a1, .int a2, .int a3]) (QwI g Ty sz (fun r u => (rgI (-9) (0) r ∧ (r = 0 → (thr (G.2.1 b0) a1 ∧ COM (G.2.1 b0) (G.2.1 rl) (G.1 113) a2 a3))) ∧ u.1 = Ty ∧ FR [107, 108, 109, 110, 114] [(g.2.2 115)] [106] G u.2)) 0 0 (AF Ty sz) := by
  refine Met.ofW (cc := cX12_refusesBind) (maxL := 6) (ret := (some .int)) (by decide) rfl ?_
  intro p e s m args below meth c s₁ B hml hv
  obtain ⟨rfl, hsz, hK, hH⟩ := hv
  subst hsz
  have hx := B.exec
  have hb := B.bytes
  have hr := B.returns
  have hts := atoms_spec (ws := (wsG yX12_refusesBind cX12_refusesBind 6 (some .int))) B.pre
  have hG : ∀ w ∈ GW, w.before ([.ref h0, .ref b0, .int a1, .int a2, .int a3] : List Value).toArray s = true := fun w h => hts w (List.mem_cons_of_mem _ h)
  have hown : s.vm.findClass RX12 = some m.cls := findClass_of_methodNamed B.named
  have hlocks := B.notSynchronized
  have hl := lv_entry [.ref h0, .ref b0, .int a1, .int a2, .int a3] (n := 6) (Nat.le_of_ble_eq_true rfl)
  rw [lg_entry_eq]
  generalize (lg_sl [.ref h0, .ref b0, .int a1, .int a2, .int a3] ++ List.replicate (6 - (lg_sl [.ref h0, .ref b0, .int a1, .int a2, .int a3]).length) Slot.unset).toArray = ls at hl ⊢
  have hl : lv_has ls 6 [(0, .ref h0), (1, .ref b0), (2, .int a1), (3, .int a2), (4, .int a3)] := hl
  have hmk : mdK g Ty := mdk_of hH k_h0
  have hS : va_S (AF Ty s.heap.size) s.heap s.heap [] := va_S.rf
  refine lv_aload_n hx hb dX12_refusesBind_0 rfl (lv_at hl 1 rfl) ?_
  refine lv_iload_n hx hb dX12_refusesBind_1 rfl (lv_at hl 2 rfl) ?_
  refine vp_callSi (W.runS (As := [.ref b0, .int a1]) (rest := []) ⟨hx, hb, hml, hown, hts⟩ (c_X12_isThere l g Ty G b0 a1 k_b0) (cwSx 2 hts hG (gwC mw_1520) mw_88 mw_1518 mw_1519 rfl rfl rfl hd_X12_isThere ⟨Nat.le_of_ble_eq_true rfl, Nat.le_of_ble_eq_true rfl⟩) ⟨PcH_blind, PcH_pre hK hH⟩ rfl rfl hl.1 rfl (lv_room (Nat.le_of_ble_eq_true rfl)) dX12_refusesBind_2 ⟨Nat.zero_le _, Nat.zero_le _⟩) (fun x_1 hx_1 => ?_)
  have rx_1 : rgI (0) (1) x_1 := hx_1.1
  refine lv_if_ne (tgt := 10) hx hb dX12_refusesBind_5 (by decide) (fun c_2 => ?_) (fun c_2 => ?_)
  · have th_3 : thr (G.2.1 b0) a1 := F_isThere_thr (by rw [← hx_1.2.2]; exact c_2)
    have r_4 : rgI (1) (1) x_1 := rg_w (rg_neL rx_1 rl_0 c_2) (by decide) (by decide)
    have r_5 : rgI (0) (23) a1 := rg_w (hx_1.2.1.resolve_left c_2) (by decide) (by decide)
    refine lv_aload_n hx hb dX12_refusesBind_10 rfl (lv_at hl 0 rfl) ?_
    refine lv_aload_n hx hb dX12_refusesBind_11 rfl (lv_at hl 1 rfl) ?_
    refine lv_iload_n hx hb dX12_refusesBind_12 rfl (lv_at hl 3 rfl) ?_
    refine lv_iload hx hb dX12_refusesBind_13 (lv_at hl 4 rfl) ?_
    obtain ⟨_, ⟨rfl, t_7, hk_8⟩, o_c_6⟩ := hH h0 _ k_h0
    refine va_calli (va_runV (As := [.ref b0, .int a2, .int a3]) (rest := []) ⟨hx, hb, hml, hown, hts⟩ (c_X12_refusesComing l g Ty G s.heap.size h0 b0 a2 a3 k_h0 k_b0 ρ hT rl krl hr1 hr3) (cwV 3 hts (gwV mw_1546 mw_1548 mw_50 mw_88 mw_1549) rfl rfl rfl hv_X12_refusesComing ⟨Nat.le_of_ble_eq_true rfl, Nat.le_of_ble_eq_true rfl⟩) ⟨PcT_blind, hg_recv hK o_c_6 rfl, PcT_pre hK hH⟩ rfl rfl hl.1 rfl (lv_room (Nat.le_of_ble_eq_true rfl)) dX12_refusesBind_15 ⟨Nat.zero_le _, Nat.zero_le _⟩) hS (fun q _ h => AF.mono hS.1 h) (fun q h => AF.mono hS.1 h) (fun x_9 ux_9 t H locs ht hvm hx_9 hB hz hk hS => ?_)
    obtain ⟨hx_9, fx_9⟩ := hx_9
    obtain ⟨eTx_9, eGx_9⟩ := fx_9
    obtain ⟨G_10, eG_10⟩ : ∃ z, z = ux_9.2 := ⟨_, rfl⟩
    rw [← eG_10] at eGx_9
    have fr_11 : FR [107, 108, 109, 110, 114] [(g.2.2 115)] [106] G G_10 := FR.tr FR.rf eGx_9 (by decide) (fun b h => ⟨h.1, trivial⟩) (by decide)
    have u_12 : G_10.1 113 = (G.1 113) := (eGx_9.1 113 (by decide))
    have w_13 : G_10.2.1 b0 = (G.2.1 b0) := (eGx_9.2.1 b0 ⟨(ne_kd k_b0 hmk.2.2.2.1 (by decide)), trivial⟩)
    have w_14 : G_10.2.1 rl = (G.2.1 rl) := (eGx_9.2.1 rl ⟨(ne_kd krl hmk.2.2.2.1 (by decide)), trivial⟩)
    have u_15 : G_10.2.2 111 = some rl := (eGx_9.2.2 111 (by decide)).trans hr1
    have hH : HT g Ty G_10 H := by rw [← ht, ← eTx_9, eG_10]; exact hB
    have rx_9 : rgI (-9) (0) x_9 := hx_9.1
    refine lv_istore (lv' := [(5, .int x_9), (0, .ref h0), (1, .ref b0), (2, .int a1), (3, .int a2), (4, .int a3)]) hx hb dX12_refusesBind_18 hl (by decide) rfl (fun ls hl => ?_)
    refine lv_iload hx hb dX12_refusesBind_20 (lv_at hl 0 rfl) ?_
    refine lv_iconst (v := (-1)) hx hb dX12_refusesBind_22 (by decide) ?_
    refine lv_icmp_eq (tgt := 33) hx hb dX12_refusesBind_23 (by decide) (fun c_16 => ?_) (fun c_16 => ?_)
    · have r_17 : rgI (-1) (-1) x_9 := rg_w (rg_eq rl_m1 c_16) (by decide) (by decide)
      refine lv_iload hx hb dX12_refusesBind_33 (lv_at hl 0 rfl) ?_
      refine lv_goto (tgt := 55) hx hb dX12_refusesBind_35 (by decide) ?_
      exact W.iret hx hb hr (fun t ht hWm => ⟨⟨x_9, (Ty, G_10), rfl, ⟨⟨rg_w r_17 (by decide) (by decide), (fun q => ⟨th_3, hx_9.2 q⟩)⟩, ⟨rfl, fr_11⟩⟩, by show HT g Ty G_10 t.heap; rw [ht]; exact hH⟩, hS.F ht⟩) hS.2.2 dX12_refusesBind_55
    · refine lv_iload hx hb dX12_refusesBind_26 (lv_at hl 0 rfl) ?_
      refine lv_bipush (v := (-2)) hx hb dX12_refusesBind_28 (by decide) ?_
      refine lv_icmp_ne (tgt := 38) hx hb dX12_refusesBind_30 (by decide) (fun c_18 => ?_) (fun c_18 => ?_)
      · refine lv_aload_n hx hb dX12_refusesBind_38 rfl (lv_at hl 2 rfl) ?_
        refine lv_bipush (v := 96) hx hb dX12_refusesBind_39 (by decide) ?_
        refine lv_iload_n hx hb dX12_refusesBind_41 rfl (lv_at hl 3 rfl) ?_
        refine lv_iadd hx hb dX12_refusesBind_42 ?_
        refine lv_topi (fun x_19 ex_19 => ?_)
        have rx_19 : rgI (96) (119) x_19 := by rw [ex_19]; exact rg_w (rg_add rl_96 r_5 (by decide) (by decide)) (by decide) (by decide)
        obtain ⟨_, rfl, o_c_20⟩ := hH b0 _ k_b0
        have o_c_20 : va_at g.1 vwCl (b0, .inl (g.2.1 1, 122, .inl (G_10.2.1 b0))) H := o_c_20
        refine hg_iald hx hb hK o_c_20 (rg_in (n := 122) rx_19 (by decide) (by decide)) dX12_refusesBind_43 ?_
        rw [w_13]
        refine lv_topi (fun x_21 ex_21 => ?_)
        refine lv_iconst (v := 1) hx hb dX12_refusesBind_44 (by decide) ?_
        refine lv_icmp_ne (tgt := 53) hx hb dX12_refusesBind_45 (by decide) (fun c_22 => ?_) (fun c_22 => ?_)
        · refine lv_iload hx hb dX12_refusesBind_53 (lv_at hl 0 rfl) ?_
          exact W.iret hx hb hr (fun t ht hWm => ⟨⟨x_9, (Ty, G_10), rfl, ⟨⟨rg_w rx_9 (by decide) (by decide), (fun q => ⟨th_3, hx_9.2 q⟩)⟩, ⟨rfl, fr_11⟩⟩, by show HT g Ty G_10 t.heap; rw [ht]; exact hH⟩, hS.F ht⟩) hS.2.2 dX12_refusesBind_55
        · have r_23 : rgI (1) (1) x_21 := rg_w (rg_eq rl_1 c_22) (by decide) (by decide)
          refine lv_bipush (v := (-3)) hx hb dX12_refusesBind_48 (by decide) ?_
          refine lv_goto (tgt := 55) hx hb dX12_refusesBind_50 (by decide) ?_
          exact W.iret hx hb hr (fun t ht hWm => ⟨⟨(-3), (Ty, G_10), rfl, ⟨⟨rg_w rl_m3 (by decide) (by decide), (fun q => absurd q (by decide))⟩, ⟨rfl, fr_11⟩⟩, by show HT g Ty G_10 t.heap; rw [ht]; exact hH⟩, hS.F ht⟩) hS.2.2 dX12_refusesBind_55
      · have r_24 : rgI (-2) (-2) x_9 := rg_w (rg_eq rl_m2 c_18) (by decide) (by decide)
        refine lv_iload hx hb dX12_refusesBind_33 (lv_at hl 0 rfl) ?_
        refine lv_goto (tgt := 55) hx hb dX12_refusesBind_35 (by decide) ?_
        exact W.iret hx hb hr (fun t ht hWm => ⟨⟨x_9, (Ty, G_10), rfl, ⟨⟨rg_w r_24 (by decide) (by decide), (fun q => ⟨th_3, hx_9.2 q⟩)⟩, ⟨rfl, fr_11⟩⟩, by show HT g Ty G_10 t.heap; rw [ht]; exact hH⟩, hS.F ht⟩) hS.2.2 dX12_refusesBind_55
  · have r_25 : rgI (0) (0) x_1 := rg_w (rg_eq rl_0 c_2) (by decide) (by decide)
    refine lv_iconst (v := (-1)) hx hb dX12_refusesBind_8 (by decide) ?_
    exact W.iret hx hb hr (fun t ht hWm => ⟨⟨(-1), (Ty, G), rfl, ⟨⟨rg_w rl_m1 (by decide) (by decide), (fun q => absurd q (by decide))⟩, ⟨rfl, FR.rf⟩⟩, by show HT g Ty G t.heap; rw [ht]; exact hH⟩, hS.F ht⟩) hS.2.2 dX12_refusesBind_9

set_option maxHeartbeats 4000000 in
set_option maxRecDepth 100000 in
theorem c_X12_refusesMove (l : Launch) (g : Gx) (Ty : TyM) (G : Gh) (b0 : Nat) (a1 : Int32) (a2 : Int32) (a3 : Int32) (k_b0 : Ty b0 = some (30, 122)) (ρ : Nat → Nat) (hT : P1 (G.2.1 b0) ρ) : Met l yX12_refusesMove (wsG yX12_refusesMove cX12_refusesMove 4 (some .int)) ({ frames := 2, cells := 0, slots := 0, locals := 43 }) (PcH g Ty G [.ref b0, .int a1, .int a2, .int a3]) (vp_Si (fun r => rgI (-6) (0) r ∧ (r = 0 → (thr (G.2.1 b0) a1 ∧ thr (G.2.1 b0) a2 ∧ rgI 0 3 a3 ∧ ¬ a1 = 0 ∧ ¬ a2 = a1 ∧ F_X12_isIn (G.2.1 b0) a2 a1 = 0)))) 0 0 (fun _ => False) := by
  refine Met.ofW (cc := cX12_refusesMove) (maxL := 4) (ret := (some .int)) (by decide) rfl ?_
  intro p e s m args below meth c s₁ B hml hv
  obtain ⟨rfl, hK, hH⟩ := hv
  have hx := B.exec
  have hb := B.bytes
  have hr := B.returns
  have hts := atoms_spec (ws := (wsG yX12_refusesMove cX12_refusesMove 4 (some .int))) B.pre
  have hG : ∀ w ∈ GW, w.before ([.ref b0, .int a1, .int a2, .int a3] : List Value).toArray s = true := fun w h => hts w (List.mem_cons_of_mem _ h)
  have hown : s.vm.findClass RX12 = some m.cls := findClass_of_methodNamed B.named
  have hlocks := B.notSynchronized
  have hl := lv_entry [.ref b0, .int a1, .int a2, .int a3] (n := 4) (Nat.le_of_ble_eq_true rfl)
  rw [lg_entry_eq]
  generalize (lg_sl [.ref b0, .int a1, .int a2, .int a3] ++ List.replicate (4 - (lg_sl [.ref b0, .int a1, .int a2, .int a3]).length) Slot.unset).toArray = ls at hl ⊢
  have hl : lv_has ls 4 [(0, .ref b0), (1, .int a1), (2, .int a2), (3, .int a3)] := hl
  refine lv_aload_n hx hb dX12_refusesMove_0 rfl (lv_at hl 0 rfl) ?_
  refine lv_iload_n hx hb dX12_refusesMove_1 rfl (lv_at hl 1 rfl) ?_
  refine vp_callSi (W.runS (As := [.ref b0, .int a1]) (rest := []) ⟨hx, hb, hml, hown, hts⟩ (c_X12_isThere l g Ty G b0 a1 k_b0) (cwSx 2 hts hG (gwC mw_1520) mw_88 mw_1518 mw_1519 rfl rfl rfl hd_X12_isThere ⟨Nat.le_of_ble_eq_true rfl, Nat.le_of_ble_eq_true rfl⟩) ⟨PcH_blind, PcH_pre hK hH⟩ rfl rfl hl.1 rfl (lv_room (Nat.le_of_ble_eq_true rfl)) dX12_refusesMove_2 ⟨Nat.zero_le _, Nat.zero_le _⟩) (fun x_1 hx_1 => ?_)
  have rx_1 : rgI (0) (1) x_1 := hx_1.1
  refine lv_if_eq (tgt := 23) hx hb dX12_refusesMove_5 (by decide) (fun c_2 => ?_) (fun c_2 => ?_)
  · have r_3 : rgI (0) (0) x_1 := rg_w (rg_eq rl_0 c_2) (by decide) (by decide)
    refine lv_iconst (v := (-1)) hx hb dX12_refusesMove_23 (by decide) ?_
    exact W.iret hx hb hr (fun t ht hW => ⟨(-1), rfl, ⟨rg_w rl_m1 (by decide) (by decide), (fun q => absurd q (by decide))⟩, ht⟩) (fun q h => by cases h) dX12_refusesMove_24
  · have th_4 : thr (G.2.1 b0) a1 := F_isThere_thr (by rw [← hx_1.2.2]; exact c_2)
    have r_5 : rgI (1) (1) x_1 := rg_w (rg_neL rx_1 rl_0 c_2) (by decide) (by decide)
    have r_6 : rgI (0) (23) a1 := rg_w (hx_1.2.1.resolve_left c_2) (by decide) (by decide)
    refine lv_aload_n hx hb dX12_refusesMove_8 rfl (lv_at hl 0 rfl) ?_
    refine lv_iload_n hx hb dX12_refusesMove_9 rfl (lv_at hl 2 rfl) ?_
    refine vp_callSi (W.runS (As := [.ref b0, .int a2]) (rest := []) ⟨hx, hb, hml, hown, hts⟩ (c_X12_isThere l g Ty G b0 a2 k_b0) (cwSx 2 hts hG (gwC mw_1520) mw_88 mw_1518 mw_1519 rfl rfl rfl hd_X12_isThere ⟨Nat.le_of_ble_eq_true rfl, Nat.le_of_ble_eq_true rfl⟩) ⟨PcH_blind, PcH_pre hK hH⟩ rfl rfl hl.1 rfl (lv_room (Nat.le_of_ble_eq_true rfl)) dX12_refusesMove_10 ⟨Nat.zero_le _, Nat.zero_le _⟩) (fun x_7 hx_7 => ?_)
    have rx_7 : rgI (0) (1) x_7 := hx_7.1
    refine lv_if_eq (tgt := 23) hx hb dX12_refusesMove_13 (by decide) (fun c_8 => ?_) (fun c_8 => ?_)
    · have r_9 : rgI (0) (0) x_7 := rg_w (rg_eq rl_0 c_8) (by decide) (by decide)
      refine lv_iconst (v := (-1)) hx hb dX12_refusesMove_23 (by decide) ?_
      exact W.iret hx hb hr (fun t ht hW => ⟨(-1), rfl, ⟨rg_w rl_m1 (by decide) (by decide), (fun q => absurd q (by decide))⟩, ht⟩) (fun q h => by cases h) dX12_refusesMove_24
    · have th_10 : thr (G.2.1 b0) a2 := F_isThere_thr (by rw [← hx_7.2.2]; exact c_8)
      have r_11 : rgI (1) (1) x_7 := rg_w (rg_neL rx_7 rl_0 c_8) (by decide) (by decide)
      have r_12 : rgI (0) (23) a2 := rg_w (hx_7.2.1.resolve_left c_8) (by decide) (by decide)
      refine lv_iload_n hx hb dX12_refusesMove_16 rfl (lv_at hl 3 rfl) ?_
      refine vp_callSi (W.runS (As := [.int a3]) (rest := []) ⟨hx, hb, hml, hown, hts⟩ (c_X12_isDir l g Ty G a3 ) (cwSx 1 hts hG (gwC mw_1537) mw_88 mw_1535 mw_1536 rfl rfl rfl hd_X12_isDir ⟨Nat.le_of_ble_eq_true rfl, Nat.le_of_ble_eq_true rfl⟩) ⟨PcH_blind, PcH_pre hK hH⟩ rfl rfl hl.1 rfl (lv_room (Nat.le_of_ble_eq_true rfl)) dX12_refusesMove_17 ⟨Nat.zero_le _, Nat.zero_le _⟩) (fun x_13 hx_13 => ?_)
      have rx_13 : rgI (0) (1) x_13 := hx_13.1
      refine lv_if_ne (tgt := 25) hx hb dX12_refusesMove_20 (by decide) (fun c_14 => ?_) (fun c_14 => ?_)
      · have r_15 : rgI (1) (1) x_13 := rg_w (rg_neL rx_13 rl_0 c_14) (by decide) (by decide)
        have r_16 : rgI (0) (3) a3 := rg_w (F_isDir_rg (by rw [← hx_13.2]; exact c_14)) (by decide) (by decide)
        refine lv_aload_n hx hb dX12_refusesMove_25 rfl (lv_at hl 0 rfl) ?_
        refine lv_iload_n hx hb dX12_refusesMove_26 rfl (lv_at hl 2 rfl) ?_
        refine lv_iload_n hx hb dX12_refusesMove_27 rfl (lv_at hl 3 rfl) ?_
        refine vp_callSi (W.runS (As := [.ref b0, .int a2, .int a3]) (rest := []) ⟨hx, hb, hml, hown, hts⟩ (c_X12_atOf l g Ty G b0 a2 a3 k_b0) (cwSx 3 hts hG (gwC mw_1509) mw_88 mw_1507 mw_1508 rfl rfl rfl hd_X12_atOf ⟨Nat.le_of_ble_eq_true rfl, Nat.le_of_ble_eq_true rfl⟩) ⟨PcH_blind, PcH_pre hK hH⟩ rfl rfl hl.1 rfl (lv_room (Nat.le_of_ble_eq_true rfl)) dX12_refusesMove_28 ⟨Nat.zero_le _, Nat.zero_le _⟩) (fun x_17 hx_17 => ?_)
        have rx_17 : rgI (1) (24) x_17 := hx_17.1
        refine lv_bipush (v := 24) hx hb dX12_refusesMove_31 (by decide) ?_
        refine lv_icmp_eq (tgt := 39) hx hb dX12_refusesMove_33 (by decide) (fun c_18 => ?_) (fun c_18 => ?_)
        · have r_19 : rgI (24) (24) x_17 := rg_w (rg_eq rl_24 c_18) (by decide) (by decide)
          refine lv_iload_n hx hb dX12_refusesMove_39 rfl (lv_at hl 1 rfl) ?_
          refine lv_if_eq (tgt := 57) hx hb dX12_refusesMove_40 (by decide) (fun c_20 => ?_) (fun c_20 => ?_)
          · have r_21 : rgI (0) (0) a1 := rg_w (rg_eq rl_0 c_20) (by decide) (by decide)
            refine lv_bipush (v := (-3)) hx hb dX12_refusesMove_57 (by decide) ?_
            exact W.iret hx hb hr (fun t ht hW => ⟨(-3), rfl, ⟨rg_w rl_m3 (by decide) (by decide), (fun q => absurd q (by decide))⟩, ht⟩) (fun q h => by cases h) dX12_refusesMove_59
          · have r_22 : rgI (1) (23) a1 := rg_w (rg_neL r_6 rl_0 c_20) (by decide) (by decide)
            refine lv_iload_n hx hb dX12_refusesMove_43 rfl (lv_at hl 2 rfl) ?_
            refine lv_iload_n hx hb dX12_refusesMove_44 rfl (lv_at hl 1 rfl) ?_
            refine lv_icmp_eq (tgt := 57) hx hb dX12_refusesMove_45 (by decide) (fun c_23 => ?_) (fun c_23 => ?_)
            · have r_24 : rgI (1) (23) a2 := rg_w (rg_eq r_22 c_23) (by decide) (by decide)
              refine lv_bipush (v := (-3)) hx hb dX12_refusesMove_57 (by decide) ?_
              exact W.iret hx hb hr (fun t ht hW => ⟨(-3), rfl, ⟨rg_w rl_m3 (by decide) (by decide), (fun q => absurd q (by decide))⟩, ht⟩) (fun q h => by cases h) dX12_refusesMove_59
            · refine lv_aload_n hx hb dX12_refusesMove_48 rfl (lv_at hl 0 rfl) ?_
              refine lv_iload_n hx hb dX12_refusesMove_49 rfl (lv_at hl 2 rfl) ?_
              refine lv_iload_n hx hb dX12_refusesMove_50 rfl (lv_at hl 1 rfl) ?_
              refine vp_callSi (W.runS (As := [.ref b0, .int a2, .int a1]) (rest := []) ⟨hx, hb, hml, hown, hts⟩ (c_X12_isIn l g Ty G b0 a2 a1 k_b0 ρ hT th_10) (cwSx 3 hts hG (gwC mw_1676) mw_88 mw_1674 mw_1675 rfl rfl rfl hd_X12_isIn ⟨Nat.le_of_ble_eq_true rfl, Nat.le_of_ble_eq_true rfl⟩) ⟨PcH_blind, PcH_pre hK hH⟩ rfl rfl hl.1 rfl (lv_room (Nat.le_of_ble_eq_true rfl)) dX12_refusesMove_51 ⟨Nat.zero_le _, Nat.zero_le _⟩) (fun x_25 hx_25 => ?_)
              have rx_25 : rgI (0) (1) x_25 := hx_25.1
              refine lv_if_eq (tgt := 60) hx hb dX12_refusesMove_54 (by decide) (fun c_26 => ?_) (fun c_26 => ?_)
              · have r_27 : rgI (0) (0) x_25 := rg_w (rg_eq rl_0 c_26) (by decide) (by decide)
                refine lv_aload_n hx hb dX12_refusesMove_60 rfl (lv_at hl 0 rfl) ?_
                refine lv_bipush (v := 48) hx hb dX12_refusesMove_61 (by decide) ?_
                refine lv_aload_n hx hb dX12_refusesMove_63 rfl (lv_at hl 0 rfl) ?_
                refine lv_iload_n hx hb dX12_refusesMove_64 rfl (lv_at hl 1 rfl) ?_
                obtain ⟨_, rfl, o_c_28⟩ := hH b0 _ k_b0
                have o_c_28 : va_at g.1 vwCl (b0, .inl (g.2.1 1, 122, .inl (G.2.1 b0))) s.heap := o_c_28
                refine hg_iald hx hb hK o_c_28 (rg_in (n := 122) r_22 (by decide) (by decide)) dX12_refusesMove_65 ?_
                refine lv_topi (fun x_29 ex_29 => ?_)
                have tpx_29 : thr (G.2.1 b0) x_29 := by rw [ex_29]; exact (hT.2.1 _ th_4 c_20).1
                refine lv_iadd hx hb dX12_refusesMove_66 ?_
                refine lv_topi (fun x_30 ex_30 => ?_)
                have rx_30 : rgI (48) (71) x_30 := by rw [ex_30]; exact rg_w (rg_add rl_48 tpx_29.1 (by decide) (by decide)) (by decide) (by decide)
                refine hg_iald hx hb hK o_c_28 (rg_in (n := 122) rx_30 (by decide) (by decide)) dX12_refusesMove_67 ?_
                refine lv_topi (fun x_31 ex_31 => ?_)
                refine lv_if_eq (tgt := 74) hx hb dX12_refusesMove_68 (by decide) (fun c_32 => ?_) (fun c_32 => ?_)
                · have r_33 : rgI (0) (0) x_31 := rg_w (rg_eq rl_0 c_32) (by decide) (by decide)
                  refine lv_aload_n hx hb dX12_refusesMove_74 rfl (lv_at hl 0 rfl) ?_
                  refine lv_bipush (v := 48) hx hb dX12_refusesMove_75 (by decide) ?_
                  refine lv_iload_n hx hb dX12_refusesMove_77 rfl (lv_at hl 2 rfl) ?_
                  refine lv_iadd hx hb dX12_refusesMove_78 ?_
                  refine lv_topi (fun x_34 ex_34 => ?_)
                  have rx_34 : rgI (48) (71) x_34 := by rw [ex_34]; exact rg_w (rg_add rl_48 r_12 (by decide) (by decide)) (by decide) (by decide)
                  refine hg_iald hx hb hK o_c_28 (rg_in (n := 122) rx_34 (by decide) (by decide)) dX12_refusesMove_79 ?_
                  refine lv_topi (fun x_35 ex_35 => ?_)
                  refine lv_if_eq (tgt := 88) hx hb dX12_refusesMove_80 (by decide) (fun c_36 => ?_) (fun c_36 => ?_)
                  · have r_37 : rgI (0) (0) x_35 := rg_w (rg_eq rl_0 c_36) (by decide) (by decide)
                    refine lv_iconst (v := 0) hx hb dX12_refusesMove_88 (by decide) ?_
                    exact W.iret hx hb hr (fun t ht hW => ⟨0, rfl, ⟨rg_w rl_0 (by decide) (by decide), (fun _ => ⟨th_4, th_10, r_16, c_20, c_23, by rw [← hx_25.2]; exact c_26⟩)⟩, ht⟩) (fun q h => by cases h) dX12_refusesMove_89
                  · refine lv_bipush (v := (-6)) hx hb dX12_refusesMove_83 (by decide) ?_
                    refine lv_goto (tgt := 89) hx hb dX12_refusesMove_85 (by decide) ?_
                    exact W.iret hx hb hr (fun t ht hW => ⟨(-6), rfl, ⟨rg_w rl_m6 (by decide) (by decide), (fun q => absurd q (by decide))⟩, ht⟩) (fun q h => by cases h) dX12_refusesMove_89
                · refine lv_bipush (v := (-5)) hx hb dX12_refusesMove_71 (by decide) ?_
                  exact W.iret hx hb hr (fun t ht hW => ⟨(-5), rfl, ⟨rg_w rl_m5 (by decide) (by decide), (fun q => absurd q (by decide))⟩, ht⟩) (fun q h => by cases h) dX12_refusesMove_73
              · have r_38 : rgI (1) (1) x_25 := rg_w (rg_neL rx_25 rl_0 c_26) (by decide) (by decide)
                refine lv_bipush (v := (-3)) hx hb dX12_refusesMove_57 (by decide) ?_
                exact W.iret hx hb hr (fun t ht hW => ⟨(-3), rfl, ⟨rg_w rl_m3 (by decide) (by decide), (fun q => absurd q (by decide))⟩, ht⟩) (fun q h => by cases h) dX12_refusesMove_59
        · have r_39 : rgI (1) (23) x_17 := rg_w (rg_neR rx_17 rl_24 c_18) (by decide) (by decide)
          refine lv_bipush (v := (-2)) hx hb dX12_refusesMove_36 (by decide) ?_
          exact W.iret hx hb hr (fun t ht hW => ⟨(-2), rfl, ⟨rg_w rl_m2 (by decide) (by decide), (fun q => absurd q (by decide))⟩, ht⟩) (fun q h => by cases h) dX12_refusesMove_38
      · have r_40 : rgI (0) (0) x_13 := rg_w (rg_eq rl_0 c_14) (by decide) (by decide)
        refine lv_iconst (v := (-1)) hx hb dX12_refusesMove_23 (by decide) ?_
        exact W.iret hx hb hr (fun t ht hW => ⟨(-1), rfl, ⟨rg_w rl_m1 (by decide) (by decide), (fun q => absurd q (by decide))⟩, ht⟩) (fun q h => by cases h) dX12_refusesMove_24
