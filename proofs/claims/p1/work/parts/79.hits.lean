set_option maxHeartbeats 4000000 in
set_option maxRecDepth 100000 in
theorem c_X12_hitsOf (l : Launch) (g : Gx) (Ty : TyM) (G : Gh) (sz : Nat) (h0 : Nat) (b0 : Nat) (a1 : Int32) (a2 : Int32) (k_h0 : Ty h0 = some (22, 0)) (k_b0 : Ty b0 = some (30, 122)) (ρ : Nat → Nat) (hT : P1 (G.2.1 b0) ρ) (hm0 : thr (G.2.1 b0) a1) (rl : Nat) (krl : Ty rl = some (31, 40)) (hr1 : G.2.2 111 = some rl) (hr3 : rgI 0 40 (G.1 113)) : Met l yX12_hitsOf (wsG yX12_hitsOf cX12_hitsOf 7 (some .int)) ({ frames := 339, cells := 0, slots := 0, locals := 7944 }) (PcT g Ty G sz [.ref h0, .ref b0, .int a1, .int a2]) (QwI g Ty sz (fun r u => ((HB (G.2.1 b0) (G.2.1 rl) (G.1 113) a1 a2 r) ∧ (SB (G.2.1 b0) (F_X12_spreadOf (G.2.1 b0) a1))) ∧ u.1 = Ty ∧ FR [107, 108, 109, 110, 114] [(g.2.2 115)] [106] G u.2)) 0 0 (AF Ty sz) := by
  refine Met.ofW (cc := cX12_hitsOf) (maxL := 7) (ret := (some .int)) (by decide) rfl ?_
  intro p e s m args below meth c s₁ B hml hv
  obtain ⟨rfl, hsz, hK, hH⟩ := hv
  subst hsz
  have hx := B.exec
  have hb := B.bytes
  have hr := B.returns
  have hts := atoms_spec (ws := (wsG yX12_hitsOf cX12_hitsOf 7 (some .int))) B.pre
  have hG : ∀ w ∈ GW, w.before ([.ref h0, .ref b0, .int a1, .int a2] : List Value).toArray s = true := fun w h => hts w (List.mem_cons_of_mem _ h)
  have hown : s.vm.findClass RX12 = some m.cls := findClass_of_methodNamed B.named
  have hlocks := B.notSynchronized
  have hl := lv_entry [.ref h0, .ref b0, .int a1, .int a2] (n := 7) (Nat.le_of_ble_eq_true rfl)
  rw [lg_entry_eq]
  generalize (lg_sl [.ref h0, .ref b0, .int a1, .int a2] ++ List.replicate (7 - (lg_sl [.ref h0, .ref b0, .int a1, .int a2]).length) Slot.unset).toArray = ls at hl ⊢
  have hl : lv_has ls 7 [(0, .ref h0), (1, .ref b0), (2, .int a1), (3, .int a2)] := hl
  have hmk : mdK g Ty := mdk_of hH k_h0
  have hS : va_S (AF Ty s.heap.size) s.heap s.heap [] := va_S.rf
  have L_13 : ∀ (n : Nat) (H : Heap) (locs : List Loc) (G_13 : Gh) (y4_13 : Int32) (y5_13 : Int32) (y6_13 : Int32) (ls : Array Slot), FR [107, 108, 109, 110, 114] [(g.2.2 115)] [106] G G_13 → rgI (0) (24) y6_13 → y4_13 = F_X12_spreadOf (G.2.1 b0) a1 → SB (G.2.1 b0) y4_13 → HBk (G.2.1 b0) (G.2.1 rl) (G.1 113) a1 a2 y5_13 (y6_13 : Int32).toNatClampNeg → (24 - (y6_13).toInt).toNat < n → lv_has ls 7 [(0, .ref h0), (1, .ref b0), (2, .int a1), (3, .int a2), (4, .int y4_13), (5, .int y5_13), (6, .int y6_13)] → HT g Ty G_13 H → va_S (AF Ty s.heap.size) s.heap H locs → Wm p l e (wsG yX12_hitsOf cX12_hitsOf 7 (some .int)) ({ frames := 339, cells := 0, slots := 0, locals := 7944 }) s m [.ref h0, .ref b0, .int a1, .int a2] below meth c H locs (0) (0) (QwI g Ty s.heap.size (fun r u => ((HB (G.2.1 b0) (G.2.1 rl) (G.1 113) a1 a2 r) ∧ (SB (G.2.1 b0) (F_X12_spreadOf (G.2.1 b0) a1))) ∧ u.1 = Ty ∧ FR [107, 108, 109, 110, 114] [(g.2.2 115)] [106] G u.2)) 0 0 (AF Ty s.heap.size) (F0 m 13 ls []) := by
    intro n
    induction n with
    | zero => intro H locs G_13 y4_13 y5_13 y6_13 ls fr_13 ry6_13 hi0_13 hi1_13 hi2_13 hm; exact absurd hm (Nat.not_lt_zero _)
    | succ n ih_13 =>
      intro H locs G_13 y4_13 y5_13 y6_13 ls fr_13 ry6_13 hi0_13 hi1_13 hi2_13 hm_13 hl hH hS
      have L_69 : ∀ (H : Heap) (locs : List Loc) (G_69 : Gh) (z0_69 : Int32) (ls : Array Slot), FR [107, 108, 109, 110, 114] [(g.2.2 115)] [106] G G_69 → rgI (0) (23) y6_13 → y4_13 = F_X12_spreadOf (G.2.1 b0) a1 → SB (G.2.1 b0) y4_13 → HBk (G.2.1 b0) (G.2.1 rl) (G.1 113) a1 a2 y5_13 (y6_13 : Int32).toNatClampNeg → (∀ i, bt (z0_69 : Int32) i = (decide (i = (y6_13 : Int32).toNatClampNeg) && hitb (G.2.1 b0) (G.2.1 rl) (G.1 113) a1 a2 i)) → lv_has ls 7 [(0, .ref h0), (1, .ref b0), (2, .int a1), (3, .int a2), (4, .int y4_13), (6, .int y6_13)] → HT g Ty G_69 H → va_S (AF Ty s.heap.size) s.heap H locs → Wm p l e (wsG yX12_hitsOf cX12_hitsOf 7 (some .int)) ({ frames := 339, cells := 0, slots := 0, locals := 7944 }) s m [.ref h0, .ref b0, .int a1, .int a2] below meth c H locs (0) (0) (QwI g Ty s.heap.size (fun r u => ((HB (G.2.1 b0) (G.2.1 rl) (G.1 113) a1 a2 r) ∧ (SB (G.2.1 b0) (F_X12_spreadOf (G.2.1 b0) a1))) ∧ u.1 = Ty ∧ FR [107, 108, 109, 110, 114] [(g.2.2 115)] [106] G u.2)) 0 0 (AF Ty s.heap.size) (F0 m 69 ls [.int z0_69, .int y5_13]) := by
        intro H locs G_69 z0_69 ls fr_69 ry6_69 hi0_69 hi1_69 hi2_69 hi3_69 hl hH hS
        refine lv_ior hx hb dX12_hitsOf_69 ?_
        refine lv_topi (fun x_1 ex_1 => ?_)
        refine lv_istore (lv' := [(5, .int x_1), (0, .ref h0), (1, .ref b0), (2, .int a1), (3, .int a2), (4, .int y4_13), (6, .int y6_13)]) hx hb dX12_hitsOf_70 hl (by decide) rfl (fun ls hl => ?_)
        obtain ⟨x_2, ex_2⟩ : ∃ y : Int32, y = y6_13 + 1 := ⟨_, rfl⟩
        have rx_2 : rgI (1) (24) x_2 := by rw [ex_2]; exact rg_w (rg_add ry6_69 rl_1 (by decide) (by decide)) (by decide) (by decide)
        have qx_2 : x_2.toInt = (y6_13 : Int32).toInt + 1 := by rw [ex_2]; exact rg_addE ry6_69 rl_1 (by decide) (by decide)
        refine lv_iinc (v := x_2) (lv' := [(6, .int x_2), (5, .int x_1), (0, .ref h0), (1, .ref b0), (2, .int a1), (3, .int a2), (4, .int y4_13)]) hx hb dX12_hitsOf_72 hl (k := 6) rfl (by rw [ex_2]; rfl) (by decide) rfl (fun ls hl => ?_)
        refine lv_goto (tgt := 13) hx hb dX12_hitsOf_75 (by decide) ?_
        exact ih_13 H locs G_69 y4_13 x_1 x_2 ls fr_69 (rg_w rx_2 (by decide) (by decide)) hi0_69 hi1_69 (HBk_s hi2_69 hi3_69 ex_1 (rg_w ry6_69 (by decide) (by decide)) qx_2) (by have h1 := qx_2; have h2 := ry6_69.1; have h3 := ry6_69.2; have h4 := hm_13; omega) (lv_sub hl [2, 3, 4, 5, 6, 1, 0] rfl) hH hS
      refine lv_iload hx hb dX12_hitsOf_13 (lv_at hl 6 rfl) ?_
      refine lv_bipush (v := 24) hx hb dX12_hitsOf_15 (by decide) ?_
      refine lv_icmp_ge (tgt := 78) hx hb dX12_hitsOf_17 (by decide) (fun c_3 => ?_) (fun c_3 => ?_)
      · have r_4 : rgI (24) (24) y6_13 := rg_w (rg_leR rl_24 ry6_13 c_3) (by decide) (by decide)
        refine lv_iload hx hb dX12_hitsOf_78 (lv_at hl 5 rfl) ?_
        exact W.iret hx hb hr (fun t ht hWm => ⟨⟨y5_13, (Ty, G_13), rfl, ⟨⟨HBk_e hi2_13 r_4, (by rw [← hi0_13]; exact hi1_13)⟩, ⟨rfl, fr_13⟩⟩, by show HT g Ty G_13 t.heap; rw [ht]; exact hH⟩, hS.F ht⟩) hS.2.2 dX12_hitsOf_80
      · have r_5 : rgI (0) (23) y6_13 := rg_w (rg_ltL ry6_13 rl_24 (nle_lt c_3)) (by decide) (by decide)
        refine lv_iload hx hb dX12_hitsOf_20 (lv_at hl 5 rfl) ?_
        refine lv_iload hx hb dX12_hitsOf_22 (lv_at hl 6 rfl) ?_
        refine lv_iload_n hx hb dX12_hitsOf_24 rfl (lv_at hl 2 rfl) ?_
        refine lv_icmp_eq (tgt := 68) hx hb dX12_hitsOf_25 (by decide) (fun c_6 => ?_) (fun c_6 => ?_)
        · refine lv_iconst (v := 0) hx hb dX12_hitsOf_68 (by decide) ?_
          exact L_69 H locs G_13 0 ls fr_13 r_5 hi0_13 hi1_13 hi2_13 (hit_n1 r_5 c_6) (lv_sub hl [0, 1, 2, 3, 4, 6] rfl) hH hS
        · refine lv_iload hx hb dX12_hitsOf_28 (lv_at hl 4 rfl) ?_
          refine lv_iload hx hb dX12_hitsOf_30 (lv_at hl 6 rfl) ?_
          refine vp_callSi (W.runS (As := [.int y4_13, .int y6_13]) (rest := [.int y5_13]) ⟨hx, hb, hml, hown, hts⟩ (c_X12_has l g Ty G_13 y4_13 y6_13 ) (cwSx 2 hts hG (gwC mw_1563) mw_88 mw_1561 mw_1562 rfl rfl rfl hd_X12_has ⟨Nat.le_of_ble_eq_true rfl, Nat.le_of_ble_eq_true rfl⟩) ⟨PcH_blind, PcH_pre hK hH⟩ rfl rfl hl.1 rfl (lv_room (Nat.le_of_ble_eq_true rfl)) dX12_hitsOf_32 ⟨Nat.zero_le _, Nat.zero_le _⟩) (fun x_7 hx_7 => ?_)
          have rx_7 : rgI (0) (1) x_7 := hx_7.1
          refine lv_if_eq (tgt := 68) hx hb dX12_hitsOf_35 (by decide) (fun c_8 => ?_) (fun c_8 => ?_)
          · have r_9 : rgI (0) (0) x_7 := rg_w (rg_eq rl_0 c_8) (by decide) (by decide)
            have hb_10 : bt y4_13 (y6_13 : Int32).toNatClampNeg = false := has_0 (rg_w r_5 (by decide) (by decide)) (by rw [← hx_7.2]; exact c_8)
            refine lv_iconst (v := 0) hx hb dX12_hitsOf_68 (by decide) ?_
            exact L_69 H locs G_13 0 ls fr_13 r_5 hi0_13 hi1_13 hi2_13 (hit_n2 r_5 (by rw [← hi0_13]; exact hb_10)) (lv_sub hl [0, 1, 2, 3, 4, 6] rfl) hH hS
          · have r_11 : rgI (1) (1) x_7 := rg_w (rg_neL rx_7 rl_0 c_8) (by decide) (by decide)
            have hb_12 : bt y4_13 (y6_13 : Int32).toNatClampNeg = true := has_1 (rg_w r_5 (by decide) (by decide)) (by rw [← hx_7.2]; exact c_8)
            refine lv_aload_n hx hb dX12_hitsOf_38 rfl (lv_at hl 1 rfl) ?_
            refine lv_iload hx hb dX12_hitsOf_39 (lv_at hl 6 rfl) ?_
            refine lv_iload_n hx hb dX12_hitsOf_41 rfl (lv_at hl 3 rfl) ?_
            refine vp_callSi (W.runS (As := [.ref b0, .int y6_13, .int a2]) (rest := [.int y5_13]) ⟨hx, hb, hml, hown, hts⟩ (c_X12_atOf l g Ty G_13 b0 y6_13 a2 k_b0) (cwSx 3 hts hG (gwC mw_1509) mw_88 mw_1507 mw_1508 rfl rfl rfl hd_X12_atOf ⟨Nat.le_of_ble_eq_true rfl, Nat.le_of_ble_eq_true rfl⟩) ⟨PcH_blind, PcH_pre hK hH⟩ rfl rfl hl.1 rfl (lv_room (Nat.le_of_ble_eq_true rfl)) dX12_hitsOf_42 ⟨Nat.zero_le _, Nat.zero_le _⟩) (fun x_13 hx_13 => ?_)
            have rx_13 : rgI (1) (24) x_13 := hx_13.1
            have ex_14 : x_13 = F_X12_atOf (G.2.1 b0) y6_13 a2 := by rw [← (fr_13.2.1 b0 ⟨(ne_kd k_b0 hmk.2.2.2.1 (by decide)), trivial⟩)]; exact hx_13.2
            refine lv_bipush (v := 24) hx hb dX12_hitsOf_45 (by decide) ?_
            refine lv_icmp_ne (tgt := 68) hx hb dX12_hitsOf_47 (by decide) (fun c_15 => ?_) (fun c_15 => ?_)
            · have r_16 : rgI (1) (23) x_13 := rg_w (rg_neR rx_13 rl_24 c_15) (by decide) (by decide)
              refine lv_iconst (v := 0) hx hb dX12_hitsOf_68 (by decide) ?_
              exact L_69 H locs G_13 0 ls fr_13 r_5 hi0_13 hi1_13 hi2_13 (hit_n3 r_5 (by rw [← ex_14]; exact c_15)) (lv_sub hl [0, 1, 2, 3, 4, 6] rfl) hH hS
            · have r_17 : rgI (24) (24) x_13 := rg_w (rg_eq rl_24 c_15) (by decide) (by decide)
              have th_18 : thr (G.2.1 b0) y6_13 := SB.th hi1_13 r_5 hb_12
              refine lv_aload_n hx hb dX12_hitsOf_50 rfl (lv_at hl 0 rfl) ?_
              refine lv_aload_n hx hb dX12_hitsOf_51 rfl (lv_at hl 1 rfl) ?_
              refine lv_iload hx hb dX12_hitsOf_52 (lv_at hl 6 rfl) ?_
              refine lv_iload_n hx hb dX12_hitsOf_54 rfl (lv_at hl 3 rfl) ?_
              obtain ⟨_, ⟨rfl, t_20, hk_21⟩, o_c_19⟩ := hH h0 _ k_h0
              refine va_calli (va_runV (As := [.ref b0, .int y6_13, .int a2]) (rest := [.int y5_13]) ⟨hx, hb, hml, hown, hts⟩ (c_X12_isLet l g Ty G_13 H.size h0 b0 y6_13 a2 k_h0 k_b0 (rg_w r_5 (by decide) (by decide)) ρ (by rw [(fr_13.2.1 b0 ⟨(ne_kd k_b0 hmk.2.2.2.1 (by decide)), trivial⟩)]; exact hT) (by rw [(fr_13.2.1 b0 ⟨(ne_kd k_b0 hmk.2.2.2.1 (by decide)), trivial⟩)]; exact th_18) rl krl ((fr_13.2.2 111 (by decide)).trans hr1) (by rw [(fr_13.1 113 (by decide))]; exact hr3)) (cwV 3 hts (gwV mw_1570 mw_1572 mw_52 mw_88 mw_1573) rfl rfl rfl hv_X12_isLet ⟨Nat.le_of_ble_eq_true rfl, Nat.le_of_ble_eq_true rfl⟩) ⟨PcT_blind, hg_recv hK o_c_19 rfl, PcT_pre hK hH⟩ rfl rfl hl.1 rfl (lv_room (Nat.le_of_ble_eq_true rfl)) dX12_hitsOf_55 ⟨Nat.zero_le _, Nat.zero_le _⟩) hS (fun q _ h => AF.mono hS.1 h) (fun q h => AF.mono hS.1 h) (fun x_22 ux_22 t H locs ht hvm hx_22 hB hz hk hS => ?_)
              obtain ⟨hx_22, fx_22⟩ := hx_22
              obtain ⟨eTx_22, eGx_22⟩ := fx_22
              obtain ⟨G_23, eG_23⟩ : ∃ z, z = ux_22.2 := ⟨_, rfl⟩
              rw [← eG_23] at eGx_22
              have fr_24 : FR [107, 108, 109, 110, 114] [(g.2.2 115)] [106] G G_23 := FR.tr fr_13 eGx_22 (by decide) (fun b h => ⟨h.1, trivial⟩) (by decide)
              have u_25 : G_23.1 113 = (G.1 113) := (eGx_22.1 113 (by decide)).trans (fr_13.1 113 (by decide))
              have w_26 : G_23.2.1 b0 = (G.2.1 b0) := (eGx_22.2.1 b0 ⟨(ne_kd k_b0 hmk.2.2.2.1 (by decide)), trivial⟩).trans (fr_13.2.1 b0 ⟨(ne_kd k_b0 hmk.2.2.2.1 (by decide)), trivial⟩)
              have w_27 : G_23.2.1 rl = (G.2.1 rl) := (eGx_22.2.1 rl ⟨(ne_kd krl hmk.2.2.2.1 (by decide)), trivial⟩).trans (fr_13.2.1 rl ⟨(ne_kd krl hmk.2.2.2.1 (by decide)), trivial⟩)
              have u_28 : G_23.2.2 111 = some rl := (eGx_22.2.2 111 (by decide)).trans ((fr_13.2.2 111 (by decide)).trans hr1)
              have hH : HT g Ty G_23 H := by rw [← ht, ← eTx_22, eG_23]; exact hB
              have rx_22 : rgI (0) (1) x_22 := hx_22.1
              have lq_29 : x_22 = LetF (G.2.1 b0) (G.2.1 rl) (G.1 113) y6_13 a2 := by rw [← (fr_13.2.1 b0 ⟨(ne_kd k_b0 hmk.2.2.2.1 (by decide)), trivial⟩), ← (fr_13.2.1 rl ⟨(ne_kd krl hmk.2.2.2.1 (by decide)), trivial⟩), ← (fr_13.1 113 (by decide))]; exact hx_22.2
              refine lv_if_eq (tgt := 68) hx hb dX12_hitsOf_58 (by decide) (fun c_30 => ?_) (fun c_30 => ?_)
              · have r_31 : rgI (0) (0) x_22 := rg_w (rg_eq rl_0 c_30) (by decide) (by decide)
                refine lv_iconst (v := 0) hx hb dX12_hitsOf_68 (by decide) ?_
                exact L_69 H locs G_23 0 ls fr_24 r_5 hi0_13 hi1_13 hi2_13 (hit_n4 r_5 (by rw [← lq_29]; exact c_30)) (lv_sub hl [0, 1, 2, 3, 4, 6] rfl) hH hS
              · have r_32 : rgI (1) (1) x_22 := rg_w (rg_neL rx_22 rl_0 c_30) (by decide) (by decide)
                refine lv_iconst (v := 1) hx hb dX12_hitsOf_61 (by decide) ?_
                refine lv_iload hx hb dX12_hitsOf_62 (lv_at hl 6 rfl) ?_
                refine lv_ishl hx hb dX12_hitsOf_64 ?_
                refine lv_topi (fun x_33 ex_33 => ?_)
                refine lv_goto (tgt := 69) hx hb dX12_hitsOf_65 (by decide) ?_
                exact L_69 H locs G_23 x_33 ls fr_24 r_5 hi0_13 hi1_13 hi2_13 (hit_y r_5 c_6 (by rw [← hi0_13]; exact hb_12) (by rw [← ex_14]; exact c_15) (by rw [← lq_29]; exact c_30) ex_33) (lv_sub hl [0, 1, 2, 3, 4, 6] rfl) hH hS
  refine lv_aload_n hx hb dX12_hitsOf_0 rfl (lv_at hl 1 rfl) ?_
  refine lv_iload_n hx hb dX12_hitsOf_1 rfl (lv_at hl 2 rfl) ?_
  refine vp_callSi (W.runS (As := [.ref b0, .int a1]) (rest := []) ⟨hx, hb, hml, hown, hts⟩ (c_X12_spreadOf l g Ty G b0 a1 k_b0 hm0) (cwSx 2 hts hG (gwC mw_1560) mw_88 mw_1558 mw_1559 rfl rfl rfl hd_X12_spreadOf ⟨Nat.le_of_ble_eq_true rfl, Nat.le_of_ble_eq_true rfl⟩) ⟨PcH_blind, PcH_pre hK hH⟩ rfl rfl hl.1 rfl (lv_room (Nat.le_of_ble_eq_true rfl)) dX12_hitsOf_2 ⟨Nat.zero_le _, Nat.zero_le _⟩) (fun x_34 hx_34 => ?_)
  refine lv_istore (lv' := [(4, .int x_34), (0, .ref h0), (1, .ref b0), (2, .int a1), (3, .int a2)]) hx hb dX12_hitsOf_5 hl (by decide) rfl (fun ls hl => ?_)
  refine lv_iconst (v := 0) hx hb dX12_hitsOf_7 (by decide) ?_
  refine lv_istore (lv' := [(5, .int 0), (4, .int x_34), (0, .ref h0), (1, .ref b0), (2, .int a1), (3, .int a2)]) hx hb dX12_hitsOf_8 hl (by decide) rfl (fun ls hl => ?_)
  refine lv_iconst (v := 0) hx hb dX12_hitsOf_10 (by decide) ?_
  refine lv_istore (lv' := [(6, .int 0), (5, .int 0), (4, .int x_34), (0, .ref h0), (1, .ref b0), (2, .int a1), (3, .int a2)]) hx hb dX12_hitsOf_11 hl (by decide) rfl (fun ls hl => ?_)
  exact L_13 _ s.heap [] G x_34 0 0 ls FR.rf (rg_w rl_0 (by decide) (by decide)) hx_34.2 hx_34.1 HBk_0 (Nat.lt_succ_self _) (lv_sub hl [3, 4, 5, 6, 2, 1, 0] rfl) hH hS

set_option maxHeartbeats 4000000 in
set_option maxRecDepth 100000 in
theorem c_X12_refusesComing (l : Launch) (g : Gx) (Ty : TyM) (G : Gh) (sz : Nat) (h0 : Nat) (b0 : Nat) (a1 : Int32) (a2 : Int32) (k_h0 : Ty h0 = some (22, 0)) (k_b0 : Ty b0 = some (30, 122)) (ρ : Nat → Nat) (hT : P1 (G.2.1 b0) ρ) (rl : Nat) (krl : Ty rl = some (31, 40)) (hr1 : G.2.2 111 = some rl) (hr3 : rgI 0 40 (G.1 113)) : Met l yX12_refusesComing (wsG yX12_refusesComing cX12_refusesComing 4 (some .int)) ({ frames := 340, cells := 0, slots := 0, locals := 7970 }) (PcT g Ty G sz [.ref h0, .ref b0, .int a1, .int a2]) (QwI g Ty sz (fun r u => (rgI (-9) (0) r ∧ (r = 0 → COM (G.2.1 b0) (G.2.1 rl) (G.1 113) a1 a2)) ∧ u.1 = Ty ∧ FR [107, 108, 109, 110, 114] [(g.2.2 115)] [106] G u.2)) 0 0 (AF Ty sz) := by
  refine Met.ofW (cc := cX12_refusesComing) (maxL := 4) (ret := (some .int)) (by decide) rfl ?_
  intro p e s m args below meth c s₁ B hml hv
  obtain ⟨rfl, hsz, hK, hH⟩ := hv
  subst hsz
  have hx := B.exec
  have hb := B.bytes
  have hr := B.returns
  have hts := atoms_spec (ws := (wsG yX12_refusesComing cX12_refusesComing 4 (some .int))) B.pre
  have hG : ∀ w ∈ GW, w.before ([.ref h0, .ref b0, .int a1, .int a2] : List Value).toArray s = true := fun w h => hts w (List.mem_cons_of_mem _ h)
  have hown : s.vm.findClass RX12 = some m.cls := findClass_of_methodNamed B.named
  have hlocks := B.notSynchronized
  have hl := lv_entry [.ref h0, .ref b0, .int a1, .int a2] (n := 4) (Nat.le_of_ble_eq_true rfl)
  rw [lg_entry_eq]
  generalize (lg_sl [.ref h0, .ref b0, .int a1, .int a2] ++ List.replicate (4 - (lg_sl [.ref h0, .ref b0, .int a1, .int a2]).length) Slot.unset).toArray = ls at hl ⊢
  have hl : lv_has ls 4 [(0, .ref h0), (1, .ref b0), (2, .int a1), (3, .int a2)] := hl
  have hmk : mdK g Ty := mdk_of hH k_h0
  have hS : va_S (AF Ty s.heap.size) s.heap s.heap [] := va_S.rf
  refine lv_aload_n hx hb dX12_refusesComing_0 rfl (lv_at hl 1 rfl) ?_
  refine lv_iload_n hx hb dX12_refusesComing_1 rfl (lv_at hl 2 rfl) ?_
  refine vp_callSi (W.runS (As := [.ref b0, .int a1]) (rest := []) ⟨hx, hb, hml, hown, hts⟩ (c_X12_isThere l g Ty G b0 a1 k_b0) (cwSx 2 hts hG (gwC mw_1520) mw_88 mw_1518 mw_1519 rfl rfl rfl hd_X12_isThere ⟨Nat.le_of_ble_eq_true rfl, Nat.le_of_ble_eq_true rfl⟩) ⟨PcH_blind, PcH_pre hK hH⟩ rfl rfl hl.1 rfl (lv_room (Nat.le_of_ble_eq_true rfl)) dX12_refusesComing_2 ⟨Nat.zero_le _, Nat.zero_le _⟩) (fun x_1 hx_1 => ?_)
  have rx_1 : rgI (0) (1) x_1 := hx_1.1
  refine lv_if_eq (tgt := 15) hx hb dX12_refusesComing_5 (by decide) (fun c_2 => ?_) (fun c_2 => ?_)
  · have r_3 : rgI (0) (0) x_1 := rg_w (rg_eq rl_0 c_2) (by decide) (by decide)
    refine lv_iconst (v := (-1)) hx hb dX12_refusesComing_15 (by decide) ?_
    exact W.iret hx hb hr (fun t ht hWm => ⟨⟨(-1), (Ty, G), rfl, ⟨⟨rg_w rl_m1 (by decide) (by decide), (fun q => absurd q (by decide))⟩, ⟨rfl, FR.rf⟩⟩, by show HT g Ty G t.heap; rw [ht]; exact hH⟩, hS.F ht⟩) hS.2.2 dX12_refusesComing_16
  · have th_4 : thr (G.2.1 b0) a1 := F_isThere_thr (by rw [← hx_1.2.2]; exact c_2)
    have r_5 : rgI (1) (1) x_1 := rg_w (rg_neL rx_1 rl_0 c_2) (by decide) (by decide)
    have r_6 : rgI (0) (23) a1 := rg_w (hx_1.2.1.resolve_left c_2) (by decide) (by decide)
    refine lv_iload_n hx hb dX12_refusesComing_8 rfl (lv_at hl 3 rfl) ?_
    refine vp_callSi (W.runS (As := [.int a2]) (rest := []) ⟨hx, hb, hml, hown, hts⟩ (c_X12_isDir l g Ty G a2 ) (cwSx 1 hts hG (gwC mw_1537) mw_88 mw_1535 mw_1536 rfl rfl rfl hd_X12_isDir ⟨Nat.le_of_ble_eq_true rfl, Nat.le_of_ble_eq_true rfl⟩) ⟨PcH_blind, PcH_pre hK hH⟩ rfl rfl hl.1 rfl (lv_room (Nat.le_of_ble_eq_true rfl)) dX12_refusesComing_9 ⟨Nat.zero_le _, Nat.zero_le _⟩) (fun x_7 hx_7 => ?_)
    have rx_7 : rgI (0) (1) x_7 := hx_7.1
    refine lv_if_ne (tgt := 17) hx hb dX12_refusesComing_12 (by decide) (fun c_8 => ?_) (fun c_8 => ?_)
    · have r_9 : rgI (1) (1) x_7 := rg_w (rg_neL rx_7 rl_0 c_8) (by decide) (by decide)
      have r_10 : rgI (0) (3) a2 := rg_w (F_isDir_rg (by rw [← hx_7.2]; exact c_8)) (by decide) (by decide)
      refine lv_aload_n hx hb dX12_refusesComing_17 rfl (lv_at hl 1 rfl) ?_
      refine lv_iload_n hx hb dX12_refusesComing_18 rfl (lv_at hl 2 rfl) ?_
      refine lv_iload_n hx hb dX12_refusesComing_19 rfl (lv_at hl 3 rfl) ?_
      refine vp_callSi (W.runS (As := [.ref b0, .int a1, .int a2]) (rest := []) ⟨hx, hb, hml, hown, hts⟩ (c_X12_atOf l g Ty G b0 a1 a2 k_b0) (cwSx 3 hts hG (gwC mw_1509) mw_88 mw_1507 mw_1508 rfl rfl rfl hd_X12_atOf ⟨Nat.le_of_ble_eq_true rfl, Nat.le_of_ble_eq_true rfl⟩) ⟨PcH_blind, PcH_pre hK hH⟩ rfl rfl hl.1 rfl (lv_room (Nat.le_of_ble_eq_true rfl)) dX12_refusesComing_20 ⟨Nat.zero_le _, Nat.zero_le _⟩) (fun x_11 hx_11 => ?_)
      have rx_11 : rgI (1) (24) x_11 := hx_11.1
      refine lv_bipush (v := 24) hx hb dX12_refusesComing_23 (by decide) ?_
      refine lv_icmp_eq (tgt := 31) hx hb dX12_refusesComing_25 (by decide) (fun c_12 => ?_) (fun c_12 => ?_)
      · have r_13 : rgI (24) (24) x_11 := rg_w (rg_eq rl_24 c_12) (by decide) (by decide)
        refine lv_aload_n hx hb dX12_refusesComing_31 rfl (lv_at hl 1 rfl) ?_
        refine vp_callSi (W.runS (As := [.ref b0]) (rest := []) ⟨hx, hb, hml, hown, hts⟩ (c_X12_thereOf l g Ty G b0 k_b0) (cwSx 1 hts hG (gwC mw_1552) mw_88 mw_1550 mw_1551 rfl rfl rfl hd_X12_thereOf ⟨Nat.le_of_ble_eq_true rfl, Nat.le_of_ble_eq_true rfl⟩) ⟨PcH_blind, PcH_pre hK hH⟩ rfl rfl hl.1 rfl (lv_room (Nat.le_of_ble_eq_true rfl)) dX12_refusesComing_32 ⟨Nat.zero_le _, Nat.zero_le _⟩) (fun x_14 hx_14 => ?_)
        refine vp_callSi (W.runS (As := [.int x_14]) (rest := []) ⟨hx, hb, hml, hown, hts⟩ (c_J6_bitCount_x l g Ty G x_14 ) (cwSx 1 hts hG (gwC mw_620) mw_99 mw_1553 mw_619 rfl rfl rfl hd_J6_bitCount_0f7a4 ⟨Nat.le_of_ble_eq_true rfl, Nat.le_of_ble_eq_true rfl⟩) ⟨PcH_blind, PcH_pre hK hH⟩ rfl rfl hl.1 rfl (lv_room (Nat.le_of_ble_eq_true rfl)) dX12_refusesComing_35 ⟨Nat.zero_le _, Nat.zero_le _⟩) (fun x_15 hx_15 => ?_)
        have rx_15 : rgI (0) (63) x_15 := hx_15.1
        have cq_16 : x_15 = F_J6_bitCount_0f7a4 (F_X12_thereOf (G.2.1 b0)) := by rw [← hx_14]; exact hx_15.2
        refine lv_iconst (v := 1) hx hb dX12_refusesComing_38 (by decide) ?_
        refine lv_iadd hx hb dX12_refusesComing_39 ?_
        refine lv_topi (fun x_17 ex_17 => ?_)
        have rx_17 : rgI (1) (64) x_17 := by rw [ex_17]; exact rg_w (rg_add rx_15 rl_1 (by decide) (by decide)) (by decide) (by decide)
        have qx_17 : x_17.toInt = (x_15 : Int32).toInt + 1 := by rw [ex_17]; exact rg_addE rx_15 rl_1 (by decide) (by decide)
        refine lv_aload_n hx hb dX12_refusesComing_40 rfl (lv_at hl 0 rfl) ?_
        refine lv_aload_n hx hb dX12_refusesComing_41 rfl (lv_at hl 1 rfl) ?_
        refine lv_iload_n hx hb dX12_refusesComing_42 rfl (lv_at hl 2 rfl) ?_
        refine lv_iload_n hx hb dX12_refusesComing_43 rfl (lv_at hl 3 rfl) ?_
        obtain ⟨_, ⟨rfl, t_19, hk_20⟩, o_c_18⟩ := hH h0 _ k_h0
        refine va_calli (va_runV (As := [.ref b0, .int a1, .int a2]) (rest := [.int x_17]) ⟨hx, hb, hml, hown, hts⟩ (c_X12_hitsOf l g Ty G s.heap.size h0 b0 a1 a2 k_h0 k_b0 ρ hT th_4 rl krl hr1 hr3) (cwV 3 hts (gwV mw_1554 mw_1556 mw_51 mw_88 mw_1557) rfl rfl rfl hv_X12_hitsOf ⟨Nat.le_of_ble_eq_true rfl, Nat.le_of_ble_eq_true rfl⟩) ⟨PcT_blind, hg_recv hK o_c_18 rfl, PcT_pre hK hH⟩ rfl rfl hl.1 rfl (lv_room (Nat.le_of_ble_eq_true rfl)) dX12_refusesComing_44 ⟨Nat.zero_le _, Nat.zero_le _⟩) hS (fun q _ h => AF.mono hS.1 h) (fun q h => AF.mono hS.1 h) (fun x_21 ux_21 t H locs ht hvm hx_21 hB hz hk hS => ?_)
        obtain ⟨hx_21, fx_21⟩ := hx_21
        obtain ⟨eTx_21, eGx_21⟩ := fx_21
        obtain ⟨G_22, eG_22⟩ : ∃ z, z = ux_21.2 := ⟨_, rfl⟩
        rw [← eG_22] at eGx_21
        have fr_23 : FR [107, 108, 109, 110, 114] [(g.2.2 115)] [106] G G_22 := FR.tr FR.rf eGx_21 (by decide) (fun b h => ⟨h.1, trivial⟩) (by decide)
        have u_24 : G_22.1 113 = (G.1 113) := (eGx_21.1 113 (by decide))
        have w_25 : G_22.2.1 b0 = (G.2.1 b0) := (eGx_21.2.1 b0 ⟨(ne_kd k_b0 hmk.2.2.2.1 (by decide)), trivial⟩)
        have w_26 : G_22.2.1 rl = (G.2.1 rl) := (eGx_21.2.1 rl ⟨(ne_kd krl hmk.2.2.2.1 (by decide)), trivial⟩)
        have u_27 : G_22.2.2 111 = some rl := (eGx_21.2.2 111 (by decide)).trans hr1
        have hH : HT g Ty G_22 H := by rw [← ht, ← eTx_21, eG_22]; exact hB
        refine vp_callSi (W.runS (As := [.int x_21]) (rest := [.int x_17]) ⟨hx, hb, hml, hown, hts⟩ (c_J6_bitCount_x l g Ty G_22 x_21 ) (cwSx 1 hts hG (gwC mw_620) mw_99 mw_1553 mw_619 rfl rfl rfl hd_J6_bitCount_0f7a4 ⟨Nat.le_of_ble_eq_true rfl, Nat.le_of_ble_eq_true rfl⟩) ⟨PcH_blind, PcH_pre hK hH⟩ rfl rfl hl.1 rfl (lv_room (Nat.le_of_ble_eq_true rfl)) dX12_refusesComing_47 ⟨Nat.zero_le _, Nat.zero_le _⟩) (fun x_28 hx_28 => ?_)
        have rx_28 : rgI (0) (63) x_28 := hx_28.1
        refine lv_iadd hx hb dX12_refusesComing_50 ?_
        refine lv_topi (fun x_29 ex_29 => ?_)
        have rx_29 : rgI (1) (127) x_29 := by rw [ex_29]; exact rg_w (rg_add rx_17 rx_28 (by decide) (by decide)) (by decide) (by decide)
        refine lv_bipush (v := 24) hx hb dX12_refusesComing_51 (by decide) ?_
        refine lv_icmp_le (tgt := 61) hx hb dX12_refusesComing_53 (by decide) (fun c_30 => ?_) (fun c_30 => ?_)
        · have r_31 : rgI (1) (24) x_29 := rg_w (rg_leL rx_29 rl_24 c_30) (by decide) (by decide)
          refine lv_iconst (v := 0) hx hb dX12_refusesComing_61 (by decide) ?_
          exact W.iret hx hb hr (fun t ht hWm => ⟨⟨0, (Ty, G_22), rfl, ⟨⟨rg_w rl_0 (by decide) (by decide), (fun _ => ⟨th_4, r_10, (by rw [← hx_11.2]; exact c_12), com_cnt hx_21.1 hx_21.2 cq_16 ex_17 hx_28.2 ex_29 c_30⟩)⟩, ⟨rfl, fr_23⟩⟩, by show HT g Ty G_22 t.heap; rw [ht]; exact hH⟩, hS.F ht⟩) hS.2.2 dX12_refusesComing_62
        · have r_32 : rgI (25) (127) x_29 := rg_w (rg_ltR rl_24 rx_29 (nle_lt c_30)) (by decide) (by decide)
          refine lv_bipush (v := (-9)) hx hb dX12_refusesComing_56 (by decide) ?_
          refine lv_goto (tgt := 62) hx hb dX12_refusesComing_58 (by decide) ?_
          exact W.iret hx hb hr (fun t ht hWm => ⟨⟨(-9), (Ty, G_22), rfl, ⟨⟨rg_w rl_m9 (by decide) (by decide), (fun q => absurd q (by decide))⟩, ⟨rfl, fr_23⟩⟩, by show HT g Ty G_22 t.heap; rw [ht]; exact hH⟩, hS.F ht⟩) hS.2.2 dX12_refusesComing_62
      · have r_33 : rgI (1) (23) x_11 := rg_w (rg_neR rx_11 rl_24 c_12) (by decide) (by decide)
        refine lv_bipush (v := (-2)) hx hb dX12_refusesComing_28 (by decide) ?_
        exact W.iret hx hb hr (fun t ht hWm => ⟨⟨(-2), (Ty, G), rfl, ⟨⟨rg_w rl_m2 (by decide) (by decide), (fun q => absurd q (by decide))⟩, ⟨rfl, FR.rf⟩⟩, by show HT g Ty G t.heap; rw [ht]; exact hH⟩, hS.F ht⟩) hS.2.2 dX12_refusesComing_30
    · have r_34 : rgI (0) (0) x_7 := rg_w (rg_eq rl_0 c_8) (by decide) (by decide)
      refine lv_iconst (v := (-1)) hx hb dX12_refusesComing_15 (by decide) ?_
      exact W.iret hx hb hr (fun t ht hWm => ⟨⟨(-1), (Ty, G), rfl, ⟨⟨rg_w rl_m1 (by decide) (by decide), (fun q => absurd q (by decide))⟩, ⟨rfl, FR.rf⟩⟩, by show HT g Ty G t.heap; rw [ht]; exact hH⟩, hS.F ht⟩) hS.2.2 dX12_refusesComing_16
