def F_X12_hitsOf_x_13 : Nat → Int32 → Int32 → Int32 → Int32 → Int32 → (Nat → Int32) → (Nat → Int32) → Int32 → Int32
  | 0, _, _, _, y5, _, _, _, _ => y5
  | n + 1, y2, y3, y4, y5, y6, yr0, yr1, yn113 => (if (24 : Int32) ≤ y6 then y5 else (if y6 = y2 then (F_X12_hitsOf_x_13 n y2 y3 y4 (y5 ||| (0 : Int32)) (y6 + (1 : Int32)) yr0 yr1 yn113) else (if (F_X12_has y4 y6) = (0 : Int32) then (F_X12_hitsOf_x_13 n y2 y3 y4 (y5 ||| (0 : Int32)) (y6 + (1 : Int32)) yr0 yr1 yn113) else (if (F_X12_atOf yr0 y6 y3) = (24 : Int32) then (if (LetF yr0 yr1 yn113 y6 y3) = (0 : Int32) then (F_X12_hitsOf_x_13 n y2 y3 y4 (y5 ||| (0 : Int32)) (y6 + (1 : Int32)) yr0 yr1 yn113) else (F_X12_hitsOf_x_13 n y2 y3 y4 (y5 ||| ((1 : Int32) <<< (y6 &&& 31))) (y6 + (1 : Int32)) yr0 yr1 yn113)) else (F_X12_hitsOf_x_13 n y2 y3 y4 (y5 ||| (0 : Int32)) (y6 + (1 : Int32)) yr0 yr1 yn113)))))
def F_X12_hitsOf_x (r0 : Nat → Int32) (r1 : Nat → Int32) (m113 : Int32) (a1 : Int32) (a2 : Int32) : Int32 := (F_X12_hitsOf_x_13 26 a1 a2 (F_X12_spreadOf r0 a1) (0 : Int32) (0 : Int32) r0 r1 m113)
set_option maxHeartbeats 4000000 in
set_option maxRecDepth 100000 in
theorem c_X12_hitsOf_x (l : Launch) (g : Gx) (Ty : TyM) (G : Gh) (sz : Nat) (h0 : Nat) (b0 : Nat) (a1 : Int32) (a2 : Int32) (k_h0 : Ty h0 = some (22, 0)) (k_b0 : Ty b0 = some (30, 122)) (ρ : Nat → Nat) (hT : P1 (G.2.1 b0) ρ) (hm0 : thr (G.2.1 b0) a1) (rl : Nat) (krl : Ty rl = some (31, 40)) (hr1 : G.2.2 111 = some rl) (hr3 : rgI 0 40 (G.1 113)) : Met l yX12_hitsOf (wsG yX12_hitsOf cX12_hitsOf 7 (some .int)) ({ frames := 339, cells := 0, slots := 0, locals := 7944 }) (PcT g Ty G sz [.ref h0, .ref b0, .int a1, .int a2]) (QwI g Ty sz (fun r u => ((HB (G.2.1 b0) (G.2.1 rl) (G.1 113) a1 a2 r) ∧ (SB (G.2.1 b0) (F_X12_spreadOf (G.2.1 b0) a1))) ∧ u.1 = Ty ∧ FR [107, 108, 109, 110, 114] [(g.2.2 115)] [106] G u.2 ∧ F_X12_hitsOf_x (G.2.1 b0) (G.2.1 rl) (G.1 113) a1 a2 = r)) 0 0 (AF Ty sz) := by
  refine Met.ofW (cc := cX12_hitsOf) (maxL := 7) (ret := (some .int)) (by decide) rfl ?_
  intro p e s m args below meth c s₁ B hml hv
  obtain ⟨rfl, hsz, hK, hH⟩ := hv
  subst hsz
  have hx := B.exec
  have hb := B.bytes
  have hr := B.returns
  have hts := atoms_spec (ws := (wsG yX12_hitsOf cX12_hitsOf 7 (some .int))) B.pre
  have hG : ∀ w ∈ GW, w.before ([.ref h0, .ref b0, .int a1, .int a2] : List Value).toArray s = true := fun w h => hts w (List.mem_cons_of_mem _ h)
  have hown : s.vm.findClass RX12 = some m.cls := findClass_of_methodNamed B.named
  have hlocks := B.notSynchronized
  have hl := lv_entry [.ref h0, .ref b0, .int a1, .int a2] (n := 7) (Nat.le_of_ble_eq_true rfl)
  rw [lg_entry_eq]
  generalize (lg_sl [.ref h0, .ref b0, .int a1, .int a2] ++ List.replicate (7 - (lg_sl [.ref h0, .ref b0, .int a1, .int a2]).length) Slot.unset).toArray = ls at hl ⊢
  have hl : lv_has ls 7 [(0, .ref h0), (1, .ref b0), (2, .int a1), (3, .int a2)] := hl
  have hmk : mdK g Ty := mdk_of hH k_h0
  have hv : (F_X12_hitsOf_x_13 26 a1 a2 (F_X12_spreadOf (G.2.1 b0) a1) (0 : Int32) (0 : Int32) (G.2.1 b0) (G.2.1 rl) (G.1 113)) = F_X12_hitsOf_x (G.2.1 b0) (G.2.1 rl) (G.1 113) a1 a2 := rfl
  have hS : va_S (AF Ty s.heap.size) s.heap s.heap [] := va_S.rf
  have L_13 : ∀ (n_13 : Nat) (H : Heap) (locs : List Loc) (G_13 : Gh) (y4_13 : Int32) (y5_13 : Int32) (y6_13 : Int32) (ls : Array Slot), FR [107, 108, 109, 110, 114] [(g.2.2 115)] [106] G G_13 → rgI (0) (24) y6_13 → y4_13 = F_X12_spreadOf (G.2.1 b0) a1 → SB (G.2.1 b0) y4_13 → HBk (G.2.1 b0) (G.2.1 rl) (G.1 113) a1 a2 y5_13 (y6_13 : Int32).toNatClampNeg → (24 - (y6_13).toInt).toNat < n_13 → lv_has ls 7 [(0, .ref h0), (1, .ref b0), (2, .int a1), (3, .int a2), (4, .int y4_13), (5, .int y5_13), (6, .int y6_13)] → (F_X12_hitsOf_x_13 n_13 a1 a2 y4_13 y5_13 y6_13 (G.2.1 b0) (G.2.1 rl) (G.1 113)) = F_X12_hitsOf_x (G.2.1 b0) (G.2.1 rl) (G.1 113) a1 a2 → HT g Ty G_13 H → va_S (AF Ty s.heap.size) s.heap H locs → Wm p l e (wsG yX12_hitsOf cX12_hitsOf 7 (some .int)) ({ frames := 339, cells := 0, slots := 0, locals := 7944 }) s m [.ref h0, .ref b0, .int a1, .int a2] below meth c H locs (0) (0) (QwI g Ty s.heap.size (fun r u => ((HB (G.2.1 b0) (G.2.1 rl) (G.1 113) a1 a2 r) ∧ (SB (G.2.1 b0) (F_X12_spreadOf (G.2.1 b0) a1))) ∧ u.1 = Ty ∧ FR [107, 108, 109, 110, 114] [(g.2.2 115)] [106] G u.2 ∧ F_X12_hitsOf_x (G.2.1 b0) (G.2.1 rl) (G.1 113) a1 a2 = r)) 0 0 (AF Ty s.heap.size) (F0 m 13 ls []) := by
    intro n_13
    induction n_13 with
    | zero => intro H locs G_13 y4_13 y5_13 y6_13 ls frL_13 ry6_13 hi0_13 hi1_13 hi2_13 hm; exact absurd hm (Nat.not_lt_zero _)
    | succ n_13 ih_13 =>
      intro H locs G_13 y4_13 y5_13 y6_13 ls frL_13 ry6_13 hi0_13 hi1_13 hi2_13 hm_13 hl hv hH hS
      have L_69 : ∀ (H : Heap) (locs : List Loc) (G_69 : Gh) (z0_69 : Int32) (ls : Array Slot), FR [107, 108, 109, 110, 114] [(g.2.2 115)] [106] G G_69 → rgI (0) (23) y6_13 → y4_13 = F_X12_spreadOf (G.2.1 b0) a1 → SB (G.2.1 b0) y4_13 → HBk (G.2.1 b0) (G.2.1 rl) (G.1 113) a1 a2 y5_13 (y6_13 : Int32).toNatClampNeg → (∀ i, bt (z0_69 : Int32) i = (decide (i = (y6_13 : Int32).toNatClampNeg) && hitb (G.2.1 b0) (G.2.1 rl) (G.1 113) a1 a2 i)) → lv_has ls 7 [(0, .ref h0), (1, .ref b0), (2, .int a1), (3, .int a2), (4, .int y4_13), (6, .int y6_13)] → (F_X12_hitsOf_x_13 n_13 a1 a2 y4_13 (y5_13 ||| z0_69) (y6_13 + (1 : Int32)) (G.2.1 b0) (G.2.1 rl) (G.1 113)) = F_X12_hitsOf_x (G.2.1 b0) (G.2.1 rl) (G.1 113) a1 a2 → HT g Ty G_69 H → va_S (AF Ty s.heap.size) s.heap H locs → Wm p l e (wsG yX12_hitsOf cX12_hitsOf 7 (some .int)) ({ frames := 339, cells := 0, slots := 0, locals := 7944 }) s m [.ref h0, .ref b0, .int a1, .int a2] below meth c H locs (0) (0) (QwI g Ty s.heap.size (fun r u => ((HB (G.2.1 b0) (G.2.1 rl) (G.1 113) a1 a2 r) ∧ (SB (G.2.1 b0) (F_X12_spreadOf (G.2.1 b0) a1))) ∧ u.1 = Ty ∧ FR [107, 108, 109, 110, 114] [(g.2.2 115)] [106] G u.2 ∧ F_X12_hitsOf_x (G.2.1 b0) (G.2.1 rl) (G.1 113) a1 a2 = r)) 0 0 (AF Ty s.heap.size) (F0 m 69 ls [.int z0_69, .int y5_13]) := by
        intro H locs G_69 z0_69 ls frL_69 ry6_69 hi0_69 hi1_69 hi2_69 hi3_69 hl hv hH hS
        refine lv_ior hx hb dX12_hitsOf_69 ?_
        refine lv_topi (fun x_1 ex_1 => ?_)
        try rw [← ex_1] at hv
        refine lv_istore (lv' := [(5, .int x_1), (0, .ref h0), (1, .ref b0), (2, .int a1), (3, .int a2), (4, .int y4_13), (6, .int y6_13)]) hx hb dX12_hitsOf_70 hl (by decide) rfl (fun ls hl => ?_)
        obtain ⟨x_2, ex_2⟩ : ∃ y : Int32, y = y6_13 + 1 := ⟨_, rfl⟩
        try rw [← ex_2] at hv
        have rx_2 : rgI (1) (24) x_2 := by rw [ex_2]; exact rg_w (rg_add ry6_69 rl_1 (by decide) (by decide)) (by decide) (by decide)
        have qx_2 : x_2.toInt = (y6_13 : Int32).toInt + 1 := by rw [ex_2]; exact rg_addE ry6_69 rl_1 (by decide) (by decide)
        refine lv_iinc (v := x_2) (lv' := [(6, .int x_2), (5, .int x_1), (0, .ref h0), (1, .ref b0), (2, .int a1), (3, .int a2), (4, .int y4_13)]) hx hb dX12_hitsOf_72 hl (k := 6) rfl (by rw [ex_2]; rfl) (by decide) rfl (fun ls hl => ?_)
        refine lv_goto (tgt := 13) hx hb dX12_hitsOf_75 (by decide) ?_
        exact ih_13 H locs G_69 y4_13 x_1 x_2 ls frL_69 (rg_w rx_2 (by decide) (by decide)) hi0_69 hi1_69 (HBk_s hi2_69 hi3_69 ex_1 (rg_w ry6_69 (by decide) (by decide)) qx_2) (by have h1 := qx_2; have h2 := ry6_69.1; have h3 := ry6_69.2; have h4 := hm_13; omega) (lv_sub hl [2, 3, 4, 5, 6, 1, 0] rfl) hv hH hS
      rw [F_X12_hitsOf_x_13] at hv
      refine lv_iload hx hb dX12_hitsOf_13 (lv_at hl 6 rfl) ?_
      refine lv_bipush (v := 24) hx hb dX12_hitsOf_15 (by decide) ?_
      refine lv_icmp_ge (tgt := 78) hx hb dX12_hitsOf_17 (by decide) (fun c_3 => ?_) (fun c_3 => ?_)
      · rw [if_pos c_3] at hv
        have r_4 : rgI (24) (24) y6_13 := rg_w (rg_leR rl_24 ry6_13 c_3) (by decide) (by decide)
        refine lv_iload hx hb dX12_hitsOf_78 (lv_at hl 5 rfl) ?_
        exact W.iret hx hb hr (fun t ht hWm => ⟨⟨y5_13, (Ty, G_13), rfl, ⟨⟨HBk_e hi2_13 r_4, (by rw [← hi0_13]; exact hi1_13)⟩, ⟨rfl, ⟨frL_13, hv.symm⟩⟩⟩, by show HT g Ty G_13 t.heap; rw [ht]; exact hH⟩, hS.F ht⟩) hS.2.2 dX12_hitsOf_80
      · rw [if_neg c_3] at hv
        have r_5 : rgI (0) (23) y6_13 := rg_w (rg_ltL ry6_13 rl_24 (nle_lt c_3)) (by decide) (by decide)
        refine lv_iload hx hb dX12_hitsOf_20 (lv_at hl 5 rfl) ?_
        refine lv_iload hx hb dX12_hitsOf_22 (lv_at hl 6 rfl) ?_
        refine lv_iload_n hx hb dX12_hitsOf_24 rfl (lv_at hl 2 rfl) ?_
        refine lv_icmp_eq (tgt := 68) hx hb dX12_hitsOf_25 (by decide) (fun c_6 => ?_) (fun c_6 => ?_)
        · rw [if_pos c_6] at hv
          refine lv_iconst (v := 0) hx hb dX12_hitsOf_68 (by decide) ?_
          exact L_69 H locs G_13 0 ls frL_13 r_5 hi0_13 hi1_13 hi2_13 (hit_n1 r_5 c_6) (lv_sub hl [0, 1, 2, 3, 4, 6] rfl) hv hH hS
        · rw [if_neg c_6] at hv
          refine lv_iload hx hb dX12_hitsOf_28 (lv_at hl 4 rfl) ?_
          refine lv_iload hx hb dX12_hitsOf_30 (lv_at hl 6 rfl) ?_
          refine vp_callSi (W.runS (As := [.int y4_13, .int y6_13]) (rest := [.int y5_13]) ⟨hx, hb, hml, hown, hts⟩ (c_X12_has l g Ty G_13 y4_13 y6_13 ) (cwSx 2 hts hG (gwC mw_1563) mw_88 mw_1561 mw_1562 rfl rfl rfl hd_X12_has ⟨Nat.le_of_ble_eq_true rfl, Nat.le_of_ble_eq_true rfl⟩) ⟨PcH_blind, PcH_pre hK hH⟩ rfl rfl hl.1 rfl (lv_room (Nat.le_of_ble_eq_true rfl)) dX12_hitsOf_32 ⟨Nat.zero_le _, Nat.zero_le _⟩) (fun x_7 hx_7 => ?_)
          have rx_7 : rgI (0) (1) x_7 := hx_7.1
          try rw [← hx_7.2] at hv
          try rw [← hx_7.2] at hv
          refine lv_if_eq (tgt := 68) hx hb dX12_hitsOf_35 (by decide) (fun c_8 => ?_) (fun c_8 => ?_)
          · rw [if_pos c_8] at hv
            have r_9 : rgI (0) (0) x_7 := rg_w (rg_eq rl_0 c_8) (by decide) (by decide)
            have hb_10 : bt y4_13 (y6_13 : Int32).toNatClampNeg = false := has_0 (rg_w r_5 (by decide) (by decide)) (by rw [← hx_7.2]; exact c_8)
            refine lv_iconst (v := 0) hx hb dX12_hitsOf_68 (by decide) ?_
            exact L_69 H locs G_13 0 ls frL_13 r_5 hi0_13 hi1_13 hi2_13 (hit_n2 r_5 (by rw [← hi0_13]; exact hb_10)) (lv_sub hl [0, 1, 2, 3, 4, 6] rfl) hv hH hS
          · rw [if_neg c_8] at hv
            have r_11 : rgI (1) (1) x_7 := rg_w (rg_neL rx_7 rl_0 c_8) (by decide) (by decide)
            have hb_12 : bt y4_13 (y6_13 : Int32).toNatClampNeg = true := has_1 (rg_w r_5 (by decide) (by decide)) (by rw [← hx_7.2]; exact c_8)
            refine lv_aload_n hx hb dX12_hitsOf_38 rfl (lv_at hl 1 rfl) ?_
            refine lv_iload hx hb dX12_hitsOf_39 (lv_at hl 6 rfl) ?_
            refine lv_iload_n hx hb dX12_hitsOf_41 rfl (lv_at hl 3 rfl) ?_
            refine vp_callSi (W.runS (As := [.ref b0, .int y6_13, .int a2]) (rest := [.int y5_13]) ⟨hx, hb, hml, hown, hts⟩ (c_X12_atOf l g Ty G_13 b0 y6_13 a2 k_b0) (cwSx 3 hts hG (gwC mw_1509) mw_88 mw_1507 mw_1508 rfl rfl rfl hd_X12_atOf ⟨Nat.le_of_ble_eq_true rfl, Nat.le_of_ble_eq_true rfl⟩) ⟨PcH_blind, PcH_pre hK hH⟩ rfl rfl hl.1 rfl (lv_room (Nat.le_of_ble_eq_true rfl)) dX12_hitsOf_42 ⟨Nat.zero_le _, Nat.zero_le _⟩) (fun x_13 hx_13 => ?_)
            have rx_13 : rgI (1) (24) x_13 := hx_13.1
            try rw [← hx_13.2] at hv
            have ex_14 : x_13 = F_X12_atOf (G.2.1 b0) y6_13 a2 := by rw [← (frL_13.2.1 b0 ⟨(ne_kd k_b0 hmk.2.2.2.1 (by decide)), trivial⟩)]; exact hx_13.2
            try rw [← ex_14] at hv
            refine lv_bipush (v := 24) hx hb dX12_hitsOf_45 (by decide) ?_
            refine lv_icmp_ne (tgt := 68) hx hb dX12_hitsOf_47 (by decide) (fun c_15 => ?_) (fun c_15 => ?_)
            · rw [if_neg c_15] at hv
              have r_16 : rgI (1) (23) x_13 := rg_w (rg_neR rx_13 rl_24 c_15) (by decide) (by decide)
              refine lv_iconst (v := 0) hx hb dX12_hitsOf_68 (by decide) ?_
              exact L_69 H locs G_13 0 ls frL_13 r_5 hi0_13 hi1_13 hi2_13 (hit_n3 r_5 (by rw [← ex_14]; exact c_15)) (lv_sub hl [0, 1, 2, 3, 4, 6] rfl) hv hH hS
            · rw [if_pos c_15] at hv
              have r_17 : rgI (24) (24) x_13 := rg_w (rg_eq rl_24 c_15) (by decide) (by decide)
              have th_18 : thr (G.2.1 b0) y6_13 := SB.th hi1_13 r_5 hb_12
              refine lv_aload_n hx hb dX12_hitsOf_50 rfl (lv_at hl 0 rfl) ?_
              refine lv_aload_n hx hb dX12_hitsOf_51 rfl (lv_at hl 1 rfl) ?_
              refine lv_iload hx hb dX12_hitsOf_52 (lv_at hl 6 rfl) ?_
              refine lv_iload_n hx hb dX12_hitsOf_54 rfl (lv_at hl 3 rfl) ?_
              obtain ⟨_, ⟨rfl, t_20, hk_21⟩, o_c_19⟩ := hH h0 _ k_h0
              refine va_calli (va_runV (As := [.ref b0, .int y6_13, .int a2]) (rest := [.int y5_13]) ⟨hx, hb, hml, hown, hts⟩ (c_X12_isLet l g Ty G_13 H.size h0 b0 y6_13 a2 k_h0 k_b0 (rg_w r_5 (by decide) (by decide)) ρ (by rw [(frL_13.2.1 b0 ⟨(ne_kd k_b0 hmk.2.2.2.1 (by decide)), trivial⟩)]; exact hT) (by rw [(frL_13.2.1 b0 ⟨(ne_kd k_b0 hmk.2.2.2.1 (by decide)), trivial⟩)]; exact th_18) rl krl ((frL_13.2.2 111 (by decide)).trans hr1) (by rw [(frL_13.1 113 (by decide))]; exact hr3)) (cwV 3 hts (gwV mw_1570 mw_1572 mw_52 mw_88 mw_1573) rfl rfl rfl hv_X12_isLet ⟨Nat.le_of_ble_eq_true rfl, Nat.le_of_ble_eq_true rfl⟩) ⟨PcT_blind, hg_recv hK o_c_19 rfl, PcT_pre hK hH⟩ rfl rfl hl.1 rfl (lv_room (Nat.le_of_ble_eq_true rfl)) dX12_hitsOf_55 ⟨Nat.zero_le _, Nat.zero_le _⟩) hS (fun q _ h => AF.mono hS.1 h) (fun q h => AF.mono hS.1 h) (fun x_22 ux_22 t H locs ht hvm hx_22 hB hz hk hS => ?_)
              obtain ⟨hx_22, fx_22⟩ := hx_22
              obtain ⟨eTx_22, eGx_22⟩ := fx_22
              obtain ⟨G_23, eG_23⟩ : ∃ z, z = ux_22.2 := ⟨_, rfl⟩
              rw [← eG_23] at eGx_22
              have fr_24 : FR [107, 108, 109, 110, 114] [(g.2.2 115)] [106] G G_23 := FR.tr frL_13 eGx_22 (by decide) (fun b h => ⟨h.1, trivial⟩) (by decide)
              have u_25 : G_23.1 113 = (G.1 113) := (eGx_22.1 113 (by decide)).trans (frL_13.1 113 (by decide))
              have w_26 : G_23.2.1 b0 = (G.2.1 b0) := (eGx_22.2.1 b0 ⟨(ne_kd k_b0 hmk.2.2.2.1 (by decide)), trivial⟩).trans (frL_13.2.1 b0 ⟨(ne_kd k_b0 hmk.2.2.2.1 (by decide)), trivial⟩)
              have w_27 : G_23.2.1 rl = (G.2.1 rl) := (eGx_22.2.1 rl ⟨(ne_kd krl hmk.2.2.2.1 (by decide)), trivial⟩).trans (frL_13.2.1 rl ⟨(ne_kd krl hmk.2.2.2.1 (by decide)), trivial⟩)
              have u_28 : G_23.2.2 111 = some rl := (eGx_22.2.2 111 (by decide)).trans ((frL_13.2.2 111 (by decide)).trans hr1)
              have hH : HT g Ty G_23 H := by rw [← ht, ← eTx_22, eG_23]; exact hB
              have rx_22 : rgI (0) (1) x_22 := hx_22.1
              have lt_29 : x_22 = LetF (G.2.1 b0) (G.2.1 rl) (G.1 113) y6_13 a2 := by have q := hx_22.2; (try rw [(frL_13.2.1 b0 ⟨(ne_kd k_b0 hmk.2.2.2.1 (by decide)), trivial⟩)] at q); (try rw [(frL_13.2.1 rl ⟨(ne_kd krl hmk.2.2.2.1 (by decide)), trivial⟩)] at q); (try rw [(frL_13.1 113 (by decide))] at q); exact q
              try rw [← lt_29] at hv
              have lq_30 : x_22 = LetF (G.2.1 b0) (G.2.1 rl) (G.1 113) y6_13 a2 := by rw [← (frL_13.2.1 b0 ⟨(ne_kd k_b0 hmk.2.2.2.1 (by decide)), trivial⟩), ← (frL_13.2.1 rl ⟨(ne_kd krl hmk.2.2.2.1 (by decide)), trivial⟩), ← (frL_13.1 113 (by decide))]; exact hx_22.2
              refine lv_if_eq (tgt := 68) hx hb dX12_hitsOf_58 (by decide) (fun c_31 => ?_) (fun c_31 => ?_)
              · rw [if_pos c_31] at hv
                have r_32 : rgI (0) (0) x_22 := rg_w (rg_eq rl_0 c_31) (by decide) (by decide)
                refine lv_iconst (v := 0) hx hb dX12_hitsOf_68 (by decide) ?_
                exact L_69 H locs G_23 0 ls fr_24 r_5 hi0_13 hi1_13 hi2_13 (hit_n4 r_5 (by rw [← lq_30]; exact c_31)) (lv_sub hl [0, 1, 2, 3, 4, 6] rfl) hv hH hS
              · rw [if_neg c_31] at hv
                have r_33 : rgI (1) (1) x_22 := rg_w (rg_neL rx_22 rl_0 c_31) (by decide) (by decide)
                refine lv_iconst (v := 1) hx hb dX12_hitsOf_61 (by decide) ?_
                refine lv_iload hx hb dX12_hitsOf_62 (lv_at hl 6 rfl) ?_
                refine lv_ishl hx hb dX12_hitsOf_64 ?_
                refine lv_topi (fun x_34 ex_34 => ?_)
                try rw [← ex_34] at hv
                refine lv_goto (tgt := 69) hx hb dX12_hitsOf_65 (by decide) ?_
                exact L_69 H locs G_23 x_34 ls fr_24 r_5 hi0_13 hi1_13 hi2_13 (hit_y r_5 c_6 (by rw [← hi0_13]; exact hb_12) (by rw [← ex_14]; exact c_15) (by rw [← lq_30]; exact c_31) ex_34) (lv_sub hl [0, 1, 2, 3, 4, 6] rfl) hv hH hS
  refine lv_aload_n hx hb dX12_hitsOf_0 rfl (lv_at hl 1 rfl) ?_
  refine lv_iload_n hx hb dX12_hitsOf_1 rfl (lv_at hl 2 rfl) ?_
  refine vp_callSi (W.runS (As := [.ref b0, .int a1]) (rest := []) ⟨hx, hb, hml, hown, hts⟩ (c_X12_spreadOf l g Ty G b0 a1 k_b0 hm0) (cwSx 2 hts hG (gwC mw_1560) mw_88 mw_1558 mw_1559 rfl rfl rfl hd_X12_spreadOf ⟨Nat.le_of_ble_eq_true rfl, Nat.le_of_ble_eq_true rfl⟩) ⟨PcH_blind, PcH_pre hK hH⟩ rfl rfl hl.1 rfl (lv_room (Nat.le_of_ble_eq_true rfl)) dX12_hitsOf_2 ⟨Nat.zero_le _, Nat.zero_le _⟩) (fun x_35 hx_35 => ?_)
  try rw [← hx_35.2] at hv
  try rw [← hx_35.2] at hv
  refine lv_istore (lv' := [(4, .int x_35), (0, .ref h0), (1, .ref b0), (2, .int a1), (3, .int a2)]) hx hb dX12_hitsOf_5 hl (by decide) rfl (fun ls hl => ?_)
  refine lv_iconst (v := 0) hx hb dX12_hitsOf_7 (by decide) ?_
  refine lv_istore (lv' := [(5, .int 0), (4, .int x_35), (0, .ref h0), (1, .ref b0), (2, .int a1), (3, .int a2)]) hx hb dX12_hitsOf_8 hl (by decide) rfl (fun ls hl => ?_)
  refine lv_iconst (v := 0) hx hb dX12_hitsOf_10 (by decide) ?_
  refine lv_istore (lv' := [(6, .int 0), (5, .int 0), (4, .int x_35), (0, .ref h0), (1, .ref b0), (2, .int a1), (3, .int a2)]) hx hb dX12_hitsOf_11 hl (by decide) rfl (fun ls hl => ?_)
  exact L_13 26 s.heap [] G x_35 0 0 ls FR.rf (rg_w rl_0 (by decide) (by decide)) hx_35.2 hx_35.1 HBk_0 (by decide) (lv_sub hl [3, 4, 5, 6, 2, 1, 0] rfl) hv hH hS

def F_X12_refusesComing_x (r0 : Nat → Int32) (r1 : Nat → Int32) (m113 : Int32) (a1 : Int32) (a2 : Int32) : Int32 := (if (F_X12_isThere r0 a1) = (0 : Int32) then (-1 : Int32) else (if (F_X12_isDir a2) = (0 : Int32) then (-1 : Int32) else (if (F_X12_atOf r0 a1 a2) = (24 : Int32) then (if (((F_J6_bitCount_0f7a4 (F_X12_thereOf r0)) + (1 : Int32)) + (F_J6_bitCount_0f7a4 (F_X12_hitsOf_x r0 r1 m113 a1 a2))) ≤ (24 : Int32) then (0 : Int32) else (-9 : Int32)) else (-2 : Int32))))
set_option maxHeartbeats 4000000 in
set_option maxRecDepth 100000 in
theorem c_X12_refusesComing_x (l : Launch) (g : Gx) (Ty : TyM) (G : Gh) (sz : Nat) (h0 : Nat) (b0 : Nat) (a1 : Int32) (a2 : Int32) (k_h0 : Ty h0 = some (22, 0)) (k_b0 : Ty b0 = some (30, 122)) (ρ : Nat → Nat) (hT : P1 (G.2.1 b0) ρ) (rl : Nat) (krl : Ty rl = some (31, 40)) (hr1 : G.2.2 111 = some rl) (hr3 : rgI 0 40 (G.1 113)) : Met l yX12_refusesComing (wsG yX12_refusesComing cX12_refusesComing 4 (some .int)) ({ frames := 340, cells := 0, slots := 0, locals := 7970 }) (PcT g Ty G sz [.ref h0, .ref b0, .int a1, .int a2]) (QwI g Ty sz (fun r u => (rgI (-9) (0) r ∧ (r = 0 → COM (G.2.1 b0) (G.2.1 rl) (G.1 113) a1 a2)) ∧ u.1 = Ty ∧ FR [107, 108, 109, 110, 114] [(g.2.2 115)] [106] G u.2 ∧ F_X12_refusesComing_x (G.2.1 b0) (G.2.1 rl) (G.1 113) a1 a2 = r)) 0 0 (AF Ty sz) := by
  refine Met.ofW (cc := cX12_refusesComing) (maxL := 4) (ret := (some .int)) (by decide) rfl ?_
  intro p e s m args below meth c s₁ B hml hv
  obtain ⟨rfl, hsz, hK, hH⟩ := hv
  subst hsz
  have hx := B.exec
  have hb := B.bytes
  have hr := B.returns
  have hts := atoms_spec (ws := (wsG yX12_refusesComing cX12_refusesComing 4 (some .int))) B.pre
  have hG : ∀ w ∈ GW, w.before ([.ref h0, .ref b0, .int a1, .int a2] : List Value).toArray s = true := fun w h => hts w (List.mem_cons_of_mem _ h)
  have hown : s.vm.findClass RX12 = some m.cls := findClass_of_methodNamed B.named
  have hlocks := B.notSynchronized
  have hl := lv_entry [.ref h0, .ref b0, .int a1, .int a2] (n := 4) (Nat.le_of_ble_eq_true rfl)
  rw [lg_entry_eq]
  generalize (lg_sl [.ref h0, .ref b0, .int a1, .int a2] ++ List.replicate (4 - (lg_sl [.ref h0, .ref b0, .int a1, .int a2]).length) Slot.unset).toArray = ls at hl ⊢
  have hl : lv_has ls 4 [(0, .ref h0), (1, .ref b0), (2, .int a1), (3, .int a2)] := hl
  have hmk : mdK g Ty := mdk_of hH k_h0
  have hv : (if (F_X12_isThere (G.2.1 b0) a1) = (0 : Int32) then (-1 : Int32) else (if (F_X12_isDir a2) = (0 : Int32) then (-1 : Int32) else (if (F_X12_atOf (G.2.1 b0) a1 a2) = (24 : Int32) then (if (((F_J6_bitCount_0f7a4 (F_X12_thereOf (G.2.1 b0))) + (1 : Int32)) + (F_J6_bitCount_0f7a4 (F_X12_hitsOf_x (G.2.1 b0) (G.2.1 rl) (G.1 113) a1 a2))) ≤ (24 : Int32) then (0 : Int32) else (-9 : Int32)) else (-2 : Int32)))) = F_X12_refusesComing_x (G.2.1 b0) (G.2.1 rl) (G.1 113) a1 a2 := rfl
  have hS : va_S (AF Ty s.heap.size) s.heap s.heap [] := va_S.rf
  refine lv_aload_n hx hb dX12_refusesComing_0 rfl (lv_at hl 1 rfl) ?_
  refine lv_iload_n hx hb dX12_refusesComing_1 rfl (lv_at hl 2 rfl) ?_
  refine vp_callSi (W.runS (As := [.ref b0, .int a1]) (rest := []) ⟨hx, hb, hml, hown, hts⟩ (c_X12_isThere l g Ty G b0 a1 k_b0) (cwSx 2 hts hG (gwC mw_1520) mw_88 mw_1518 mw_1519 rfl rfl rfl hd_X12_isThere ⟨Nat.le_of_ble_eq_true rfl, Nat.le_of_ble_eq_true rfl⟩) ⟨PcH_blind, PcH_pre hK hH⟩ rfl rfl hl.1 rfl (lv_room (Nat.le_of_ble_eq_true rfl)) dX12_refusesComing_2 ⟨Nat.zero_le _, Nat.zero_le _⟩) (fun x_1 hx_1 => ?_)
  have rx_1 : rgI (0) (1) x_1 := hx_1.1
  try rw [← hx_1.2.2] at hv
  try rw [← hx_1.2.2] at hv
  refine lv_if_eq (tgt := 15) hx hb dX12_refusesComing_5 (by decide) (fun c_2 => ?_) (fun c_2 => ?_)
  · rw [if_pos c_2] at hv
    have r_3 : rgI (0) (0) x_1 := rg_w (rg_eq rl_0 c_2) (by decide) (by decide)
    refine lv_iconst (v := (-1)) hx hb dX12_refusesComing_15 (by decide) ?_
    exact W.iret hx hb hr (fun t ht hWm => ⟨⟨(-1), (Ty, G), rfl, ⟨⟨rg_w rl_m1 (by decide) (by decide), (fun q => absurd q (by decide))⟩, ⟨rfl, ⟨FR.rf, hv.symm⟩⟩⟩, by show HT g Ty G t.heap; rw [ht]; exact hH⟩, hS.F ht⟩) hS.2.2 dX12_refusesComing_16
  · rw [if_neg c_2] at hv
    have th_4 : thr (G.2.1 b0) a1 := F_isThere_thr (by rw [← hx_1.2.2]; exact c_2)
    have r_5 : rgI (1) (1) x_1 := rg_w (rg_neL rx_1 rl_0 c_2) (by decide) (by decide)
    have r_6 : rgI (0) (23) a1 := rg_w (hx_1.2.1.resolve_left c_2) (by decide) (by decide)
    refine lv_iload_n hx hb dX12_refusesComing_8 rfl (lv_at hl 3 rfl) ?_
    refine vp_callSi (W.runS (As := [.int a2]) (rest := []) ⟨hx, hb, hml, hown, hts⟩ (c_X12_isDir l g Ty G a2 ) (cwSx 1 hts hG (gwC mw_1537) mw_88 mw_1535 mw_1536 rfl rfl rfl hd_X12_isDir ⟨Nat.le_of_ble_eq_true rfl, Nat.le_of_ble_eq_true rfl⟩) ⟨PcH_blind, PcH_pre hK hH⟩ rfl rfl hl.1 rfl (lv_room (Nat.le_of_ble_eq_true rfl)) dX12_refusesComing_9 ⟨Nat.zero_le _, Nat.zero_le _⟩) (fun x_7 hx_7 => ?_)
    have rx_7 : rgI (0) (1) x_7 := hx_7.1
    try rw [← hx_7.2] at hv
    try rw [← hx_7.2] at hv
    refine lv_if_ne (tgt := 17) hx hb dX12_refusesComing_12 (by decide) (fun c_8 => ?_) (fun c_8 => ?_)
    · rw [if_neg c_8] at hv
      have r_9 : rgI (1) (1) x_7 := rg_w (rg_neL rx_7 rl_0 c_8) (by decide) (by decide)
      have r_10 : rgI (0) (3) a2 := rg_w (F_isDir_rg (by rw [← hx_7.2]; exact c_8)) (by decide) (by decide)
      refine lv_aload_n hx hb dX12_refusesComing_17 rfl (lv_at hl 1 rfl) ?_
      refine lv_iload_n hx hb dX12_refusesComing_18 rfl (lv_at hl 2 rfl) ?_
      refine lv_iload_n hx hb dX12_refusesComing_19 rfl (lv_at hl 3 rfl) ?_
      refine vp_callSi (W.runS (As := [.ref b0, .int a1, .int a2]) (rest := []) ⟨hx, hb, hml, hown, hts⟩ (c_X12_atOf l g Ty G b0 a1 a2 k_b0) (cwSx 3 hts hG (gwC mw_1509) mw_88 mw_1507 mw_1508 rfl rfl rfl hd_X12_atOf ⟨Nat.le_of_ble_eq_true rfl, Nat.le_of_ble_eq_true rfl⟩) ⟨PcH_blind, PcH_pre hK hH⟩ rfl rfl hl.1 rfl (lv_room (Nat.le_of_ble_eq_true rfl)) dX12_refusesComing_20 ⟨Nat.zero_le _, Nat.zero_le _⟩) (fun x_11 hx_11 => ?_)
      have rx_11 : rgI (1) (24) x_11 := hx_11.1
      try rw [← hx_11.2] at hv
      try rw [← hx_11.2] at hv
      refine lv_bipush (v := 24) hx hb dX12_refusesComing_23 (by decide) ?_
      refine lv_icmp_eq (tgt := 31) hx hb dX12_refusesComing_25 (by decide) (fun c_12 => ?_) (fun c_12 => ?_)
      · rw [if_pos c_12] at hv
        have r_13 : rgI (24) (24) x_11 := rg_w (rg_eq rl_24 c_12) (by decide) (by decide)
        refine lv_aload_n hx hb dX12_refusesComing_31 rfl (lv_at hl 1 rfl) ?_
        refine vp_callSi (W.runS (As := [.ref b0]) (rest := []) ⟨hx, hb, hml, hown, hts⟩ (c_X12_thereOf l g Ty G b0 k_b0) (cwSx 1 hts hG (gwC mw_1552) mw_88 mw_1550 mw_1551 rfl rfl rfl hd_X12_thereOf ⟨Nat.le_of_ble_eq_true rfl, Nat.le_of_ble_eq_true rfl⟩) ⟨PcH_blind, PcH_pre hK hH⟩ rfl rfl hl.1 rfl (lv_room (Nat.le_of_ble_eq_true rfl)) dX12_refusesComing_32 ⟨Nat.zero_le _, Nat.zero_le _⟩) (fun x_14 hx_14 => ?_)
        try rw [← hx_14] at hv
        try rw [← hx_14] at hv
        refine vp_callSi (W.runS (As := [.int x_14]) (rest := []) ⟨hx, hb, hml, hown, hts⟩ (c_J6_bitCount_x l g Ty G x_14 ) (cwSx 1 hts hG (gwC mw_620) mw_99 mw_1553 mw_619 rfl rfl rfl hd_J6_bitCount_0f7a4 ⟨Nat.le_of_ble_eq_true rfl, Nat.le_of_ble_eq_true rfl⟩) ⟨PcH_blind, PcH_pre hK hH⟩ rfl rfl hl.1 rfl (lv_room (Nat.le_of_ble_eq_true rfl)) dX12_refusesComing_35 ⟨Nat.zero_le _, Nat.zero_le _⟩) (fun x_15 hx_15 => ?_)
        have rx_15 : rgI (0) (63) x_15 := hx_15.1
        try rw [← hx_15.2] at hv
        try rw [← hx_15.2] at hv
        have cq_16 : x_15 = F_J6_bitCount_0f7a4 (F_X12_thereOf (G.2.1 b0)) := by rw [← hx_14]; exact hx_15.2
        refine lv_iconst (v := 1) hx hb dX12_refusesComing_38 (by decide) ?_
        refine lv_iadd hx hb dX12_refusesComing_39 ?_
        refine lv_topi (fun x_17 ex_17 => ?_)
        try rw [← ex_17] at hv
        have rx_17 : rgI (1) (64) x_17 := by rw [ex_17]; exact rg_w (rg_add rx_15 rl_1 (by decide) (by decide)) (by decide) (by decide)
        have qx_17 : x_17.toInt = (x_15 : Int32).toInt + 1 := by rw [ex_17]; exact rg_addE rx_15 rl_1 (by decide) (by decide)
        refine lv_aload_n hx hb dX12_refusesComing_40 rfl (lv_at hl 0 rfl) ?_
        refine lv_aload_n hx hb dX12_refusesComing_41 rfl (lv_at hl 1 rfl) ?_
        refine lv_iload_n hx hb dX12_refusesComing_42 rfl (lv_at hl 2 rfl) ?_
        refine lv_iload_n hx hb dX12_refusesComing_43 rfl (lv_at hl 3 rfl) ?_
        obtain ⟨_, ⟨rfl, t_19, hk_20⟩, o_c_18⟩ := hH h0 _ k_h0
        refine va_calli (va_runV (As := [.ref b0, .int a1, .int a2]) (rest := [.int x_17]) ⟨hx, hb, hml, hown, hts⟩ (c_X12_hitsOf_x l g Ty G s.heap.size h0 b0 a1 a2 k_h0 k_b0 ρ hT th_4 rl krl hr1 hr3) (cwV 3 hts (gwV mw_1554 mw_1556 mw_51 mw_88 mw_1557) rfl rfl rfl hv_X12_hitsOf ⟨Nat.le_of_ble_eq_true rfl, Nat.le_of_ble_eq_true rfl⟩) ⟨PcT_blind, hg_recv hK o_c_18 rfl, PcT_pre hK hH⟩ rfl rfl hl.1 rfl (lv_room (Nat.le_of_ble_eq_true rfl)) dX12_refusesComing_44 ⟨Nat.zero_le _, Nat.zero_le _⟩) hS (fun q _ h => AF.mono hS.1 h) (fun q h => AF.mono hS.1 h) (fun x_21 ux_21 t H locs ht hvm hx_21 hB hz hk hS => ?_)
        obtain ⟨hx_21, fx_21⟩ := hx_21
        obtain ⟨eTx_21, eGx_21⟩ := fx_21
        obtain ⟨G_22, eG_22⟩ : ∃ z, z = ux_21.2 := ⟨_, rfl⟩
        rw [← eG_22] at eGx_21
        obtain ⟨hfr_23, hex_24⟩ := eGx_21
        have fr_25 : FR [107, 108, 109, 110, 114] [(g.2.2 115)] [106] G G_22 := FR.tr FR.rf hfr_23 (by decide) (fun b h => ⟨h.1, trivial⟩) (by decide)
        have u_26 : G_22.1 113 = (G.1 113) := (hfr_23.1 113 (by decide))
        have w_27 : G_22.2.1 b0 = (G.2.1 b0) := (hfr_23.2.1 b0 ⟨(ne_kd k_b0 hmk.2.2.2.1 (by decide)), trivial⟩)
        have w_28 : G_22.2.1 rl = (G.2.1 rl) := (hfr_23.2.1 rl ⟨(ne_kd krl hmk.2.2.2.1 (by decide)), trivial⟩)
        have u_29 : G_22.2.2 111 = some rl := (hfr_23.2.2 111 (by decide)).trans hr1
        have hq_30 : F_X12_hitsOf_x (G.2.1 b0) (G.2.1 rl) (G.1 113) a1 a2 = x_21 := by have q := hex_24; exact q
        try rw [hq_30] at hv
        have hH : HT g Ty G_22 H := by rw [← ht, ← eTx_21, eG_22]; exact hB
        refine vp_callSi (W.runS (As := [.int x_21]) (rest := [.int x_17]) ⟨hx, hb, hml, hown, hts⟩ (c_J6_bitCount_x l g Ty G_22 x_21 ) (cwSx 1 hts hG (gwC mw_620) mw_99 mw_1553 mw_619 rfl rfl rfl hd_J6_bitCount_0f7a4 ⟨Nat.le_of_ble_eq_true rfl, Nat.le_of_ble_eq_true rfl⟩) ⟨PcH_blind, PcH_pre hK hH⟩ rfl rfl hl.1 rfl (lv_room (Nat.le_of_ble_eq_true rfl)) dX12_refusesComing_47 ⟨Nat.zero_le _, Nat.zero_le _⟩) (fun x_31 hx_31 => ?_)
        have rx_31 : rgI (0) (63) x_31 := hx_31.1
        try rw [← hx_31.2] at hv
        try rw [← hx_31.2] at hv
        refine lv_iadd hx hb dX12_refusesComing_50 ?_
        refine lv_topi (fun x_32 ex_32 => ?_)
        try rw [← ex_32] at hv
        have rx_32 : rgI (1) (127) x_32 := by rw [ex_32]; exact rg_w (rg_add rx_17 rx_31 (by decide) (by decide)) (by decide) (by decide)
        refine lv_bipush (v := 24) hx hb dX12_refusesComing_51 (by decide) ?_
        refine lv_icmp_le (tgt := 61) hx hb dX12_refusesComing_53 (by decide) (fun c_33 => ?_) (fun c_33 => ?_)
        · rw [if_pos c_33] at hv
          have r_34 : rgI (1) (24) x_32 := rg_w (rg_leL rx_32 rl_24 c_33) (by decide) (by decide)
          refine lv_iconst (v := 0) hx hb dX12_refusesComing_61 (by decide) ?_
          exact W.iret hx hb hr (fun t ht hWm => ⟨⟨0, (Ty, G_22), rfl, ⟨⟨rg_w rl_0 (by decide) (by decide), (fun _ => ⟨th_4, r_10, (by rw [← hx_11.2]; exact c_12), com_cnt hx_21.1 hx_21.2 cq_16 ex_17 hx_31.2 ex_32 c_33⟩)⟩, ⟨rfl, ⟨fr_25, hv.symm⟩⟩⟩, by show HT g Ty G_22 t.heap; rw [ht]; exact hH⟩, hS.F ht⟩) hS.2.2 dX12_refusesComing_62
        · rw [if_neg c_33] at hv
          have r_35 : rgI (25) (127) x_32 := rg_w (rg_ltR rl_24 rx_32 (nle_lt c_33)) (by decide) (by decide)
          refine lv_bipush (v := (-9)) hx hb dX12_refusesComing_56 (by decide) ?_
          refine lv_goto (tgt := 62) hx hb dX12_refusesComing_58 (by decide) ?_
          exact W.iret hx hb hr (fun t ht hWm => ⟨⟨(-9), (Ty, G_22), rfl, ⟨⟨rg_w rl_m9 (by decide) (by decide), (fun q => absurd q (by decide))⟩, ⟨rfl, ⟨fr_25, hv.symm⟩⟩⟩, by show HT g Ty G_22 t.heap; rw [ht]; exact hH⟩, hS.F ht⟩) hS.2.2 dX12_refusesComing_62
      · rw [if_neg c_12] at hv
        have r_36 : rgI (1) (23) x_11 := rg_w (rg_neR rx_11 rl_24 c_12) (by decide) (by decide)
        refine lv_bipush (v := (-2)) hx hb dX12_refusesComing_28 (by decide) ?_
        exact W.iret hx hb hr (fun t ht hWm => ⟨⟨(-2), (Ty, G), rfl, ⟨⟨rg_w rl_m2 (by decide) (by decide), (fun q => absurd q (by decide))⟩, ⟨rfl, ⟨FR.rf, hv.symm⟩⟩⟩, by show HT g Ty G t.heap; rw [ht]; exact hH⟩, hS.F ht⟩) hS.2.2 dX12_refusesComing_30
    · rw [if_pos c_8] at hv
      have r_37 : rgI (0) (0) x_7 := rg_w (rg_eq rl_0 c_8) (by decide) (by decide)
      refine lv_iconst (v := (-1)) hx hb dX12_refusesComing_15 (by decide) ?_
      exact W.iret hx hb hr (fun t ht hWm => ⟨⟨(-1), (Ty, G), rfl, ⟨⟨rg_w rl_m1 (by decide) (by decide), (fun q => absurd q (by decide))⟩, ⟨rfl, ⟨FR.rf, hv.symm⟩⟩⟩, by show HT g Ty G t.heap; rw [ht]; exact hH⟩, hS.F ht⟩) hS.2.2 dX12_refusesComing_16

def F_X12_newOf_x_2 : Nat → Int32 → Int32 → (Nat → Int32) → (Nat → Int32) → Int32 → Int32
  | 0, _, _, _, _, _ => (0 : Int32)
  | n + 1, y1, y2, yr0, yr1, yn127 => (if yn127 ≤ y2 then (0 : Int32) else (if y1 = (0 : Int32) then (F_X12_newOf_x_2 n y1 (y2 + (1 : Int32)) yr0 yr1 yn127) else (if (yr0 (Int32.toNatClampNeg y2)) = y1 then (yr1 (Int32.toNatClampNeg y2)) else (F_X12_newOf_x_2 n y1 (y2 + (1 : Int32)) yr0 yr1 yn127))))
def F_X12_newOf_x (r0 : Nat → Int32) (r1 : Nat → Int32) (m127 : Int32) (a0 : Int32) : Int32 := (F_X12_newOf_x_2 26 a0 (0 : Int32) r0 r1 m127)
set_option maxHeartbeats 4000000 in
set_option maxRecDepth 100000 in
theorem c_X12_newOf_x (l : Launch) (g : Gx) (Ty : TyM) (G : Gh) (h0 : Nat) (a0 : Int32) (k_h0 : Ty h0 = some (22, 0)) (hn7 : rgI 0 24 (G.1 127)) : Met l yX12_newOf (wsG yX12_newOf cX12_newOf 3 (some .int)) ({ frames := 0, cells := 0, slots := 0, locals := 0 }) (PcH g Ty G [.ref h0, .int a0]) (vp_Si (fun r => (NO (G.2.1 (g.2.2 125)) (G.2.1 (g.2.2 126)) (G.1 127) a0 r) ∧ r = F_X12_newOf_x (G.2.1 (g.2.2 125)) (G.2.1 (g.2.2 126)) (G.1 127) a0)) 0 0 (fun _ => False) := by
  refine Met.ofW (cc := cX12_newOf) (maxL := 3) (ret := (some .int)) (by decide) rfl ?_
  intro p e s m args below meth c s₁ B hml hv
  obtain ⟨rfl, hK, hH⟩ := hv
  have hx := B.exec
  have hb := B.bytes
  have hr := B.returns
  have hts := atoms_spec (ws := (wsG yX12_newOf cX12_newOf 3 (some .int))) B.pre
  have hG : ∀ w ∈ GW, w.before ([.ref h0, .int a0] : List Value).toArray s = true := fun w h => hts w (List.mem_cons_of_mem _ h)
  have hown : s.vm.findClass RX12 = some m.cls := findClass_of_methodNamed B.named
  have hlocks := B.notSynchronized
  have hl := lv_entry [.ref h0, .int a0] (n := 3) (Nat.le_of_ble_eq_true rfl)
  rw [lg_entry_eq]
  generalize (lg_sl [.ref h0, .int a0] ++ List.replicate (3 - (lg_sl [.ref h0, .int a0]).length) Slot.unset).toArray = ls at hl ⊢
  have hl : lv_has ls 3 [(0, .ref h0), (1, .int a0)] := hl
  have hmk : mdK g Ty := mdk_of hH k_h0
  have hv : (F_X12_newOf_x_2 26 a0 (0 : Int32) (G.2.1 (g.2.2 125)) (G.2.1 (g.2.2 126)) (G.1 127)) = F_X12_newOf_x (G.2.1 (g.2.2 125)) (G.2.1 (g.2.2 126)) (G.1 127) a0 := rfl
  have L_2 : ∀ (n_2 : Nat) (y2_2 : Int32) (ls : Array Slot), rgI (0) (24) y2_2 → (∀ i : Nat, (i : Int) < (y2_2 : Int32).toInt → (a0 = 0 ∨ ¬ (G.2.1 (g.2.2 125)) i = a0)) → (24 - (y2_2).toInt).toNat < n_2 → lv_has ls 3 [(0, .ref h0), (1, .int a0), (2, .int y2_2)] → (F_X12_newOf_x_2 n_2 a0 y2_2 (G.2.1 (g.2.2 125)) (G.2.1 (g.2.2 126)) (G.1 127)) = F_X12_newOf_x (G.2.1 (g.2.2 125)) (G.2.1 (g.2.2 126)) (G.1 127) a0 → Wm p l e (wsG yX12_newOf cX12_newOf 3 (some .int)) ({ frames := 0, cells := 0, slots := 0, locals := 0 }) s m [.ref h0, .int a0] below meth c s.heap [] (0) (0) (vp_Si (fun r => (NO (G.2.1 (g.2.2 125)) (G.2.1 (g.2.2 126)) (G.1 127) a0 r) ∧ r = F_X12_newOf_x (G.2.1 (g.2.2 125)) (G.2.1 (g.2.2 126)) (G.1 127) a0)) 0 0 (fun _ => False) (F0 m 2 ls []) := by
    intro n_2
    induction n_2 with
    | zero => intro y2_2 ls ry2_2 hi0_2 hm; exact absurd hm (Nat.not_lt_zero _)
    | succ n_2 ih_2 =>
      intro y2_2 ls ry2_2 hi0_2 hm_2 hl hv
      rw [F_X12_newOf_x_2] at hv
      refine lv_iload_n hx hb dX12_newOf_2 rfl (lv_at hl 2 rfl) ?_
      refine lv_aload_n hx hb dX12_newOf_3 rfl (lv_at hl 0 rfl) ?_
      obtain ⟨_, ⟨rfl, t_2, hk_3⟩, o_c_1⟩ := hH h0 _ k_h0
      refine hg_get hx hb hG igX12 hown hK o_c_1 rfl 27 (by decide) (hG _ mw_1311) rfl dX12_newOf_4 ?_
      refine lv_icmp_ge (tgt := 37) hx hb dX12_newOf_7 (by decide) (fun c_4 => ?_) (fun c_4 => ?_)
      · rw [if_pos c_4] at hv
        refine lv_iconst (v := 0) hx hb dX12_newOf_37 (by decide) ?_
        exact W.iret hx hb hr (fun t ht hW => ⟨0, rfl, ⟨no_0 hi0_2 c_4, hv⟩, ht⟩) (fun q h => by cases h) dX12_newOf_38
      · rw [if_neg c_4] at hv
        have r_5 : rgI (0) (23) y2_2 := rg_w (rg_ltL ry2_2 hn7 (nle_lt c_4)) (by decide) (by decide)
        have r_6 : rgI (1) (24) (G.1 127) := rg_w (rg_ltR ry2_2 hn7 (nle_lt c_4)) (by decide) (by decide)
        refine lv_iload_n hx hb dX12_newOf_10 rfl (lv_at hl 1 rfl) ?_
        refine lv_if_eq (tgt := 31) hx hb dX12_newOf_11 (by decide) (fun c_7 => ?_) (fun c_7 => ?_)
        · rw [if_pos c_7] at hv
          have r_8 : rgI (0) (0) a0 := rg_w (rg_eq rl_0 c_7) (by decide) (by decide)
          obtain ⟨x_9, ex_9⟩ : ∃ y : Int32, y = y2_2 + 1 := ⟨_, rfl⟩
          try rw [← ex_9] at hv
          have rx_9 : rgI (1) (24) x_9 := by rw [ex_9]; exact rg_w (rg_add r_5 rl_1 (by decide) (by decide)) (by decide) (by decide)
          have qx_9 : x_9.toInt = (y2_2 : Int32).toInt + 1 := by rw [ex_9]; exact rg_addE r_5 rl_1 (by decide) (by decide)
          refine lv_iinc (v := x_9) (lv' := [(2, .int x_9), (0, .ref h0), (1, .int a0)]) hx hb dX12_newOf_31 hl (k := 2) rfl (by rw [ex_9]; rfl) (by decide) rfl (fun ls hl => ?_)
          refine lv_goto (tgt := 2) hx hb dX12_newOf_34 (by decide) ?_
          exact ih_2 x_9 ls (rg_w rx_9 (by decide) (by decide)) (no_s hi0_2 (Or.inl c_7) qx_9 r_5) (by have h1 := qx_9; have h2 := r_5.1; have h3 := r_5.2; have h4 := hm_2; omega) (lv_sub hl [1, 2, 0] rfl) hv
        · rw [if_neg c_7] at hv
          refine lv_aload_n hx hb dX12_newOf_14 rfl (lv_at hl 0 rfl) ?_
          refine hg_get hx hb hG igX12 hown hK o_c_1 rfl 25 (by decide) (hG _ mw_1309) rfl dX12_newOf_15 ?_
          refine lv_iload_n hx hb dX12_newOf_18 rfl (lv_at hl 2 rfl) ?_
          obtain ⟨_, rfl, o_c_10⟩ := hH (g.2.2 125) _ hk_3.2.2.2.2.2.2.2.2.1
          have o_c_10 : va_at g.1 vwCl ((g.2.2 125), .inl (g.2.1 1, 24, .inl (G.2.1 (g.2.2 125)))) s.heap := o_c_10
          refine hg_iald hx hb hK o_c_10 (rg_in (n := 24) r_5 (by decide) (by decide)) dX12_newOf_19 ?_
          refine lv_topi (fun x_11 ex_11 => ?_)
          try rw [← ex_11] at hv
          refine lv_iload_n hx hb dX12_newOf_20 rfl (lv_at hl 1 rfl) ?_
          refine lv_icmp_ne (tgt := 31) hx hb dX12_newOf_21 (by decide) (fun c_12 => ?_) (fun c_12 => ?_)
          · rw [if_neg c_12] at hv
            obtain ⟨x_13, ex_13⟩ : ∃ y : Int32, y = y2_2 + 1 := ⟨_, rfl⟩
            try rw [← ex_13] at hv
            have rx_13 : rgI (1) (24) x_13 := by rw [ex_13]; exact rg_w (rg_add r_5 rl_1 (by decide) (by decide)) (by decide) (by decide)
            have qx_13 : x_13.toInt = (y2_2 : Int32).toInt + 1 := by rw [ex_13]; exact rg_addE r_5 rl_1 (by decide) (by decide)
            refine lv_iinc (v := x_13) (lv' := [(2, .int x_13), (0, .ref h0), (1, .int a0)]) hx hb dX12_newOf_31 hl (k := 2) rfl (by rw [ex_13]; rfl) (by decide) rfl (fun ls hl => ?_)
            refine lv_goto (tgt := 2) hx hb dX12_newOf_34 (by decide) ?_
            exact ih_2 x_13 ls (rg_w rx_13 (by decide) (by decide)) (no_s hi0_2 (Or.inr (by rw [← ex_11]; exact c_12)) qx_13 r_5) (by have h1 := qx_13; have h2 := r_5.1; have h3 := r_5.2; have h4 := hm_2; omega) (lv_sub hl [1, 2, 0] rfl) hv
          · rw [if_pos c_12] at hv
            refine lv_aload_n hx hb dX12_newOf_24 rfl (lv_at hl 0 rfl) ?_
            refine hg_get hx hb hG igX12 hown hK o_c_1 rfl 26 (by decide) (hG _ mw_1310) rfl dX12_newOf_25 ?_
            refine lv_iload_n hx hb dX12_newOf_28 rfl (lv_at hl 2 rfl) ?_
            obtain ⟨_, rfl, o_c_14⟩ := hH (g.2.2 126) _ hk_3.2.2.2.2.2.2.2.2.2.1
            have o_c_14 : va_at g.1 vwCl ((g.2.2 126), .inl (g.2.1 1, 24, .inl (G.2.1 (g.2.2 126)))) s.heap := o_c_14
            refine hg_iald hx hb hK o_c_14 (rg_in (n := 24) r_5 (by decide) (by decide)) dX12_newOf_29 ?_
            refine lv_topi (fun x_15 ex_15 => ?_)
            try rw [← ex_15] at hv
            exact W.iret hx hb hr (fun t ht hW => ⟨x_15, rfl, ⟨no_1 c_7 (by rw [← ex_11]; exact c_12) ex_15 r_5 (nle_lt c_4), hv⟩, ht⟩) (fun q h => by cases h) dX12_newOf_30
  refine lv_iconst (v := 0) hx hb dX12_newOf_0 (by decide) ?_
  refine lv_istore_n (lv' := [(2, .int 0), (0, .ref h0), (1, .int a0)]) hx hb dX12_newOf_1 rfl hl (by decide) rfl (fun ls hl => ?_)
  exact L_2 26 0 ls (rg_w rl_0 (by decide) (by decide)) (fun i hi => absurd hi (by show ¬ (i : Int) < 0; omega)) (by decide) (lv_sub hl [1, 2, 0] rfl) hv

def F_X12_layNew_x (r0 : Nat → Int32) (r1 : Nat → Int32) (m127 : Int32) (a0 : Int32) (a1 : Int32) : (Nat → Int32) × (Nat → Int32) × Int32 := ((upd r0 (Int32.toNatClampNeg m127) a0), (upd r1 (Int32.toNatClampNeg m127) a1), (m127 + (1 : Int32)))
set_option maxHeartbeats 4000000 in
set_option maxRecDepth 100000 in
theorem c_X12_layNew_x (l : Launch) (g : Gx) (Ty : TyM) (G : Gh) (sz : Nat) (h0 : Nat) (a0 : Int32) (a1 : Int32) (k_h0 : Ty h0 = some (22, 0)) (hLD : LD g) (hn7 : rgI 0 23 (G.1 127)) : Met l yX12_layNew (wsG yX12_layNew cX12_layNew 3 none) ({ frames := 0, cells := 0, slots := 0, locals := 0 }) (PcT g Ty G sz [.ref h0, .int a0, .int a1]) (QwV g Ty sz (fun u => u.1 = Ty ∧ FR [127] [(g.2.2 125), (g.2.2 126)] [] G u.2 ∧ (u.2.2.1 (g.2.2 125) = upd (G.2.1 (g.2.2 125)) (G.1 127).toNatClampNeg a0 ∧ u.2.2.1 (g.2.2 126) = upd (G.2.1 (g.2.2 126)) (G.1 127).toNatClampNeg a1 ∧ u.2.1 127 = G.1 127 + 1) ∧ F_X12_layNew_x (G.2.1 (g.2.2 125)) (G.2.1 (g.2.2 126)) (G.1 127) a0 a1 = ((u.2.2.1 (g.2.2 125)), (u.2.2.1 (g.2.2 126)), (u.2.1 127)))) 0 0 (AF Ty sz) := by
  refine Met.ofW (cc := cX12_layNew) (maxL := 3) (ret := none) (by decide) rfl ?_
  intro p e s m args below meth c s₁ B hml hv
  obtain ⟨rfl, hsz, hK, hH⟩ := hv
  subst hsz
  have hx := B.exec
  have hb := B.bytes
  have hr := B.returns
  have hts := atoms_spec (ws := (wsG yX12_layNew cX12_layNew 3 none)) B.pre
  have hG : ∀ w ∈ GW, w.before ([.ref h0, .int a0, .int a1] : List Value).toArray s = true := fun w h => hts w (List.mem_cons_of_mem _ h)
  have hown : s.vm.findClass RX12 = some m.cls := findClass_of_methodNamed B.named
  have hlocks := B.notSynchronized
  have hl := lv_entry [.ref h0, .int a0, .int a1] (n := 3) (Nat.le_of_ble_eq_true rfl)
  rw [lg_entry_eq]
  generalize (lg_sl [.ref h0, .int a0, .int a1] ++ List.replicate (3 - (lg_sl [.ref h0, .int a0, .int a1]).length) Slot.unset).toArray = ls at hl ⊢
  have hl : lv_has ls 3 [(0, .ref h0), (1, .int a0), (2, .int a1)] := hl
  have hmk : mdK g Ty := mdk_of hH k_h0
  have hv : ((upd (G.2.1 (g.2.2 125)) (Int32.toNatClampNeg (G.1 127)) a0), (upd (G.2.1 (g.2.2 126)) (Int32.toNatClampNeg (G.1 127)) a1), ((G.1 127) + (1 : Int32))) = F_X12_layNew_x (G.2.1 (g.2.2 125)) (G.2.1 (g.2.2 126)) (G.1 127) a0 a1 := rfl
  have hS : va_S (AF Ty s.heap.size) s.heap s.heap [] := va_S.rf
  refine lv_aload_n hx hb dX12_layNew_0 rfl (lv_at hl 0 rfl) ?_
  obtain ⟨_, ⟨rfl, t_2, hk_3⟩, o_c_1⟩ := hH h0 _ k_h0
  refine hg_get hx hb hG igX12 hown hK o_c_1 rfl 25 (by decide) (hG _ mw_1309) rfl dX12_layNew_1 ?_
  refine lv_aload_n hx hb dX12_layNew_4 rfl (lv_at hl 0 rfl) ?_
  refine hg_get hx hb hG igX12 hown hK o_c_1 rfl 27 (by decide) (hG _ mw_1311) rfl dX12_layNew_5 ?_
  refine lv_iload_n hx hb dX12_layNew_8 rfl (lv_at hl 1 rfl) ?_
  obtain ⟨_, rfl, o_c_4⟩ := hH (g.2.2 125) _ hk_3.2.2.2.2.2.2.2.2.1
  have o_c_4 : va_at g.1 vwCl ((g.2.2 125), .inl (g.2.1 1, 24, .inl (G.2.1 (g.2.2 125)))) s.heap := o_c_4
  refine hg_iast hx hb hK hS o_c_4 (AF.of hk_3.2.2.2.2.2.2.2.2.1) (rg_in (n := 24) hn7 (by decide) (by decide)) dX12_layNew_9 (fun H locs o_c_4 hz oq hS => ?_)
  obtain ⟨G_5, eG_5⟩ : ∃ z : Gh, z = aset G (g.2.2 125) (upd (G.2.1 (g.2.2 125)) ((G.1 127) : Int32).toNatClampNeg a0) := ⟨_, rfl⟩
  have hH : HT g Ty G_5 H := by rw [eG_5]; exact HT.putA (upd (G.2.1 (g.2.2 125)) ((G.1 127) : Int32).toNatClampNeg a0) hH hk_3.2.2.2.2.2.2.2.2.1 cf30 o_c_4 oq
  obtain ⟨f_6, ef_6⟩ : ∃ z : Nat → Int32, z = (upd (G.2.1 (g.2.2 125)) ((G.1 127) : Int32).toNatClampNeg a0) := ⟨_, rfl⟩
  have eaf_6 : G_5 = aset G (g.2.2 125) f_6 := by rw [eG_5, ef_6]
  try rw [← ef_6] at hv
  have fr_7 : FR [127] [(g.2.2 125), (g.2.2 126)] [] G G_5 := FR.a FR.rf eaf_6 (fun b h => h.1)
  have u_8 : G_5.1 127 = (G.1 127) := by rw [eaf_6]; exact rfl
  have w_9 : G_5.2.1 (g.2.2 125) = f_6 := by rw [eaf_6]; exact aset_eq
  have w_10 : G_5.2.1 (g.2.2 126) = (G.2.1 (g.2.2 126)) := by rw [eaf_6]; exact (aset_ne (hLD 126 (by decide) 125 (by decide) (by decide)))
  clear oq hz
  refine lv_aload_n hx hb dX12_layNew_10 rfl (lv_at hl 0 rfl) ?_
  obtain ⟨_, ⟨rfl, t_12, hk_13⟩, o_c_11⟩ := hH h0 _ k_h0
  refine hg_get hx hb hG igX12 hown hK o_c_11 rfl 26 (by decide) (hG _ mw_1310) rfl dX12_layNew_11 ?_
  refine lv_aload_n hx hb dX12_layNew_14 rfl (lv_at hl 0 rfl) ?_
  refine hg_get hx hb hG igX12 hown hK o_c_11 rfl 27 (by decide) (hG _ mw_1311) rfl dX12_layNew_15 ?_
  rw [u_8]
  refine lv_iload_n hx hb dX12_layNew_18 rfl (lv_at hl 2 rfl) ?_
  obtain ⟨_, rfl, o_c_14⟩ := hH (g.2.2 126) _ hk_13.2.2.2.2.2.2.2.2.2.1
  have o_c_14 : va_at g.1 vwCl ((g.2.2 126), .inl (g.2.1 1, 24, .inl (G_5.2.1 (g.2.2 126)))) H := o_c_14
  refine hg_iast hx hb hK hS o_c_14 (AF.of hk_13.2.2.2.2.2.2.2.2.2.1) (rg_in (n := 24) hn7 (by decide) (by decide)) dX12_layNew_19 (fun H locs o_c_14 hz oq hS => ?_)
  obtain ⟨G_15, eG_15⟩ : ∃ z : Gh, z = aset G_5 (g.2.2 126) (upd (G_5.2.1 (g.2.2 126)) ((G.1 127) : Int32).toNatClampNeg a1) := ⟨_, rfl⟩
  have hH : HT g Ty G_15 H := by rw [eG_15]; exact HT.putA (upd (G_5.2.1 (g.2.2 126)) ((G.1 127) : Int32).toNatClampNeg a1) hH hk_13.2.2.2.2.2.2.2.2.2.1 cf30 o_c_14 oq
  obtain ⟨f_16, ef_16⟩ : ∃ z : Nat → Int32, z = (upd (G.2.1 (g.2.2 126)) ((G.1 127) : Int32).toNatClampNeg a1) := ⟨_, rfl⟩
  have eaf_16 : G_15 = aset G_5 (g.2.2 126) f_16 := by rw [eG_15, ef_16, w_10]
  try rw [← ef_16] at hv
  have fr_17 : FR [127] [(g.2.2 125), (g.2.2 126)] [] G G_15 := FR.a fr_7 eaf_16 (fun b h => h.2.1)
  have u_18 : G_15.1 127 = (G.1 127) := by rw [eaf_16]; exact u_8
  have w_19 : G_15.2.1 (g.2.2 125) = f_6 := by rw [eaf_16]; exact (aset_ne (hLD 125 (by decide) 126 (by decide) (by decide))).trans w_9
  have w_20 : G_15.2.1 (g.2.2 126) = f_16 := by rw [eaf_16]; exact aset_eq
  clear oq hz
  refine lv_aload_n hx hb dX12_layNew_20 rfl (lv_at hl 0 rfl) ?_
  refine lv_dup hx hb dX12_layNew_21 rfl ?_
  obtain ⟨_, ⟨rfl, t_22, hk_23⟩, o_c_21⟩ := hH h0 _ k_h0
  refine hg_get hx hb hG igX12 hown hK o_c_21 rfl 27 (by decide) (hG _ mw_1311) rfl dX12_layNew_22 ?_
  rw [u_18]
  refine lv_iconst (v := 1) hx hb dX12_layNew_25 (by decide) ?_
  refine lv_iadd hx hb dX12_layNew_26 ?_
  refine lv_topi (fun x_24 ex_24 => ?_)
  try rw [← ex_24] at hv
  have rx_24 : rgI (1) (24) x_24 := by rw [ex_24]; exact rg_w (rg_add hn7 rl_1 (by decide) (by decide)) (by decide) (by decide)
  have qx_24 : x_24.toInt = ((G.1 127) : Int32).toInt + 1 := by rw [ex_24]; exact rg_addE hn7 rl_1 (by decide) (by decide)
  refine hg_put (ty := .int) hx hb hG igX12 tyX12 tyX12_ok nmX12 hown hK hS o_c_21 (AF.of k_h0) rfl 27 (by decide) (hG _ mw_1311) rfl (by decide +kernel) rfl rfl (Nat.le_of_ble_eq_true rfl) dX12_layNew_27 (fun H locs o_c_21 hz oq hS => ?_)
  obtain ⟨G_25, eG_25⟩ : ∃ z : Gh, z = gset G_15 127 x_24 := ⟨_, rfl⟩
  have hH : HT g Ty G_25 H := by rw [eG_25]; exact HT.putN 127 x_24 hH k_h0 ⟨rfl, t_22, hk_23⟩ o_c_21 oq (Or.inr (Or.inr (Or.inr (Or.inr (Or.inr ⟨by decide, t_22⟩)))))
  have fr_26 : FR [127] [(g.2.2 125), (g.2.2 126)] [] G G_25 := FR.n fr_17 eG_25 (by decide)
  have u_27 : G_25.1 127 = x_24 := by rw [eG_25]; exact gs_eq
  have w_28 : G_25.2.1 (g.2.2 125) = f_6 := by rw [eG_25]; exact w_19
  have w_29 : G_25.2.1 (g.2.2 126) = f_16 := by rw [eG_25]; exact w_20
  clear oq hz
  exact W.vret hx hb hr (fun t ht hWm => ⟨⟨(Ty, G_25), rfl, ⟨rfl, ⟨fr_26, ⟨⟨by rw [w_28, ef_6], by rw [w_29, ef_16], by rw [u_27, ex_24]⟩, hv.symm.trans (by rw [w_28, w_29, u_27])⟩⟩⟩, by show HT g Ty G_25 t.heap; rw [ht]; exact hH⟩, hS.F ht⟩) hS.2.2 dX12_layNew_30

def F_X12_goClone_x_102 : Nat → Int32 → Int32 → Int32 → Int32 → Int32 → Int32 → Int32 → (Nat → Int32) → (Nat → Int32) → (Nat → Int32) → (Nat → Int32) → Int32 → Int32 → (Nat → Int32) × (Nat → Int32) × (Nat → Int32) × Int32
  | 0, _, _, _, _, _, _, _, yr0, _, yr2, yr3, _, yn127 => (yr0, yr2, yr3, yn127)
  | n + 1, y3, y4, y5, y6, y7, y8, y9, yr0, yr1, yr2, yr3, yn113, yn127 => (if (24 : Int32) ≤ y9 then (yr0, yr2, yr3, yn127) else (if (F_X12_has y5 y9) = (0 : Int32) then (F_X12_goClone_x_102 n y3 y4 y5 y6 y7 y8 (y9 + (1 : Int32)) yr0 yr1 yr2 yr3 yn113 yn127) else (if (yr0 (Int32.toNatClampNeg ((48 : Int32) + y9))) = (0 : Int32) then (F_X12_goClone_x_102 n y3 y4 y5 y6 y7 y8 (y9 + (1 : Int32)) yr0 yr1 yr2 yr3 yn113 yn127) else (if (F_X12_newOf_x yr2 yr3 yn127 (yr0 (Int32.toNatClampNeg ((48 : Int32) + y9)))) = (0 : Int32) then (tu2 (F_X12_newGroup yr0) (fun z253 z254 => (tu3 (F_X12_layNew_x yr2 yr3 yn127 (yr0 (Int32.toNatClampNeg ((48 : Int32) + y9))) z253) (fun z255 z256 z257 => (F_X12_goClone_x_102 n y3 y4 y5 y6 y7 y8 (y9 + (1 : Int32)) z254 yr1 z255 z256 yn113 z257))))) else (F_X12_goClone_x_102 n y3 y4 y5 y6 y7 y8 (y9 + (1 : Int32)) yr0 yr1 yr2 yr3 yn113 yn127)))))
def F_X12_goClone_x_182 : Nat → Int32 → Int32 → Int32 → Int32 → Int32 → Int32 → Int32 → (Nat → Int32) → (Nat → Int32) → (Nat → Int32) → (Nat → Int32) → Int32 → Int32 → (Nat → Int32) × (Nat → Int32) × (Nat → Int32) × Int32
  | 0, _, _, _, _, _, _, _, yr0, _, yr2, yr3, _, yn127 => (yr0, yr2, yr3, yn127)
  | n + 1, y3, y4, y6, y7, y8, y9, y10, yr0, yr1, yr2, yr3, yn113, yn127 => (if (24 : Int32) ≤ y10 then (yr0, yr2, yr3, yn127) else (if (F_X12_has y6 y10) = (0 : Int32) then (F_X12_goClone_x_182 n y3 y4 y6 y7 y8 y9 (y10 + (1 : Int32)) yr0 yr1 yr2 yr3 yn113 yn127) else (if (yr0 (Int32.toNatClampNeg ((48 : Int32) + y10))) = (yr0 (Int32.toNatClampNeg ((48 : Int32) + y3))) then (tu2 (F_X12_comes yr0 y10 y4 y7 y8) (fun z260 z261 => (F_X12_goClone_x_182 n y3 y4 y6 y7 y8 y9 (y10 + (1 : Int32)) z261 yr1 yr2 yr3 yn113 yn127))) else (tu2 (F_X12_comes yr0 y10 y4 (F_X12_newOf_x yr2 yr3 yn127 (yr0 (Int32.toNatClampNeg ((48 : Int32) + y10)))) (F_X12_newOf_x yr2 yr3 yn127 (yr0 (Int32.toNatClampNeg ((72 : Int32) + y10))))) (fun z258 z259 => (F_X12_goClone_x_182 n y3 y4 y6 y7 y8 y9 (y10 + (1 : Int32)) z259 yr1 yr2 yr3 yn113 yn127))))))
def F_X12_goClone_x (r0 : Nat → Int32) (r1 : Nat → Int32) (r2 : Nat → Int32) (r3 : Nat → Int32) (m113 : Int32) (m127 : Int32) (a1 : Int32) (a2 : Int32) (a3 : Int32) : Int32 × (Nat → Int32) × (Nat → Int32) × (Nat → Int32) × Int32 := (if a1 = (24 : Int32) then (if a1 = (24 : Int32) then (if (r0 (Int32.toNatClampNeg ((48 : Int32) + a2))) = (0 : Int32) then (if (r0 (Int32.toNatClampNeg ((48 : Int32) + a2))) = (0 : Int32) then (tu4 (F_X12_goClone_x_102 26 a2 a3 (F_X12_spreadOf r0 a2) (F_X12_hitsOf_x r0 r1 m113 a2 a3) (0 : Int32) (0 : Int32) (0 : Int32) r0 r1 r2 r3 m113 (0 : Int32)) (fun z452 z453 z454 z455 => (tu2 (F_X12_comes z452 a2 a3 (0 : Int32) (0 : Int32)) (fun z456 z457 => (tu4 (F_X12_goClone_x_182 26 a2 a3 (F_X12_hitsOf_x r0 r1 m113 a2 a3) (0 : Int32) (0 : Int32) z456 (0 : Int32) z457 r1 z453 z454 m113 z455) (fun z458 z459 z460 z461 => (z456, (upd z458 (Int32.toNatClampNeg (120 : Int32)) ((z458 (Int32.toNatClampNeg (120 : Int32))) + (1 : Int32))), z459, z460, z461))))))) else (tu3 (F_X12_layNew_x r2 r3 (0 : Int32) (r0 (Int32.toNatClampNeg ((48 : Int32) + a2))) (0 : Int32)) (fun z462 z463 z464 => (tu4 (F_X12_goClone_x_102 26 a2 a3 (F_X12_spreadOf r0 a2) (F_X12_hitsOf_x r0 r1 m113 a2 a3) (0 : Int32) (0 : Int32) (0 : Int32) r0 r1 z462 z463 m113 z464) (fun z465 z466 z467 z468 => (tu2 (F_X12_comes z465 a2 a3 (0 : Int32) (0 : Int32)) (fun z469 z470 => (tu4 (F_X12_goClone_x_182 26 a2 a3 (F_X12_hitsOf_x r0 r1 m113 a2 a3) (0 : Int32) (0 : Int32) z469 (0 : Int32) z470 r1 z466 z467 m113 z468) (fun z471 z472 z473 z474 => (z469, (upd z471 (Int32.toNatClampNeg (120 : Int32)) ((z471 (Int32.toNatClampNeg (120 : Int32))) + (1 : Int32))), z472, z473, z474)))))))))) else (tu2 (F_X12_newGroup r0) (fun z475 z476 => (if (z476 (Int32.toNatClampNeg ((48 : Int32) + a2))) = (0 : Int32) then (tu4 (F_X12_goClone_x_102 26 a2 a3 (F_X12_spreadOf r0 a2) (F_X12_hitsOf_x r0 r1 m113 a2 a3) z475 (0 : Int32) (0 : Int32) z476 r1 r2 r3 m113 (0 : Int32)) (fun z477 z478 z479 z480 => (tu2 (F_X12_comes z477 a2 a3 z475 (0 : Int32)) (fun z481 z482 => (tu4 (F_X12_goClone_x_182 26 a2 a3 (F_X12_hitsOf_x r0 r1 m113 a2 a3) z475 (0 : Int32) z481 (0 : Int32) z482 r1 z478 z479 m113 z480) (fun z483 z484 z485 z486 => (z481, (upd z483 (Int32.toNatClampNeg (120 : Int32)) ((z483 (Int32.toNatClampNeg (120 : Int32))) + (1 : Int32))), z484, z485, z486))))))) else (tu3 (F_X12_layNew_x r2 r3 (0 : Int32) (z476 (Int32.toNatClampNeg ((48 : Int32) + a2))) z475) (fun z487 z488 z489 => (tu4 (F_X12_goClone_x_102 26 a2 a3 (F_X12_spreadOf r0 a2) (F_X12_hitsOf_x r0 r1 m113 a2 a3) z475 (0 : Int32) (0 : Int32) z476 r1 z487 z488 m113 z489) (fun z490 z491 z492 z493 => (tu2 (F_X12_comes z490 a2 a3 z475 (0 : Int32)) (fun z494 z495 => (tu4 (F_X12_goClone_x_182 26 a2 a3 (F_X12_hitsOf_x r0 r1 m113 a2 a3) z475 (0 : Int32) z494 (0 : Int32) z495 r1 z491 z492 m113 z493) (fun z496 z497 z498 z499 => (z494, (upd z496 (Int32.toNatClampNeg (120 : Int32)) ((z496 (Int32.toNatClampNeg (120 : Int32))) + (1 : Int32))), z497, z498, z499))))))))))))) else (if (r0 (Int32.toNatClampNeg ((48 : Int32) + a2))) = (0 : Int32) then (if (r0 (Int32.toNatClampNeg ((48 : Int32) + a2))) = (0 : Int32) then (tu4 (F_X12_goClone_x_102 26 a2 a3 (F_X12_spreadOf r0 a2) (F_X12_hitsOf_x r0 r1 m113 a2 a3) (0 : Int32) (r0 (Int32.toNatClampNeg ((72 : Int32) + a1))) (0 : Int32) r0 r1 r2 r3 m113 (0 : Int32)) (fun z404 z405 z406 z407 => (tu2 (F_X12_comes z404 a2 a3 (0 : Int32) (r0 (Int32.toNatClampNeg ((72 : Int32) + a1)))) (fun z408 z409 => (tu4 (F_X12_goClone_x_182 26 a2 a3 (F_X12_hitsOf_x r0 r1 m113 a2 a3) (0 : Int32) (r0 (Int32.toNatClampNeg ((72 : Int32) + a1))) z408 (0 : Int32) z409 r1 z405 z406 m113 z407) (fun z410 z411 z412 z413 => (z408, (upd z410 (Int32.toNatClampNeg (120 : Int32)) ((z410 (Int32.toNatClampNeg (120 : Int32))) + (1 : Int32))), z411, z412, z413))))))) else (tu3 (F_X12_layNew_x r2 r3 (0 : Int32) (r0 (Int32.toNatClampNeg ((48 : Int32) + a2))) (0 : Int32)) (fun z414 z415 z416 => (tu4 (F_X12_goClone_x_102 26 a2 a3 (F_X12_spreadOf r0 a2) (F_X12_hitsOf_x r0 r1 m113 a2 a3) (0 : Int32) (r0 (Int32.toNatClampNeg ((72 : Int32) + a1))) (0 : Int32) r0 r1 z414 z415 m113 z416) (fun z417 z418 z419 z420 => (tu2 (F_X12_comes z417 a2 a3 (0 : Int32) (r0 (Int32.toNatClampNeg ((72 : Int32) + a1)))) (fun z421 z422 => (tu4 (F_X12_goClone_x_182 26 a2 a3 (F_X12_hitsOf_x r0 r1 m113 a2 a3) (0 : Int32) (r0 (Int32.toNatClampNeg ((72 : Int32) + a1))) z421 (0 : Int32) z422 r1 z418 z419 m113 z420) (fun z423 z424 z425 z426 => (z421, (upd z423 (Int32.toNatClampNeg (120 : Int32)) ((z423 (Int32.toNatClampNeg (120 : Int32))) + (1 : Int32))), z424, z425, z426)))))))))) else (tu2 (F_X12_newGroup r0) (fun z427 z428 => (if (z428 (Int32.toNatClampNeg ((48 : Int32) + a2))) = (0 : Int32) then (tu4 (F_X12_goClone_x_102 26 a2 a3 (F_X12_spreadOf r0 a2) (F_X12_hitsOf_x r0 r1 m113 a2 a3) z427 (r0 (Int32.toNatClampNeg ((72 : Int32) + a1))) (0 : Int32) z428 r1 r2 r3 m113 (0 : Int32)) (fun z429 z430 z431 z432 => (tu2 (F_X12_comes z429 a2 a3 z427 (r0 (Int32.toNatClampNeg ((72 : Int32) + a1)))) (fun z433 z434 => (tu4 (F_X12_goClone_x_182 26 a2 a3 (F_X12_hitsOf_x r0 r1 m113 a2 a3) z427 (r0 (Int32.toNatClampNeg ((72 : Int32) + a1))) z433 (0 : Int32) z434 r1 z430 z431 m113 z432) (fun z435 z436 z437 z438 => (z433, (upd z435 (Int32.toNatClampNeg (120 : Int32)) ((z435 (Int32.toNatClampNeg (120 : Int32))) + (1 : Int32))), z436, z437, z438))))))) else (tu3 (F_X12_layNew_x r2 r3 (0 : Int32) (z428 (Int32.toNatClampNeg ((48 : Int32) + a2))) z427) (fun z439 z440 z441 => (tu4 (F_X12_goClone_x_102 26 a2 a3 (F_X12_spreadOf r0 a2) (F_X12_hitsOf_x r0 r1 m113 a2 a3) z427 (r0 (Int32.toNatClampNeg ((72 : Int32) + a1))) (0 : Int32) z428 r1 z439 z440 m113 z441) (fun z442 z443 z444 z445 => (tu2 (F_X12_comes z442 a2 a3 z427 (r0 (Int32.toNatClampNeg ((72 : Int32) + a1)))) (fun z446 z447 => (tu4 (F_X12_goClone_x_182 26 a2 a3 (F_X12_hitsOf_x r0 r1 m113 a2 a3) z427 (r0 (Int32.toNatClampNeg ((72 : Int32) + a1))) z446 (0 : Int32) z447 r1 z443 z444 m113 z445) (fun z448 z449 z450 z451 => (z446, (upd z448 (Int32.toNatClampNeg (120 : Int32)) ((z448 (Int32.toNatClampNeg (120 : Int32))) + (1 : Int32))), z449, z450, z451)))))))))))))) else (if a1 = (24 : Int32) then (if (r0 (Int32.toNatClampNeg ((48 : Int32) + a2))) = (0 : Int32) then (if (r0 (Int32.toNatClampNeg ((48 : Int32) + a2))) = (0 : Int32) then (tu4 (F_X12_goClone_x_102 26 a2 a3 (F_X12_spreadOf r0 a2) (F_X12_hitsOf_x r0 r1 m113 a2 a3) (r0 (Int32.toNatClampNeg ((48 : Int32) + a1))) (0 : Int32) (0 : Int32) r0 r1 r2 r3 m113 (0 : Int32)) (fun z333 z334 z335 z336 => (tu2 (F_X12_comes z333 a2 a3 (r0 (Int32.toNatClampNeg ((48 : Int32) + a1))) (0 : Int32)) (fun z337 z338 => (tu4 (F_X12_goClone_x_182 26 a2 a3 (F_X12_hitsOf_x r0 r1 m113 a2 a3) (r0 (Int32.toNatClampNeg ((48 : Int32) + a1))) (0 : Int32) z337 (0 : Int32) z338 r1 z334 z335 m113 z336) (fun z339 z340 z341 z342 => (z337, (upd z339 (Int32.toNatClampNeg (120 : Int32)) ((z339 (Int32.toNatClampNeg (120 : Int32))) + (1 : Int32))), z340, z341, z342))))))) else (tu3 (F_X12_layNew_x r2 r3 (0 : Int32) (r0 (Int32.toNatClampNeg ((48 : Int32) + a2))) (r0 (Int32.toNatClampNeg ((48 : Int32) + a1)))) (fun z343 z344 z345 => (tu4 (F_X12_goClone_x_102 26 a2 a3 (F_X12_spreadOf r0 a2) (F_X12_hitsOf_x r0 r1 m113 a2 a3) (r0 (Int32.toNatClampNeg ((48 : Int32) + a1))) (0 : Int32) (0 : Int32) r0 r1 z343 z344 m113 z345) (fun z346 z347 z348 z349 => (tu2 (F_X12_comes z346 a2 a3 (r0 (Int32.toNatClampNeg ((48 : Int32) + a1))) (0 : Int32)) (fun z350 z351 => (tu4 (F_X12_goClone_x_182 26 a2 a3 (F_X12_hitsOf_x r0 r1 m113 a2 a3) (r0 (Int32.toNatClampNeg ((48 : Int32) + a1))) (0 : Int32) z350 (0 : Int32) z351 r1 z347 z348 m113 z349) (fun z352 z353 z354 z355 => (z350, (upd z352 (Int32.toNatClampNeg (120 : Int32)) ((z352 (Int32.toNatClampNeg (120 : Int32))) + (1 : Int32))), z353, z354, z355)))))))))) else (if (r0 (Int32.toNatClampNeg ((48 : Int32) + a1))) = (0 : Int32) then (tu2 (F_X12_newGroup r0) (fun z379 z380 => (if (z380 (Int32.toNatClampNeg ((48 : Int32) + a2))) = (0 : Int32) then (tu4 (F_X12_goClone_x_102 26 a2 a3 (F_X12_spreadOf r0 a2) (F_X12_hitsOf_x r0 r1 m113 a2 a3) z379 (0 : Int32) (0 : Int32) z380 r1 r2 r3 m113 (0 : Int32)) (fun z381 z382 z383 z384 => (tu2 (F_X12_comes z381 a2 a3 z379 (0 : Int32)) (fun z385 z386 => (tu4 (F_X12_goClone_x_182 26 a2 a3 (F_X12_hitsOf_x r0 r1 m113 a2 a3) z379 (0 : Int32) z385 (0 : Int32) z386 r1 z382 z383 m113 z384) (fun z387 z388 z389 z390 => (z385, (upd z387 (Int32.toNatClampNeg (120 : Int32)) ((z387 (Int32.toNatClampNeg (120 : Int32))) + (1 : Int32))), z388, z389, z390))))))) else (tu3 (F_X12_layNew_x r2 r3 (0 : Int32) (z380 (Int32.toNatClampNeg ((48 : Int32) + a2))) z379) (fun z391 z392 z393 => (tu4 (F_X12_goClone_x_102 26 a2 a3 (F_X12_spreadOf r0 a2) (F_X12_hitsOf_x r0 r1 m113 a2 a3) z379 (0 : Int32) (0 : Int32) z380 r1 z391 z392 m113 z393) (fun z394 z395 z396 z397 => (tu2 (F_X12_comes z394 a2 a3 z379 (0 : Int32)) (fun z398 z399 => (tu4 (F_X12_goClone_x_182 26 a2 a3 (F_X12_hitsOf_x r0 r1 m113 a2 a3) z379 (0 : Int32) z398 (0 : Int32) z399 r1 z395 z396 m113 z397) (fun z400 z401 z402 z403 => (z398, (upd z400 (Int32.toNatClampNeg (120 : Int32)) ((z400 (Int32.toNatClampNeg (120 : Int32))) + (1 : Int32))), z401, z402, z403)))))))))))) else (if (r0 (Int32.toNatClampNeg ((48 : Int32) + a2))) = (0 : Int32) then (tu4 (F_X12_goClone_x_102 26 a2 a3 (F_X12_spreadOf r0 a2) (F_X12_hitsOf_x r0 r1 m113 a2 a3) (r0 (Int32.toNatClampNeg ((48 : Int32) + a1))) (0 : Int32) (0 : Int32) r0 r1 r2 r3 m113 (0 : Int32)) (fun z356 z357 z358 z359 => (tu2 (F_X12_comes z356 a2 a3 (r0 (Int32.toNatClampNeg ((48 : Int32) + a1))) (0 : Int32)) (fun z360 z361 => (tu4 (F_X12_goClone_x_182 26 a2 a3 (F_X12_hitsOf_x r0 r1 m113 a2 a3) (r0 (Int32.toNatClampNeg ((48 : Int32) + a1))) (0 : Int32) z360 (0 : Int32) z361 r1 z357 z358 m113 z359) (fun z362 z363 z364 z365 => (z360, (upd z362 (Int32.toNatClampNeg (120 : Int32)) ((z362 (Int32.toNatClampNeg (120 : Int32))) + (1 : Int32))), z363, z364, z365))))))) else (tu3 (F_X12_layNew_x r2 r3 (0 : Int32) (r0 (Int32.toNatClampNeg ((48 : Int32) + a2))) (r0 (Int32.toNatClampNeg ((48 : Int32) + a1)))) (fun z366 z367 z368 => (tu4 (F_X12_goClone_x_102 26 a2 a3 (F_X12_spreadOf r0 a2) (F_X12_hitsOf_x r0 r1 m113 a2 a3) (r0 (Int32.toNatClampNeg ((48 : Int32) + a1))) (0 : Int32) (0 : Int32) r0 r1 z366 z367 m113 z368) (fun z369 z370 z371 z372 => (tu2 (F_X12_comes z369 a2 a3 (r0 (Int32.toNatClampNeg ((48 : Int32) + a1))) (0 : Int32)) (fun z373 z374 => (tu4 (F_X12_goClone_x_182 26 a2 a3 (F_X12_hitsOf_x r0 r1 m113 a2 a3) (r0 (Int32.toNatClampNeg ((48 : Int32) + a1))) (0 : Int32) z373 (0 : Int32) z374 r1 z370 z371 m113 z372) (fun z375 z376 z377 z378 => (z373, (upd z375 (Int32.toNatClampNeg (120 : Int32)) ((z375 (Int32.toNatClampNeg (120 : Int32))) + (1 : Int32))), z376, z377, z378)))))))))))) else (if (r0 (Int32.toNatClampNeg ((48 : Int32) + a2))) = (0 : Int32) then (if (r0 (Int32.toNatClampNeg ((48 : Int32) + a2))) = (0 : Int32) then (tu4 (F_X12_goClone_x_102 26 a2 a3 (F_X12_spreadOf r0 a2) (F_X12_hitsOf_x r0 r1 m113 a2 a3) (r0 (Int32.toNatClampNeg ((48 : Int32) + a1))) (r0 (Int32.toNatClampNeg ((72 : Int32) + a1))) (0 : Int32) r0 r1 r2 r3 m113 (0 : Int32)) (fun z262 z263 z264 z265 => (tu2 (F_X12_comes z262 a2 a3 (r0 (Int32.toNatClampNeg ((48 : Int32) + a1))) (r0 (Int32.toNatClampNeg ((72 : Int32) + a1)))) (fun z266 z267 => (tu4 (F_X12_goClone_x_182 26 a2 a3 (F_X12_hitsOf_x r0 r1 m113 a2 a3) (r0 (Int32.toNatClampNeg ((48 : Int32) + a1))) (r0 (Int32.toNatClampNeg ((72 : Int32) + a1))) z266 (0 : Int32) z267 r1 z263 z264 m113 z265) (fun z268 z269 z270 z271 => (z266, (upd z268 (Int32.toNatClampNeg (120 : Int32)) ((z268 (Int32.toNatClampNeg (120 : Int32))) + (1 : Int32))), z269, z270, z271))))))) else (tu3 (F_X12_layNew_x r2 r3 (0 : Int32) (r0 (Int32.toNatClampNeg ((48 : Int32) + a2))) (r0 (Int32.toNatClampNeg ((48 : Int32) + a1)))) (fun z272 z273 z274 => (tu4 (F_X12_goClone_x_102 26 a2 a3 (F_X12_spreadOf r0 a2) (F_X12_hitsOf_x r0 r1 m113 a2 a3) (r0 (Int32.toNatClampNeg ((48 : Int32) + a1))) (r0 (Int32.toNatClampNeg ((72 : Int32) + a1))) (0 : Int32) r0 r1 z272 z273 m113 z274) (fun z275 z276 z277 z278 => (tu2 (F_X12_comes z275 a2 a3 (r0 (Int32.toNatClampNeg ((48 : Int32) + a1))) (r0 (Int32.toNatClampNeg ((72 : Int32) + a1)))) (fun z279 z280 => (tu4 (F_X12_goClone_x_182 26 a2 a3 (F_X12_hitsOf_x r0 r1 m113 a2 a3) (r0 (Int32.toNatClampNeg ((48 : Int32) + a1))) (r0 (Int32.toNatClampNeg ((72 : Int32) + a1))) z279 (0 : Int32) z280 r1 z276 z277 m113 z278) (fun z281 z282 z283 z284 => (z279, (upd z281 (Int32.toNatClampNeg (120 : Int32)) ((z281 (Int32.toNatClampNeg (120 : Int32))) + (1 : Int32))), z282, z283, z284)))))))))) else (if (r0 (Int32.toNatClampNeg ((48 : Int32) + a1))) = (0 : Int32) then (tu2 (F_X12_newGroup r0) (fun z308 z309 => (if (z309 (Int32.toNatClampNeg ((48 : Int32) + a2))) = (0 : Int32) then (tu4 (F_X12_goClone_x_102 26 a2 a3 (F_X12_spreadOf r0 a2) (F_X12_hitsOf_x r0 r1 m113 a2 a3) z308 (r0 (Int32.toNatClampNeg ((72 : Int32) + a1))) (0 : Int32) z309 r1 r2 r3 m113 (0 : Int32)) (fun z310 z311 z312 z313 => (tu2 (F_X12_comes z310 a2 a3 z308 (r0 (Int32.toNatClampNeg ((72 : Int32) + a1)))) (fun z314 z315 => (tu4 (F_X12_goClone_x_182 26 a2 a3 (F_X12_hitsOf_x r0 r1 m113 a2 a3) z308 (r0 (Int32.toNatClampNeg ((72 : Int32) + a1))) z314 (0 : Int32) z315 r1 z311 z312 m113 z313) (fun z316 z317 z318 z319 => (z314, (upd z316 (Int32.toNatClampNeg (120 : Int32)) ((z316 (Int32.toNatClampNeg (120 : Int32))) + (1 : Int32))), z317, z318, z319))))))) else (tu3 (F_X12_layNew_x r2 r3 (0 : Int32) (z309 (Int32.toNatClampNeg ((48 : Int32) + a2))) z308) (fun z320 z321 z322 => (tu4 (F_X12_goClone_x_102 26 a2 a3 (F_X12_spreadOf r0 a2) (F_X12_hitsOf_x r0 r1 m113 a2 a3) z308 (r0 (Int32.toNatClampNeg ((72 : Int32) + a1))) (0 : Int32) z309 r1 z320 z321 m113 z322) (fun z323 z324 z325 z326 => (tu2 (F_X12_comes z323 a2 a3 z308 (r0 (Int32.toNatClampNeg ((72 : Int32) + a1)))) (fun z327 z328 => (tu4 (F_X12_goClone_x_182 26 a2 a3 (F_X12_hitsOf_x r0 r1 m113 a2 a3) z308 (r0 (Int32.toNatClampNeg ((72 : Int32) + a1))) z327 (0 : Int32) z328 r1 z324 z325 m113 z326) (fun z329 z330 z331 z332 => (z327, (upd z329 (Int32.toNatClampNeg (120 : Int32)) ((z329 (Int32.toNatClampNeg (120 : Int32))) + (1 : Int32))), z330, z331, z332)))))))))))) else (if (r0 (Int32.toNatClampNeg ((48 : Int32) + a2))) = (0 : Int32) then (tu4 (F_X12_goClone_x_102 26 a2 a3 (F_X12_spreadOf r0 a2) (F_X12_hitsOf_x r0 r1 m113 a2 a3) (r0 (Int32.toNatClampNeg ((48 : Int32) + a1))) (r0 (Int32.toNatClampNeg ((72 : Int32) + a1))) (0 : Int32) r0 r1 r2 r3 m113 (0 : Int32)) (fun z285 z286 z287 z288 => (tu2 (F_X12_comes z285 a2 a3 (r0 (Int32.toNatClampNeg ((48 : Int32) + a1))) (r0 (Int32.toNatClampNeg ((72 : Int32) + a1)))) (fun z289 z290 => (tu4 (F_X12_goClone_x_182 26 a2 a3 (F_X12_hitsOf_x r0 r1 m113 a2 a3) (r0 (Int32.toNatClampNeg ((48 : Int32) + a1))) (r0 (Int32.toNatClampNeg ((72 : Int32) + a1))) z289 (0 : Int32) z290 r1 z286 z287 m113 z288) (fun z291 z292 z293 z294 => (z289, (upd z291 (Int32.toNatClampNeg (120 : Int32)) ((z291 (Int32.toNatClampNeg (120 : Int32))) + (1 : Int32))), z292, z293, z294))))))) else (tu3 (F_X12_layNew_x r2 r3 (0 : Int32) (r0 (Int32.toNatClampNeg ((48 : Int32) + a2))) (r0 (Int32.toNatClampNeg ((48 : Int32) + a1)))) (fun z295 z296 z297 => (tu4 (F_X12_goClone_x_102 26 a2 a3 (F_X12_spreadOf r0 a2) (F_X12_hitsOf_x r0 r1 m113 a2 a3) (r0 (Int32.toNatClampNeg ((48 : Int32) + a1))) (r0 (Int32.toNatClampNeg ((72 : Int32) + a1))) (0 : Int32) r0 r1 z295 z296 m113 z297) (fun z298 z299 z300 z301 => (tu2 (F_X12_comes z298 a2 a3 (r0 (Int32.toNatClampNeg ((48 : Int32) + a1))) (r0 (Int32.toNatClampNeg ((72 : Int32) + a1)))) (fun z302 z303 => (tu4 (F_X12_goClone_x_182 26 a2 a3 (F_X12_hitsOf_x r0 r1 m113 a2 a3) (r0 (Int32.toNatClampNeg ((48 : Int32) + a1))) (r0 (Int32.toNatClampNeg ((72 : Int32) + a1))) z302 (0 : Int32) z303 r1 z299 z300 m113 z301) (fun z304 z305 z306 z307 => (z302, (upd z304 (Int32.toNatClampNeg (120 : Int32)) ((z304 (Int32.toNatClampNeg (120 : Int32))) + (1 : Int32))), z305, z306, z307))))))))))))))
set_option maxHeartbeats 4000000 in
set_option maxRecDepth 100000 in
theorem c_X12_goClone_x (l : Launch) (g : Gx) (Ty : TyM) (G : Gh) (sz : Nat) (h0 : Nat) (b0 : Nat) (a1 : Int32) (a2 : Int32) (a3 : Int32) (k_h0 : Ty h0 = some (22, 0)) (k_b0 : Ty b0 = some (30, 122)) (pr1 : rgI (0) (24) a1) (pr2 : rgI (0) (23) a2) (pr3 : rgI (0) (3) a3) (rl : Nat) (krl : Ty rl = some (31, 40)) (hr1 : G.2.2 111 = some rl) (hr3 : rgI 0 40 (G.1 113)) (hLD : LD g) (σ : Int32 → Nat) (hTS : TS (G.2.1 b0) σ ((G.2.1 b0) 121)) (h1 : 1 ≤ ((G.2.1 b0) 121).toInt) (Bd : Int) (hBB : ((G.2.1 b0) 121).toInt ≤ Bd) (hB0 : ((G.2.1 b0) 121).toInt ≤ 2000000) (hfrom : a1 = 24 ∨ thr (G.2.1 b0) a1) (hCOM : COM (G.2.1 b0) (G.2.1 rl) (G.1 113) a2 a3) : Met l yX12_goClone (wsG yX12_goClone cX12_goClone 12 (some .int)) ({ frames := 340, cells := 0, slots := 0, locals := 7970 }) (PcT g Ty G sz [.ref h0, .ref b0, .int a1, .int a2, .int a3]) (QwI g Ty sz (fun r u => u.1 = Ty ∧ FR [107, 108, 109, 110, 114, 127, 128] [b0, (g.2.2 115), (g.2.2 125), (g.2.2 126)] [106] G u.2 ∧ (GC Bd (G.2.1 b0) (u.2.2.1 b0) (hitb (G.2.1 b0) (G.2.1 rl) (G.1 113) a2 a3) r) ∧ F_X12_goClone_x (G.2.1 b0) (G.2.1 rl) (G.2.1 (g.2.2 125)) (G.2.1 (g.2.2 126)) (G.1 113) (G.1 127) a1 a2 a3 = (r, (u.2.2.1 b0), (u.2.2.1 (g.2.2 125)), (u.2.2.1 (g.2.2 126)), (u.2.1 127)))) 0 0 (AF Ty sz) := by
  refine Met.ofW (cc := cX12_goClone) (maxL := 12) (ret := (some .int)) (by decide) rfl ?_
  intro p e s m args below meth c s₁ B hml hv
  obtain ⟨rfl, hsz, hK, hH⟩ := hv
  subst hsz
  have hx := B.exec
  have hb := B.bytes
  have hr := B.returns
  have hts := atoms_spec (ws := (wsG yX12_goClone cX12_goClone 12 (some .int))) B.pre
  have hG : ∀ w ∈ GW, w.before ([.ref h0, .ref b0, .int a1, .int a2, .int a3] : List Value).toArray s = true := fun w h => hts w (List.mem_cons_of_mem _ h)
  have hown : s.vm.findClass RX12 = some m.cls := findClass_of_methodNamed B.named
  have hlocks := B.notSynchronized
  have hl := lv_entry [.ref h0, .ref b0, .int a1, .int a2, .int a3] (n := 12) (Nat.le_of_ble_eq_true rfl)
  rw [lg_entry_eq]
  generalize (lg_sl [.ref h0, .ref b0, .int a1, .int a2, .int a3] ++ List.replicate (12 - (lg_sl [.ref h0, .ref b0, .int a1, .int a2, .int a3]).length) Slot.unset).toArray = ls at hl ⊢
  have hl : lv_has ls 12 [(0, .ref h0), (1, .ref b0), (2, .int a1), (3, .int a2), (4, .int a3)] := hl
  have hmk : mdK g Ty := mdk_of hH k_h0
  have hv : (if a1 = (24 : Int32) then (if a1 = (24 : Int32) then (if ((G.2.1 b0) (Int32.toNatClampNeg ((48 : Int32) + a2))) = (0 : Int32) then (if ((G.2.1 b0) (Int32.toNatClampNeg ((48 : Int32) + a2))) = (0 : Int32) then (tu4 (F_X12_goClone_x_102 26 a2 a3 (F_X12_spreadOf (G.2.1 b0) a2) (F_X12_hitsOf_x (G.2.1 b0) (G.2.1 rl) (G.1 113) a2 a3) (0 : Int32) (0 : Int32) (0 : Int32) (G.2.1 b0) (G.2.1 rl) (G.2.1 (g.2.2 125)) (G.2.1 (g.2.2 126)) (G.1 113) (0 : Int32)) (fun z205 z206 z207 z208 => (tu2 (F_X12_comes z205 a2 a3 (0 : Int32) (0 : Int32)) (fun z209 z210 => (tu4 (F_X12_goClone_x_182 26 a2 a3 (F_X12_hitsOf_x (G.2.1 b0) (G.2.1 rl) (G.1 113) a2 a3) (0 : Int32) (0 : Int32) z209 (0 : Int32) z210 (G.2.1 rl) z206 z207 (G.1 113) z208) (fun z211 z212 z213 z214 => (z209, (upd z211 (Int32.toNatClampNeg (120 : Int32)) ((z211 (Int32.toNatClampNeg (120 : Int32))) + (1 : Int32))), z212, z213, z214))))))) else (tu3 (F_X12_layNew_x (G.2.1 (g.2.2 125)) (G.2.1 (g.2.2 126)) (0 : Int32) ((G.2.1 b0) (Int32.toNatClampNeg ((48 : Int32) + a2))) (0 : Int32)) (fun z215 z216 z217 => (tu4 (F_X12_goClone_x_102 26 a2 a3 (F_X12_spreadOf (G.2.1 b0) a2) (F_X12_hitsOf_x (G.2.1 b0) (G.2.1 rl) (G.1 113) a2 a3) (0 : Int32) (0 : Int32) (0 : Int32) (G.2.1 b0) (G.2.1 rl) z215 z216 (G.1 113) z217) (fun z218 z219 z220 z221 => (tu2 (F_X12_comes z218 a2 a3 (0 : Int32) (0 : Int32)) (fun z222 z223 => (tu4 (F_X12_goClone_x_182 26 a2 a3 (F_X12_hitsOf_x (G.2.1 b0) (G.2.1 rl) (G.1 113) a2 a3) (0 : Int32) (0 : Int32) z222 (0 : Int32) z223 (G.2.1 rl) z219 z220 (G.1 113) z221) (fun z224 z225 z226 z227 => (z222, (upd z224 (Int32.toNatClampNeg (120 : Int32)) ((z224 (Int32.toNatClampNeg (120 : Int32))) + (1 : Int32))), z225, z226, z227)))))))))) else (tu2 (F_X12_newGroup (G.2.1 b0)) (fun z228 z229 => (if (z229 (Int32.toNatClampNeg ((48 : Int32) + a2))) = (0 : Int32) then (tu4 (F_X12_goClone_x_102 26 a2 a3 (F_X12_spreadOf (G.2.1 b0) a2) (F_X12_hitsOf_x (G.2.1 b0) (G.2.1 rl) (G.1 113) a2 a3) z228 (0 : Int32) (0 : Int32) z229 (G.2.1 rl) (G.2.1 (g.2.2 125)) (G.2.1 (g.2.2 126)) (G.1 113) (0 : Int32)) (fun z230 z231 z232 z233 => (tu2 (F_X12_comes z230 a2 a3 z228 (0 : Int32)) (fun z234 z235 => (tu4 (F_X12_goClone_x_182 26 a2 a3 (F_X12_hitsOf_x (G.2.1 b0) (G.2.1 rl) (G.1 113) a2 a3) z228 (0 : Int32) z234 (0 : Int32) z235 (G.2.1 rl) z231 z232 (G.1 113) z233) (fun z236 z237 z238 z239 => (z234, (upd z236 (Int32.toNatClampNeg (120 : Int32)) ((z236 (Int32.toNatClampNeg (120 : Int32))) + (1 : Int32))), z237, z238, z239))))))) else (tu3 (F_X12_layNew_x (G.2.1 (g.2.2 125)) (G.2.1 (g.2.2 126)) (0 : Int32) (z229 (Int32.toNatClampNeg ((48 : Int32) + a2))) z228) (fun z240 z241 z242 => (tu4 (F_X12_goClone_x_102 26 a2 a3 (F_X12_spreadOf (G.2.1 b0) a2) (F_X12_hitsOf_x (G.2.1 b0) (G.2.1 rl) (G.1 113) a2 a3) z228 (0 : Int32) (0 : Int32) z229 (G.2.1 rl) z240 z241 (G.1 113) z242) (fun z243 z244 z245 z246 => (tu2 (F_X12_comes z243 a2 a3 z228 (0 : Int32)) (fun z247 z248 => (tu4 (F_X12_goClone_x_182 26 a2 a3 (F_X12_hitsOf_x (G.2.1 b0) (G.2.1 rl) (G.1 113) a2 a3) z228 (0 : Int32) z247 (0 : Int32) z248 (G.2.1 rl) z244 z245 (G.1 113) z246) (fun z249 z250 z251 z252 => (z247, (upd z249 (Int32.toNatClampNeg (120 : Int32)) ((z249 (Int32.toNatClampNeg (120 : Int32))) + (1 : Int32))), z250, z251, z252))))))))))))) else (if ((G.2.1 b0) (Int32.toNatClampNeg ((48 : Int32) + a2))) = (0 : Int32) then (if ((G.2.1 b0) (Int32.toNatClampNeg ((48 : Int32) + a2))) = (0 : Int32) then (tu4 (F_X12_goClone_x_102 26 a2 a3 (F_X12_spreadOf (G.2.1 b0) a2) (F_X12_hitsOf_x (G.2.1 b0) (G.2.1 rl) (G.1 113) a2 a3) (0 : Int32) ((G.2.1 b0) (Int32.toNatClampNeg ((72 : Int32) + a1))) (0 : Int32) (G.2.1 b0) (G.2.1 rl) (G.2.1 (g.2.2 125)) (G.2.1 (g.2.2 126)) (G.1 113) (0 : Int32)) (fun z157 z158 z159 z160 => (tu2 (F_X12_comes z157 a2 a3 (0 : Int32) ((G.2.1 b0) (Int32.toNatClampNeg ((72 : Int32) + a1)))) (fun z161 z162 => (tu4 (F_X12_goClone_x_182 26 a2 a3 (F_X12_hitsOf_x (G.2.1 b0) (G.2.1 rl) (G.1 113) a2 a3) (0 : Int32) ((G.2.1 b0) (Int32.toNatClampNeg ((72 : Int32) + a1))) z161 (0 : Int32) z162 (G.2.1 rl) z158 z159 (G.1 113) z160) (fun z163 z164 z165 z166 => (z161, (upd z163 (Int32.toNatClampNeg (120 : Int32)) ((z163 (Int32.toNatClampNeg (120 : Int32))) + (1 : Int32))), z164, z165, z166))))))) else (tu3 (F_X12_layNew_x (G.2.1 (g.2.2 125)) (G.2.1 (g.2.2 126)) (0 : Int32) ((G.2.1 b0) (Int32.toNatClampNeg ((48 : Int32) + a2))) (0 : Int32)) (fun z167 z168 z169 => (tu4 (F_X12_goClone_x_102 26 a2 a3 (F_X12_spreadOf (G.2.1 b0) a2) (F_X12_hitsOf_x (G.2.1 b0) (G.2.1 rl) (G.1 113) a2 a3) (0 : Int32) ((G.2.1 b0) (Int32.toNatClampNeg ((72 : Int32) + a1))) (0 : Int32) (G.2.1 b0) (G.2.1 rl) z167 z168 (G.1 113) z169) (fun z170 z171 z172 z173 => (tu2 (F_X12_comes z170 a2 a3 (0 : Int32) ((G.2.1 b0) (Int32.toNatClampNeg ((72 : Int32) + a1)))) (fun z174 z175 => (tu4 (F_X12_goClone_x_182 26 a2 a3 (F_X12_hitsOf_x (G.2.1 b0) (G.2.1 rl) (G.1 113) a2 a3) (0 : Int32) ((G.2.1 b0) (Int32.toNatClampNeg ((72 : Int32) + a1))) z174 (0 : Int32) z175 (G.2.1 rl) z171 z172 (G.1 113) z173) (fun z176 z177 z178 z179 => (z174, (upd z176 (Int32.toNatClampNeg (120 : Int32)) ((z176 (Int32.toNatClampNeg (120 : Int32))) + (1 : Int32))), z177, z178, z179)))))))))) else (tu2 (F_X12_newGroup (G.2.1 b0)) (fun z180 z181 => (if (z181 (Int32.toNatClampNeg ((48 : Int32) + a2))) = (0 : Int32) then (tu4 (F_X12_goClone_x_102 26 a2 a3 (F_X12_spreadOf (G.2.1 b0) a2) (F_X12_hitsOf_x (G.2.1 b0) (G.2.1 rl) (G.1 113) a2 a3) z180 ((G.2.1 b0) (Int32.toNatClampNeg ((72 : Int32) + a1))) (0 : Int32) z181 (G.2.1 rl) (G.2.1 (g.2.2 125)) (G.2.1 (g.2.2 126)) (G.1 113) (0 : Int32)) (fun z182 z183 z184 z185 => (tu2 (F_X12_comes z182 a2 a3 z180 ((G.2.1 b0) (Int32.toNatClampNeg ((72 : Int32) + a1)))) (fun z186 z187 => (tu4 (F_X12_goClone_x_182 26 a2 a3 (F_X12_hitsOf_x (G.2.1 b0) (G.2.1 rl) (G.1 113) a2 a3) z180 ((G.2.1 b0) (Int32.toNatClampNeg ((72 : Int32) + a1))) z186 (0 : Int32) z187 (G.2.1 rl) z183 z184 (G.1 113) z185) (fun z188 z189 z190 z191 => (z186, (upd z188 (Int32.toNatClampNeg (120 : Int32)) ((z188 (Int32.toNatClampNeg (120 : Int32))) + (1 : Int32))), z189, z190, z191))))))) else (tu3 (F_X12_layNew_x (G.2.1 (g.2.2 125)) (G.2.1 (g.2.2 126)) (0 : Int32) (z181 (Int32.toNatClampNeg ((48 : Int32) + a2))) z180) (fun z192 z193 z194 => (tu4 (F_X12_goClone_x_102 26 a2 a3 (F_X12_spreadOf (G.2.1 b0) a2) (F_X12_hitsOf_x (G.2.1 b0) (G.2.1 rl) (G.1 113) a2 a3) z180 ((G.2.1 b0) (Int32.toNatClampNeg ((72 : Int32) + a1))) (0 : Int32) z181 (G.2.1 rl) z192 z193 (G.1 113) z194) (fun z195 z196 z197 z198 => (tu2 (F_X12_comes z195 a2 a3 z180 ((G.2.1 b0) (Int32.toNatClampNeg ((72 : Int32) + a1)))) (fun z199 z200 => (tu4 (F_X12_goClone_x_182 26 a2 a3 (F_X12_hitsOf_x (G.2.1 b0) (G.2.1 rl) (G.1 113) a2 a3) z180 ((G.2.1 b0) (Int32.toNatClampNeg ((72 : Int32) + a1))) z199 (0 : Int32) z200 (G.2.1 rl) z196 z197 (G.1 113) z198) (fun z201 z202 z203 z204 => (z199, (upd z201 (Int32.toNatClampNeg (120 : Int32)) ((z201 (Int32.toNatClampNeg (120 : Int32))) + (1 : Int32))), z202, z203, z204)))))))))))))) else (if a1 = (24 : Int32) then (if ((G.2.1 b0) (Int32.toNatClampNeg ((48 : Int32) + a2))) = (0 : Int32) then (if ((G.2.1 b0) (Int32.toNatClampNeg ((48 : Int32) + a2))) = (0 : Int32) then (tu4 (F_X12_goClone_x_102 26 a2 a3 (F_X12_spreadOf (G.2.1 b0) a2) (F_X12_hitsOf_x (G.2.1 b0) (G.2.1 rl) (G.1 113) a2 a3) ((G.2.1 b0) (Int32.toNatClampNeg ((48 : Int32) + a1))) (0 : Int32) (0 : Int32) (G.2.1 b0) (G.2.1 rl) (G.2.1 (g.2.2 125)) (G.2.1 (g.2.2 126)) (G.1 113) (0 : Int32)) (fun z86 z87 z88 z89 => (tu2 (F_X12_comes z86 a2 a3 ((G.2.1 b0) (Int32.toNatClampNeg ((48 : Int32) + a1))) (0 : Int32)) (fun z90 z91 => (tu4 (F_X12_goClone_x_182 26 a2 a3 (F_X12_hitsOf_x (G.2.1 b0) (G.2.1 rl) (G.1 113) a2 a3) ((G.2.1 b0) (Int32.toNatClampNeg ((48 : Int32) + a1))) (0 : Int32) z90 (0 : Int32) z91 (G.2.1 rl) z87 z88 (G.1 113) z89) (fun z92 z93 z94 z95 => (z90, (upd z92 (Int32.toNatClampNeg (120 : Int32)) ((z92 (Int32.toNatClampNeg (120 : Int32))) + (1 : Int32))), z93, z94, z95))))))) else (tu3 (F_X12_layNew_x (G.2.1 (g.2.2 125)) (G.2.1 (g.2.2 126)) (0 : Int32) ((G.2.1 b0) (Int32.toNatClampNeg ((48 : Int32) + a2))) ((G.2.1 b0) (Int32.toNatClampNeg ((48 : Int32) + a1)))) (fun z96 z97 z98 => (tu4 (F_X12_goClone_x_102 26 a2 a3 (F_X12_spreadOf (G.2.1 b0) a2) (F_X12_hitsOf_x (G.2.1 b0) (G.2.1 rl) (G.1 113) a2 a3) ((G.2.1 b0) (Int32.toNatClampNeg ((48 : Int32) + a1))) (0 : Int32) (0 : Int32) (G.2.1 b0) (G.2.1 rl) z96 z97 (G.1 113) z98) (fun z99 z100 z101 z102 => (tu2 (F_X12_comes z99 a2 a3 ((G.2.1 b0) (Int32.toNatClampNeg ((48 : Int32) + a1))) (0 : Int32)) (fun z103 z104 => (tu4 (F_X12_goClone_x_182 26 a2 a3 (F_X12_hitsOf_x (G.2.1 b0) (G.2.1 rl) (G.1 113) a2 a3) ((G.2.1 b0) (Int32.toNatClampNeg ((48 : Int32) + a1))) (0 : Int32) z103 (0 : Int32) z104 (G.2.1 rl) z100 z101 (G.1 113) z102) (fun z105 z106 z107 z108 => (z103, (upd z105 (Int32.toNatClampNeg (120 : Int32)) ((z105 (Int32.toNatClampNeg (120 : Int32))) + (1 : Int32))), z106, z107, z108)))))))))) else (if ((G.2.1 b0) (Int32.toNatClampNeg ((48 : Int32) + a1))) = (0 : Int32) then (tu2 (F_X12_newGroup (G.2.1 b0)) (fun z132 z133 => (if (z133 (Int32.toNatClampNeg ((48 : Int32) + a2))) = (0 : Int32) then (tu4 (F_X12_goClone_x_102 26 a2 a3 (F_X12_spreadOf (G.2.1 b0) a2) (F_X12_hitsOf_x (G.2.1 b0) (G.2.1 rl) (G.1 113) a2 a3) z132 (0 : Int32) (0 : Int32) z133 (G.2.1 rl) (G.2.1 (g.2.2 125)) (G.2.1 (g.2.2 126)) (G.1 113) (0 : Int32)) (fun z134 z135 z136 z137 => (tu2 (F_X12_comes z134 a2 a3 z132 (0 : Int32)) (fun z138 z139 => (tu4 (F_X12_goClone_x_182 26 a2 a3 (F_X12_hitsOf_x (G.2.1 b0) (G.2.1 rl) (G.1 113) a2 a3) z132 (0 : Int32) z138 (0 : Int32) z139 (G.2.1 rl) z135 z136 (G.1 113) z137) (fun z140 z141 z142 z143 => (z138, (upd z140 (Int32.toNatClampNeg (120 : Int32)) ((z140 (Int32.toNatClampNeg (120 : Int32))) + (1 : Int32))), z141, z142, z143))))))) else (tu3 (F_X12_layNew_x (G.2.1 (g.2.2 125)) (G.2.1 (g.2.2 126)) (0 : Int32) (z133 (Int32.toNatClampNeg ((48 : Int32) + a2))) z132) (fun z144 z145 z146 => (tu4 (F_X12_goClone_x_102 26 a2 a3 (F_X12_spreadOf (G.2.1 b0) a2) (F_X12_hitsOf_x (G.2.1 b0) (G.2.1 rl) (G.1 113) a2 a3) z132 (0 : Int32) (0 : Int32) z133 (G.2.1 rl) z144 z145 (G.1 113) z146) (fun z147 z148 z149 z150 => (tu2 (F_X12_comes z147 a2 a3 z132 (0 : Int32)) (fun z151 z152 => (tu4 (F_X12_goClone_x_182 26 a2 a3 (F_X12_hitsOf_x (G.2.1 b0) (G.2.1 rl) (G.1 113) a2 a3) z132 (0 : Int32) z151 (0 : Int32) z152 (G.2.1 rl) z148 z149 (G.1 113) z150) (fun z153 z154 z155 z156 => (z151, (upd z153 (Int32.toNatClampNeg (120 : Int32)) ((z153 (Int32.toNatClampNeg (120 : Int32))) + (1 : Int32))), z154, z155, z156)))))))))))) else (if ((G.2.1 b0) (Int32.toNatClampNeg ((48 : Int32) + a2))) = (0 : Int32) then (tu4 (F_X12_goClone_x_102 26 a2 a3 (F_X12_spreadOf (G.2.1 b0) a2) (F_X12_hitsOf_x (G.2.1 b0) (G.2.1 rl) (G.1 113) a2 a3) ((G.2.1 b0) (Int32.toNatClampNeg ((48 : Int32) + a1))) (0 : Int32) (0 : Int32) (G.2.1 b0) (G.2.1 rl) (G.2.1 (g.2.2 125)) (G.2.1 (g.2.2 126)) (G.1 113) (0 : Int32)) (fun z109 z110 z111 z112 => (tu2 (F_X12_comes z109 a2 a3 ((G.2.1 b0) (Int32.toNatClampNeg ((48 : Int32) + a1))) (0 : Int32)) (fun z113 z114 => (tu4 (F_X12_goClone_x_182 26 a2 a3 (F_X12_hitsOf_x (G.2.1 b0) (G.2.1 rl) (G.1 113) a2 a3) ((G.2.1 b0) (Int32.toNatClampNeg ((48 : Int32) + a1))) (0 : Int32) z113 (0 : Int32) z114 (G.2.1 rl) z110 z111 (G.1 113) z112) (fun z115 z116 z117 z118 => (z113, (upd z115 (Int32.toNatClampNeg (120 : Int32)) ((z115 (Int32.toNatClampNeg (120 : Int32))) + (1 : Int32))), z116, z117, z118))))))) else (tu3 (F_X12_layNew_x (G.2.1 (g.2.2 125)) (G.2.1 (g.2.2 126)) (0 : Int32) ((G.2.1 b0) (Int32.toNatClampNeg ((48 : Int32) + a2))) ((G.2.1 b0) (Int32.toNatClampNeg ((48 : Int32) + a1)))) (fun z119 z120 z121 => (tu4 (F_X12_goClone_x_102 26 a2 a3 (F_X12_spreadOf (G.2.1 b0) a2) (F_X12_hitsOf_x (G.2.1 b0) (G.2.1 rl) (G.1 113) a2 a3) ((G.2.1 b0) (Int32.toNatClampNeg ((48 : Int32) + a1))) (0 : Int32) (0 : Int32) (G.2.1 b0) (G.2.1 rl) z119 z120 (G.1 113) z121) (fun z122 z123 z124 z125 => (tu2 (F_X12_comes z122 a2 a3 ((G.2.1 b0) (Int32.toNatClampNeg ((48 : Int32) + a1))) (0 : Int32)) (fun z126 z127 => (tu4 (F_X12_goClone_x_182 26 a2 a3 (F_X12_hitsOf_x (G.2.1 b0) (G.2.1 rl) (G.1 113) a2 a3) ((G.2.1 b0) (Int32.toNatClampNeg ((48 : Int32) + a1))) (0 : Int32) z126 (0 : Int32) z127 (G.2.1 rl) z123 z124 (G.1 113) z125) (fun z128 z129 z130 z131 => (z126, (upd z128 (Int32.toNatClampNeg (120 : Int32)) ((z128 (Int32.toNatClampNeg (120 : Int32))) + (1 : Int32))), z129, z130, z131)))))))))))) else (if ((G.2.1 b0) (Int32.toNatClampNeg ((48 : Int32) + a2))) = (0 : Int32) then (if ((G.2.1 b0) (Int32.toNatClampNeg ((48 : Int32) + a2))) = (0 : Int32) then (tu4 (F_X12_goClone_x_102 26 a2 a3 (F_X12_spreadOf (G.2.1 b0) a2) (F_X12_hitsOf_x (G.2.1 b0) (G.2.1 rl) (G.1 113) a2 a3) ((G.2.1 b0) (Int32.toNatClampNeg ((48 : Int32) + a1))) ((G.2.1 b0) (Int32.toNatClampNeg ((72 : Int32) + a1))) (0 : Int32) (G.2.1 b0) (G.2.1 rl) (G.2.1 (g.2.2 125)) (G.2.1 (g.2.2 126)) (G.1 113) (0 : Int32)) (fun z15 z16 z17 z18 => (tu2 (F_X12_comes z15 a2 a3 ((G.2.1 b0) (Int32.toNatClampNeg ((48 : Int32) + a1))) ((G.2.1 b0) (Int32.toNatClampNeg ((72 : Int32) + a1)))) (fun z19 z20 => (tu4 (F_X12_goClone_x_182 26 a2 a3 (F_X12_hitsOf_x (G.2.1 b0) (G.2.1 rl) (G.1 113) a2 a3) ((G.2.1 b0) (Int32.toNatClampNeg ((48 : Int32) + a1))) ((G.2.1 b0) (Int32.toNatClampNeg ((72 : Int32) + a1))) z19 (0 : Int32) z20 (G.2.1 rl) z16 z17 (G.1 113) z18) (fun z21 z22 z23 z24 => (z19, (upd z21 (Int32.toNatClampNeg (120 : Int32)) ((z21 (Int32.toNatClampNeg (120 : Int32))) + (1 : Int32))), z22, z23, z24))))))) else (tu3 (F_X12_layNew_x (G.2.1 (g.2.2 125)) (G.2.1 (g.2.2 126)) (0 : Int32) ((G.2.1 b0) (Int32.toNatClampNeg ((48 : Int32) + a2))) ((G.2.1 b0) (Int32.toNatClampNeg ((48 : Int32) + a1)))) (fun z25 z26 z27 => (tu4 (F_X12_goClone_x_102 26 a2 a3 (F_X12_spreadOf (G.2.1 b0) a2) (F_X12_hitsOf_x (G.2.1 b0) (G.2.1 rl) (G.1 113) a2 a3) ((G.2.1 b0) (Int32.toNatClampNeg ((48 : Int32) + a1))) ((G.2.1 b0) (Int32.toNatClampNeg ((72 : Int32) + a1))) (0 : Int32) (G.2.1 b0) (G.2.1 rl) z25 z26 (G.1 113) z27) (fun z28 z29 z30 z31 => (tu2 (F_X12_comes z28 a2 a3 ((G.2.1 b0) (Int32.toNatClampNeg ((48 : Int32) + a1))) ((G.2.1 b0) (Int32.toNatClampNeg ((72 : Int32) + a1)))) (fun z32 z33 => (tu4 (F_X12_goClone_x_182 26 a2 a3 (F_X12_hitsOf_x (G.2.1 b0) (G.2.1 rl) (G.1 113) a2 a3) ((G.2.1 b0) (Int32.toNatClampNeg ((48 : Int32) + a1))) ((G.2.1 b0) (Int32.toNatClampNeg ((72 : Int32) + a1))) z32 (0 : Int32) z33 (G.2.1 rl) z29 z30 (G.1 113) z31) (fun z34 z35 z36 z37 => (z32, (upd z34 (Int32.toNatClampNeg (120 : Int32)) ((z34 (Int32.toNatClampNeg (120 : Int32))) + (1 : Int32))), z35, z36, z37)))))))))) else (if ((G.2.1 b0) (Int32.toNatClampNeg ((48 : Int32) + a1))) = (0 : Int32) then (tu2 (F_X12_newGroup (G.2.1 b0)) (fun z61 z62 => (if (z62 (Int32.toNatClampNeg ((48 : Int32) + a2))) = (0 : Int32) then (tu4 (F_X12_goClone_x_102 26 a2 a3 (F_X12_spreadOf (G.2.1 b0) a2) (F_X12_hitsOf_x (G.2.1 b0) (G.2.1 rl) (G.1 113) a2 a3) z61 ((G.2.1 b0) (Int32.toNatClampNeg ((72 : Int32) + a1))) (0 : Int32) z62 (G.2.1 rl) (G.2.1 (g.2.2 125)) (G.2.1 (g.2.2 126)) (G.1 113) (0 : Int32)) (fun z63 z64 z65 z66 => (tu2 (F_X12_comes z63 a2 a3 z61 ((G.2.1 b0) (Int32.toNatClampNeg ((72 : Int32) + a1)))) (fun z67 z68 => (tu4 (F_X12_goClone_x_182 26 a2 a3 (F_X12_hitsOf_x (G.2.1 b0) (G.2.1 rl) (G.1 113) a2 a3) z61 ((G.2.1 b0) (Int32.toNatClampNeg ((72 : Int32) + a1))) z67 (0 : Int32) z68 (G.2.1 rl) z64 z65 (G.1 113) z66) (fun z69 z70 z71 z72 => (z67, (upd z69 (Int32.toNatClampNeg (120 : Int32)) ((z69 (Int32.toNatClampNeg (120 : Int32))) + (1 : Int32))), z70, z71, z72))))))) else (tu3 (F_X12_layNew_x (G.2.1 (g.2.2 125)) (G.2.1 (g.2.2 126)) (0 : Int32) (z62 (Int32.toNatClampNeg ((48 : Int32) + a2))) z61) (fun z73 z74 z75 => (tu4 (F_X12_goClone_x_102 26 a2 a3 (F_X12_spreadOf (G.2.1 b0) a2) (F_X12_hitsOf_x (G.2.1 b0) (G.2.1 rl) (G.1 113) a2 a3) z61 ((G.2.1 b0) (Int32.toNatClampNeg ((72 : Int32) + a1))) (0 : Int32) z62 (G.2.1 rl) z73 z74 (G.1 113) z75) (fun z76 z77 z78 z79 => (tu2 (F_X12_comes z76 a2 a3 z61 ((G.2.1 b0) (Int32.toNatClampNeg ((72 : Int32) + a1)))) (fun z80 z81 => (tu4 (F_X12_goClone_x_182 26 a2 a3 (F_X12_hitsOf_x (G.2.1 b0) (G.2.1 rl) (G.1 113) a2 a3) z61 ((G.2.1 b0) (Int32.toNatClampNeg ((72 : Int32) + a1))) z80 (0 : Int32) z81 (G.2.1 rl) z77 z78 (G.1 113) z79) (fun z82 z83 z84 z85 => (z80, (upd z82 (Int32.toNatClampNeg (120 : Int32)) ((z82 (Int32.toNatClampNeg (120 : Int32))) + (1 : Int32))), z83, z84, z85)))))))))))) else (if ((G.2.1 b0) (Int32.toNatClampNeg ((48 : Int32) + a2))) = (0 : Int32) then (tu4 (F_X12_goClone_x_102 26 a2 a3 (F_X12_spreadOf (G.2.1 b0) a2) (F_X12_hitsOf_x (G.2.1 b0) (G.2.1 rl) (G.1 113) a2 a3) ((G.2.1 b0) (Int32.toNatClampNeg ((48 : Int32) + a1))) ((G.2.1 b0) (Int32.toNatClampNeg ((72 : Int32) + a1))) (0 : Int32) (G.2.1 b0) (G.2.1 rl) (G.2.1 (g.2.2 125)) (G.2.1 (g.2.2 126)) (G.1 113) (0 : Int32)) (fun z38 z39 z40 z41 => (tu2 (F_X12_comes z38 a2 a3 ((G.2.1 b0) (Int32.toNatClampNeg ((48 : Int32) + a1))) ((G.2.1 b0) (Int32.toNatClampNeg ((72 : Int32) + a1)))) (fun z42 z43 => (tu4 (F_X12_goClone_x_182 26 a2 a3 (F_X12_hitsOf_x (G.2.1 b0) (G.2.1 rl) (G.1 113) a2 a3) ((G.2.1 b0) (Int32.toNatClampNeg ((48 : Int32) + a1))) ((G.2.1 b0) (Int32.toNatClampNeg ((72 : Int32) + a1))) z42 (0 : Int32) z43 (G.2.1 rl) z39 z40 (G.1 113) z41) (fun z44 z45 z46 z47 => (z42, (upd z44 (Int32.toNatClampNeg (120 : Int32)) ((z44 (Int32.toNatClampNeg (120 : Int32))) + (1 : Int32))), z45, z46, z47))))))) else (tu3 (F_X12_layNew_x (G.2.1 (g.2.2 125)) (G.2.1 (g.2.2 126)) (0 : Int32) ((G.2.1 b0) (Int32.toNatClampNeg ((48 : Int32) + a2))) ((G.2.1 b0) (Int32.toNatClampNeg ((48 : Int32) + a1)))) (fun z48 z49 z50 => (tu4 (F_X12_goClone_x_102 26 a2 a3 (F_X12_spreadOf (G.2.1 b0) a2) (F_X12_hitsOf_x (G.2.1 b0) (G.2.1 rl) (G.1 113) a2 a3) ((G.2.1 b0) (Int32.toNatClampNeg ((48 : Int32) + a1))) ((G.2.1 b0) (Int32.toNatClampNeg ((72 : Int32) + a1))) (0 : Int32) (G.2.1 b0) (G.2.1 rl) z48 z49 (G.1 113) z50) (fun z51 z52 z53 z54 => (tu2 (F_X12_comes z51 a2 a3 ((G.2.1 b0) (Int32.toNatClampNeg ((48 : Int32) + a1))) ((G.2.1 b0) (Int32.toNatClampNeg ((72 : Int32) + a1)))) (fun z55 z56 => (tu4 (F_X12_goClone_x_182 26 a2 a3 (F_X12_hitsOf_x (G.2.1 b0) (G.2.1 rl) (G.1 113) a2 a3) ((G.2.1 b0) (Int32.toNatClampNeg ((48 : Int32) + a1))) ((G.2.1 b0) (Int32.toNatClampNeg ((72 : Int32) + a1))) z55 (0 : Int32) z56 (G.2.1 rl) z52 z53 (G.1 113) z54) (fun z57 z58 z59 z60 => (z55, (upd z57 (Int32.toNatClampNeg (120 : Int32)) ((z57 (Int32.toNatClampNeg (120 : Int32))) + (1 : Int32))), z58, z59, z60)))))))))))))) = F_X12_goClone_x (G.2.1 b0) (G.2.1 rl) (G.2.1 (g.2.2 125)) (G.2.1 (g.2.2 126)) (G.1 113) (G.1 127) a1 a2 a3 := rfl
  have hS : va_S (AF Ty s.heap.size) s.heap s.heap [] := va_S.rf
  obtain ⟨S, hSb⟩ := rank_bd σ
  obtain ⟨ρ, hT⟩ := hTS.1
  have hm0 : thr (G.2.1 b0) a2 := hCOM.1
  have L_182 : ∀ (n_182 : Nat) (H : Heap) (locs : List Loc) (G_182 : Gh) (fl0_182 : Nat → Int32) (fl2_182 : Nat → Int32) (fl3_182 : Nat → Int32) (y6_182 : Int32) (y7_182 : Int32) (y8_182 : Int32) (y9_182 : Int32) (y10_182 : Int32) (ls : Array Slot), rgI (0) (24) (G_182.1 127) → FR [107, 108, 109, 110, 114, 127, 128] [b0, (g.2.2 115), (g.2.2 125), (g.2.2 126)] [106] G G_182 → G_182.2.1 b0 = fl0_182 → G_182.2.1 (g.2.2 125) = fl2_182 → G_182.2.1 (g.2.2 126) = fl3_182 → rgI (0) (23) a2 → rgI (0) (3) a3 → rgI (0) (24) y10_182 → HB (G.2.1 b0) (G.2.1 rl) (G.1 113) a2 a3 y6_182 → L2 (G.2.1 b0) fl0_182 fl2_182 fl3_182 (G_182.1 127) (y10_182 : Int32).toNatClampNeg a2.toNatClampNeg y7_182 y8_182 S σ (hitb (G.2.1 b0) (G.2.1 rl) (G.1 113) a2 a3) y9_182 → SB (G.2.1 b0) (F_X12_spreadOf (G.2.1 b0) a2) → (24 - (y10_182).toInt).toNat < n_182 → lv_has ls 12 [(0, .ref h0), (1, .ref b0), (3, .int a2), (4, .int a3), (6, .int y6_182), (7, .int y7_182), (8, .int y8_182), (9, .int y9_182), (10, .int y10_182)] → (tu4 (F_X12_goClone_x_182 n_182 a2 a3 y6_182 y7_182 y8_182 y9_182 y10_182 fl0_182 (G.2.1 rl) fl2_182 fl3_182 (G.1 113) (G_182.1 127)) (fun z1 z2 z3 z4 => (y9_182, (upd z1 (Int32.toNatClampNeg (120 : Int32)) ((z1 (Int32.toNatClampNeg (120 : Int32))) + (1 : Int32))), z2, z3, z4))) = F_X12_goClone_x (G.2.1 b0) (G.2.1 rl) (G.2.1 (g.2.2 125)) (G.2.1 (g.2.2 126)) (G.1 113) (G.1 127) a1 a2 a3 → HT g Ty G_182 H → va_S (AF Ty s.heap.size) s.heap H locs → Wm p l e (wsG yX12_goClone cX12_goClone 12 (some .int)) ({ frames := 340, cells := 0, slots := 0, locals := 7970 }) s m [.ref h0, .ref b0, .int a1, .int a2, .int a3] below meth c H locs (0) (0) (QwI g Ty s.heap.size (fun r u => u.1 = Ty ∧ FR [107, 108, 109, 110, 114, 127, 128] [b0, (g.2.2 115), (g.2.2 125), (g.2.2 126)] [106] G u.2 ∧ (GC Bd (G.2.1 b0) (u.2.2.1 b0) (hitb (G.2.1 b0) (G.2.1 rl) (G.1 113) a2 a3) r) ∧ F_X12_goClone_x (G.2.1 b0) (G.2.1 rl) (G.2.1 (g.2.2 125)) (G.2.1 (g.2.2 126)) (G.1 113) (G.1 127) a1 a2 a3 = (r, (u.2.2.1 b0), (u.2.2.1 (g.2.2 125)), (u.2.2.1 (g.2.2 126)), (u.2.1 127)))) 0 0 (AF Ty s.heap.size) (F0 m 182 ls []) := by
    intro n_182
    induction n_182 with
    | zero => intro H locs G_182 fl0_182 fl2_182 fl3_182 y6_182 y7_182 y8_182 y9_182 y10_182 ls rg127_182 frL_182 efl0_182 efl2_182 efl3_182 ry3_182 ry4_182 ry10_182 hi0_182 hi1_182 hi2_182 hm; exact absurd hm (Nat.not_lt_zero _)
    | succ n_182 ih_182 =>
      intro H locs G_182 fl0_182 fl2_182 fl3_182 y6_182 y7_182 y8_182 y9_182 y10_182 ls rg127_182 frL_182 efl0_182 efl2_182 efl3_182 ry3_182 ry4_182 ry10_182 hi0_182 hi1_182 hi2_182 hm_182 hl hv hH hS
      rw [F_X12_goClone_x_182] at hv
      refine lv_iload hx hb dX12_goClone_182 (lv_at hl 8 rfl) ?_
      refine lv_bipush (v := 24) hx hb dX12_goClone_184 (by decide) ?_
      refine lv_icmp_ge (tgt := 292) hx hb dX12_goClone_186 (by decide) (fun c_1 => ?_) (fun c_1 => ?_)
      · rw [if_pos c_1] at hv
        have r_2 : rgI (24) (24) y10_182 := rg_w (rg_leR rl_24 ry10_182 c_1) (by decide) (by decide)
        rw [tu4_eq] at hv
        refine lv_aload_n hx hb dX12_goClone_292 rfl (lv_at hl 1 rfl) ?_
        refine lv_bipush (v := 120) hx hb dX12_goClone_293 (by decide) ?_
        refine lv_dup2_11 hx hb dX12_goClone_295 rfl rfl ?_
        obtain ⟨_, rfl, o_c_3⟩ := hH b0 _ k_b0
        have o_c_3 : va_at g.1 vwCl (b0, .inl (g.2.1 1, 122, .inl (G_182.2.1 b0))) H := o_c_3
        refine hg_iald hx hb hK o_c_3 (rg_in (n := 122) rl_120 (by decide) (by decide)) dX12_goClone_296 ?_
        rw [efl0_182]
        refine lv_topi (fun x_4 ex_4 => ?_)
        try rw [← ex_4] at hv
        refine lv_iconst (v := 1) hx hb dX12_goClone_297 (by decide) ?_
        refine lv_iadd hx hb dX12_goClone_298 ?_
        refine lv_topi (fun x_5 ex_5 => ?_)
        try rw [← ex_5] at hv
        refine hg_iast hx hb hK hS o_c_3 (AF.of k_b0) (rg_in (n := 122) rl_120 (by decide) (by decide)) dX12_goClone_299 (fun H locs o_c_3 hz oq hS => ?_)
        obtain ⟨G_6, eG_6⟩ : ∃ z : Gh, z = aset G_182 b0 (upd (G_182.2.1 b0) (120 : Int32).toNatClampNeg x_5) := ⟨_, rfl⟩
        have hH : HT g Ty G_6 H := by rw [eG_6]; exact HT.putA (upd (G_182.2.1 b0) (120 : Int32).toNatClampNeg x_5) hH k_b0 cf30 o_c_3 oq
        obtain ⟨f_7, ef_7⟩ : ∃ z : Nat → Int32, z = (upd fl0_182 (120 : Int32).toNatClampNeg x_5) := ⟨_, rfl⟩
        have eaf_7 : G_6 = aset G_182 b0 f_7 := by rw [eG_6, ef_7, efl0_182]
        try rw [← ef_7] at hv
        have fr_8 : FR [107, 108, 109, 110, 114, 127, 128] [b0, (g.2.2 115), (g.2.2 125), (g.2.2 126)] [106] G G_6 := FR.a frL_182 eaf_7 (fun b h => h.1)
        have u_9 : G_6.1 127 = (G_182.1 127) := by rw [eaf_7]; exact rfl
        have u_10 : G_6.1 113 = (G.1 113) := by rw [eaf_7]; exact (frL_182.1 113 (by decide))
        have w_11 : G_6.2.1 b0 = f_7 := by rw [eaf_7]; exact aset_eq
        have w_12 : G_6.2.1 rl = (G.2.1 rl) := by rw [eaf_7]; exact (aset_ne (ne_kd krl k_b0 (by decide))).trans (frL_182.2.1 rl ⟨(ne_kd krl k_b0 (by decide)), (ne_kd krl hmk.2.2.2.1 (by decide)), (ne_kd krl hmk.2.2.2.2.2.2.2.2.1 (by decide)), (ne_kd krl hmk.2.2.2.2.2.2.2.2.2.1 (by decide)), trivial⟩)
        have w_13 : G_6.2.1 (g.2.2 125) = fl2_182 := by rw [eaf_7]; exact (aset_ne (ne_kd hmk.2.2.2.2.2.2.2.2.1 k_b0 (by decide))).trans efl2_182
        have w_14 : G_6.2.1 (g.2.2 126) = fl3_182 := by rw [eaf_7]; exact (aset_ne (ne_kd hmk.2.2.2.2.2.2.2.2.2.1 k_b0 (by decide))).trans efl3_182
        have u_15 : G_6.2.2 111 = some rl := by rw [eaf_7]; exact ((frL_182.2.2 111 (by decide)).trans hr1)
        clear oq hz
        refine lv_iload hx hb dX12_goClone_300 (lv_at hl 7 rfl) ?_
        exact W.iret hx hb hr (fun t ht hWm => ⟨⟨y9_182, (Ty, G_6), rfl, ⟨rfl, ⟨fr_8, ⟨(by rw [w_11]; exact GC_mk hi1_182 r_2 h1 hBB ef_7), hv.symm.trans (by rw [w_11, w_13, w_14, u_9])⟩⟩⟩, by show HT g Ty G_6 t.heap; rw [ht]; exact hH⟩, hS.F ht⟩) hS.2.2 dX12_goClone_302
      · rw [if_neg c_1] at hv
        have r_16 : rgI (0) (23) y10_182 := rg_w (rg_ltL ry10_182 rl_24 (nle_lt c_1)) (by decide) (by decide)
        refine lv_iload hx hb dX12_goClone_189 (lv_at hl 4 rfl) ?_
        refine lv_iload hx hb dX12_goClone_191 (lv_at hl 8 rfl) ?_
        refine vp_callSi (W.runS (As := [.int y6_182, .int y10_182]) (rest := []) ⟨hx, hb, hml, hown, hts⟩ (c_X12_has l g Ty G_182 y6_182 y10_182 ) (cwSx 2 hts hG (gwC mw_1563) mw_88 mw_1561 mw_1562 rfl rfl rfl hd_X12_has ⟨Nat.le_of_ble_eq_true rfl, Nat.le_of_ble_eq_true rfl⟩) ⟨PcH_blind, PcH_pre hK hH⟩ rfl rfl hl.1 rfl (lv_room (Nat.le_of_ble_eq_true rfl)) dX12_goClone_193 ⟨Nat.zero_le _, Nat.zero_le _⟩) (fun x_17 hx_17 => ?_)
        have rx_17 : rgI (0) (1) x_17 := hx_17.1
        try rw [← hx_17.2] at hv
        try rw [← hx_17.2] at hv
        refine lv_if_ne (tgt := 202) hx hb dX12_goClone_196 (by decide) (fun c_18 => ?_) (fun c_18 => ?_)
        · rw [if_neg c_18] at hv
          have r_19 : rgI (1) (1) x_17 := rg_w (rg_neL rx_17 rl_0 c_18) (by decide) (by decide)
          have hb_20 : bt y6_182 (y10_182 : Int32).toNatClampNeg = true := has_1 (rg_w r_16 (by decide) (by decide)) (by rw [← hx_17.2]; exact c_18)
          have th_21 : thr (G.2.1 b0) y10_182 := SB.th (hi0_182.sb hi2_182) r_16 hb_20
          refine lv_aload_n hx hb dX12_goClone_202 rfl (lv_at hl 1 rfl) ?_
          refine lv_bipush (v := 48) hx hb dX12_goClone_203 (by decide) ?_
          refine lv_iload hx hb dX12_goClone_205 (lv_at hl 8 rfl) ?_
          refine lv_iadd hx hb dX12_goClone_207 ?_
          refine lv_topi (fun x_22 ex_22 => ?_)
          try rw [← ex_22] at hv
          have rx_22 : rgI (48) (71) x_22 := by rw [ex_22]; exact rg_w (rg_add rl_48 r_16 (by decide) (by decide)) (by decide) (by decide)
          obtain ⟨_, rfl, o_c_23⟩ := hH b0 _ k_b0
          have o_c_23 : va_at g.1 vwCl (b0, .inl (g.2.1 1, 122, .inl (G_182.2.1 b0))) H := o_c_23
          refine hg_iald hx hb hK o_c_23 (rg_in (n := 122) rx_22 (by decide) (by decide)) dX12_goClone_208 ?_
          rw [efl0_182]
          refine lv_topi (fun x_24 ex_24 => ?_)
          try rw [← ex_24] at hv
          refine lv_aload_n hx hb dX12_goClone_209 rfl (lv_at hl 1 rfl) ?_
          refine lv_bipush (v := 48) hx hb dX12_goClone_210 (by decide) ?_
          refine lv_iload_n hx hb dX12_goClone_212 rfl (lv_at hl 2 rfl) ?_
          refine lv_iadd hx hb dX12_goClone_213 ?_
          refine lv_topi (fun x_25 ex_25 => ?_)
          try rw [← ex_25] at hv
          have rx_25 : rgI (48) (71) x_25 := by rw [ex_25]; exact rg_w (rg_add rl_48 ry3_182 (by decide) (by decide)) (by decide) (by decide)
          refine hg_iald hx hb hK o_c_23 (rg_in (n := 122) rx_25 (by decide) (by decide)) dX12_goClone_214 ?_
          rw [efl0_182]
          refine lv_topi (fun x_26 ex_26 => ?_)
          try rw [← ex_26] at hv
          refine lv_icmp_ne (tgt := 222) hx hb dX12_goClone_215 (by decide) (fun c_27 => ?_) (fun c_27 => ?_)
          · rw [if_neg c_27] at hv
            refine lv_iconst (v := 0) hx hb dX12_goClone_222 (by decide) ?_
            refine lv_istore (lv' := [(11, .int 0), (0, .ref h0), (1, .ref b0), (3, .int a2), (4, .int a3), (6, .int y6_182), (7, .int y7_182), (8, .int y8_182), (9, .int y9_182), (10, .int y10_182)]) hx hb dX12_goClone_223 hl (by decide) rfl (fun ls hl => ?_)
            refine lv_aload_n hx hb dX12_goClone_225 rfl (lv_at hl 1 rfl) ?_
            refine lv_dup hx hb dX12_goClone_226 rfl ?_
            obtain ⟨_, ⟨rfl, t_29, hk_30⟩, o_c_28⟩ := hH h0 _ k_h0
            refine hg_get hx hb hG igX12 hown hK o_c_28 rfl 28 (by decide) (hG _ mw_1312) rfl dX12_goClone_227 ?_
            refine lv_iconst (v := 1) hx hb dX12_goClone_230 (by decide) ?_
            refine lv_aload_n hx hb dX12_goClone_231 rfl (lv_at hl 2 rfl) ?_
            refine lv_iload hx hb dX12_goClone_232 (lv_at hl 9 rfl) ?_
            refine lv_iload hx hb dX12_goClone_234 (lv_at hl 4 rfl) ?_
            refine lv_iload hx hb dX12_goClone_236 (lv_at hl 0 rfl) ?_
            refine lv_if_eq (tgt := 246) hx hb dX12_goClone_238 (by decide) (fun c_31 => ?_) (fun c_31 => ?_)
            · refine lv_aload_n hx hb dX12_goClone_246 rfl (lv_at hl 1 rfl) ?_
              refine lv_aload_n hx hb dX12_goClone_247 rfl (lv_at hl 2 rfl) ?_
              refine lv_bipush (v := 48) hx hb dX12_goClone_248 (by decide) ?_
              refine lv_iload hx hb dX12_goClone_250 (lv_at hl 9 rfl) ?_
              refine lv_iadd hx hb dX12_goClone_252 ?_
              refine lv_topi (fun x_32 ex_32 => ?_)
              try rw [← ex_32] at hv
              have rx_32 : rgI (48) (71) x_32 := by rw [ex_32]; exact rg_w (rg_add rl_48 r_16 (by decide) (by decide)) (by decide) (by decide)
              have q_33 : x_22 = x_32 := ex_22.trans ex_32.symm
              subst q_33
              refine hg_iald hx hb hK o_c_23 (rg_in (n := 122) rx_32 (by decide) (by decide)) dX12_goClone_253 ?_
              rw [efl0_182]
              refine lv_topi (fun x_34 ex_34 => ?_)
              try rw [← ex_34] at hv
              have q_35 : x_24 = x_34 := ex_24.trans ex_34.symm
              subst q_35
              refine vp_callSi (W.runV (As := [.int x_24]) (rest := [.int a3, .int y10_182, .ref b0, .int 1, .int (G_182.1 128), .ref h0]) ⟨hx, hb, hml, hown, hts⟩ (c_X12_newOf_x l g Ty G_182 h0 x_24 k_h0 (rg_w rg127_182 (by decide) (by decide))) (cwV 1 hts (gwV mw_1595 mw_1597 mw_56 mw_88 mw_1598) rfl rfl rfl hv_X12_newOf ⟨Nat.le_of_ble_eq_true rfl, Nat.le_of_ble_eq_true rfl⟩) ⟨PcH_blind, hg_recv hK o_c_28 rfl, PcH_pre hK hH⟩ rfl rfl hl.1 rfl (lv_room (Nat.le_of_ble_eq_true rfl)) dX12_goClone_254 ⟨Nat.zero_le _, Nat.zero_le _⟩) (fun x_36 hx_36 => ?_)
              try rw [← hx_36.2] at hv
              have ex_37 : x_36 = F_X12_newOf_x fl2_182 fl3_182 (G_182.1 127) x_24 := hx_36.2.trans (by rw [efl2_182, efl3_182])
              try rw [← ex_37] at hv
              refine lv_iload hx hb dX12_goClone_257 (lv_at hl 0 rfl) ?_
              refine lv_if_eq (tgt := 267) hx hb dX12_goClone_259 (by decide) (fun c_38 => ?_) (fun c_38 => ?_)
              · refine lv_aload_n hx hb dX12_goClone_267 rfl (lv_at hl 1 rfl) ?_
                refine lv_aload_n hx hb dX12_goClone_268 rfl (lv_at hl 2 rfl) ?_
                refine lv_bipush (v := 72) hx hb dX12_goClone_269 (by decide) ?_
                refine lv_iload hx hb dX12_goClone_271 (lv_at hl 9 rfl) ?_
                refine lv_iadd hx hb dX12_goClone_273 ?_
                refine lv_topi (fun x_39 ex_39 => ?_)
                try rw [← ex_39] at hv
                have rx_39 : rgI (72) (95) x_39 := by rw [ex_39]; exact rg_w (rg_add rl_72 r_16 (by decide) (by decide)) (by decide) (by decide)
                refine hg_iald hx hb hK o_c_23 (rg_in (n := 122) rx_39 (by decide) (by decide)) dX12_goClone_274 ?_
                rw [efl0_182]
                refine lv_topi (fun x_40 ex_40 => ?_)
                try rw [← ex_40] at hv
                refine vp_callSi (W.runV (As := [.int x_40]) (rest := [.int x_36, .int a3, .int y10_182, .ref b0, .int 1, .int (G_182.1 128), .ref h0]) ⟨hx, hb, hml, hown, hts⟩ (c_X12_newOf_x l g Ty G_182 h0 x_40 k_h0 (rg_w rg127_182 (by decide) (by decide))) (cwV 1 hts (gwV mw_1595 mw_1597 mw_56 mw_88 mw_1598) rfl rfl rfl hv_X12_newOf ⟨Nat.le_of_ble_eq_true rfl, Nat.le_of_ble_eq_true rfl⟩) ⟨PcH_blind, hg_recv hK o_c_28 rfl, PcH_pre hK hH⟩ rfl rfl hl.1 rfl (lv_room (Nat.le_of_ble_eq_true rfl)) dX12_goClone_275 ⟨Nat.zero_le _, Nat.zero_le _⟩) (fun x_41 hx_41 => ?_)
                try rw [← hx_41.2] at hv
                have ex_42 : x_41 = F_X12_newOf_x fl2_182 fl3_182 (G_182.1 127) x_40 := hx_41.2.trans (by rw [efl2_182, efl3_182])
                try rw [← ex_42] at hv
                refine va_calli (va_runS (As := [.ref b0, .int y10_182, .int a3, .int x_36, .int x_41]) (rest := [.int 1, .int (G_182.1 128), .ref h0]) ⟨hx, hb, hml, hown, hts⟩ (c_X12_comes l g Ty G_182 H.size b0 y10_182 a3 x_36 x_41 k_b0) (cwSx 5 hts hG (gwC mw_1601) mw_88 mw_1599 mw_1600 rfl rfl rfl hd_X12_comes ⟨Nat.le_of_ble_eq_true rfl, Nat.le_of_ble_eq_true rfl⟩) ⟨PcT_blind, PcT_pre hK hH⟩ rfl rfl hl.1 rfl (lv_room (Nat.le_of_ble_eq_true rfl)) dX12_goClone_278 ⟨Nat.zero_le _, Nat.zero_le _⟩) hS (fun q _ h => AF.mono hS.1 h) (fun q h => AF.mono hS.1 h) (fun x_43 ux_43 t H locs ht hvm hx_43 hB hz hk hS => ?_)
                obtain ⟨eTx_43, eGx_43⟩ := hx_43
                obtain ⟨G_44, eG_44⟩ : ∃ z, z = ux_43.2 := ⟨_, rfl⟩
                rw [← eG_44] at eGx_43
                obtain ⟨hr_46, hg_47⟩ := eGx_43
                rw [efl0_182] at hr_46 hg_47
                obtain ⟨f_45, ef_45⟩ : ∃ z : Nat → Int32, z = (F_X12_comes fl0_182 y10_182 a3 x_36 x_41).2 := ⟨_, rfl⟩
                rw [← ef_45] at hg_47
                have fr_48 : FR [107, 108, 109, 110, 114, 127, 128] [b0, (g.2.2 115), (g.2.2 125), (g.2.2 126)] [106] G G_44 := FR.a frL_182 hg_47 (fun b h => h.1)
                have u_49 : G_44.1 127 = (G_182.1 127) := by rw [hg_47]; exact rfl
                have u_50 : G_44.1 113 = (G.1 113) := by rw [hg_47]; exact (frL_182.1 113 (by decide))
                have w_51 : G_44.2.1 b0 = f_45 := by rw [hg_47]; exact aset_eq
                have w_52 : G_44.2.1 rl = (G.2.1 rl) := by rw [hg_47]; exact (aset_ne (ne_kd krl k_b0 (by decide))).trans (frL_182.2.1 rl ⟨(ne_kd krl k_b0 (by decide)), (ne_kd krl hmk.2.2.2.1 (by decide)), (ne_kd krl hmk.2.2.2.2.2.2.2.2.1 (by decide)), (ne_kd krl hmk.2.2.2.2.2.2.2.2.2.1 (by decide)), trivial⟩)
                have w_53 : G_44.2.1 (g.2.2 125) = fl2_182 := by rw [hg_47]; exact (aset_ne (ne_kd hmk.2.2.2.2.2.2.2.2.1 k_b0 (by decide))).trans efl2_182
                have w_54 : G_44.2.1 (g.2.2 126) = fl3_182 := by rw [hg_47]; exact (aset_ne (ne_kd hmk.2.2.2.2.2.2.2.2.2.1 k_b0 (by decide))).trans efl3_182
                have u_55 : G_44.2.2 111 = some rl := by rw [hg_47]; exact ((frL_182.2.2 111 (by decide)).trans hr1)
                have hq_56 : F_X12_comes fl0_182 y10_182 a3 x_36 x_41 = (x_43, f_45) := Prod.ext hr_46.symm ef_45.symm
                rw [hq_56, tu2_eq] at hv
                have hH : HT g Ty G_44 H := by rw [← ht, ← eTx_43, eG_44]; exact hB
                refine lv_ishl hx hb dX12_goClone_281 ?_
                refine lv_topi (fun x_57 ex_57 => ?_)
                try rw [← ex_57] at hv
                refine lv_ior hx hb dX12_goClone_282 ?_
                refine lv_topi (fun x_58 ex_58 => ?_)
                try rw [← ex_58] at hv
                obtain ⟨_, ⟨rfl, t_60, hk_61⟩, o_c_59⟩ := hH h0 _ k_h0
                refine hg_put (ty := .int) hx hb hG igX12 tyX12 tyX12_ok nmX12 hown hK hS o_c_59 (AF.of k_h0) rfl 28 (by decide) (hG _ mw_1312) rfl (by decide +kernel) rfl rfl (Nat.le_of_ble_eq_true rfl) dX12_goClone_283 (fun H locs o_c_59 hz oq hS => ?_)
                obtain ⟨G_62, eG_62⟩ : ∃ z : Gh, z = gset G_44 128 x_58 := ⟨_, rfl⟩
                have hH : HT g Ty G_62 H := by rw [eG_62]; exact HT.putN 128 x_58 hH k_h0 ⟨rfl, t_60, hk_61⟩ o_c_59 oq (Or.inr (Or.inr (Or.inr (Or.inr (Or.inr ⟨by decide, t_60⟩)))))
                have fr_63 : FR [107, 108, 109, 110, 114, 127, 128] [b0, (g.2.2 115), (g.2.2 125), (g.2.2 126)] [106] G G_62 := FR.n fr_48 eG_62 (by decide)
                have u_64 : G_62.1 127 = (G_182.1 127) := by rw [eG_62]; exact (gs_ne (by decide)).trans u_49
                have u_65 : G_62.1 113 = (G.1 113) := by rw [eG_62]; exact (gs_ne (by decide)).trans u_50
                have u_66 : G_62.1 128 = x_58 := by rw [eG_62]; exact gs_eq
                have w_67 : G_62.2.1 b0 = f_45 := by rw [eG_62]; exact w_51
                have w_68 : G_62.2.1 rl = (G.2.1 rl) := by rw [eG_62]; exact w_52
                have w_69 : G_62.2.1 (g.2.2 125) = fl2_182 := by rw [eG_62]; exact w_53
                have w_70 : G_62.2.1 (g.2.2 126) = fl3_182 := by rw [eG_62]; exact w_54
                have u_71 : G_62.2.2 111 = some rl := by rw [eG_62]; exact u_55
                clear oq hz
                obtain ⟨x_72, ex_72⟩ : ∃ y : Int32, y = y10_182 + 1 := ⟨_, rfl⟩
                try rw [← ex_72] at hv
                have rx_72 : rgI (1) (24) x_72 := by rw [ex_72]; exact rg_w (rg_add r_16 rl_1 (by decide) (by decide)) (by decide) (by decide)
                have qx_72 : x_72.toInt = (y10_182 : Int32).toInt + 1 := by rw [ex_72]; exact rg_addE r_16 rl_1 (by decide) (by decide)
                refine lv_iinc (v := x_72) (lv' := [(10, .int x_72), (11, .int 0), (0, .ref h0), (1, .ref b0), (3, .int a2), (4, .int a3), (6, .int y6_182), (7, .int y7_182), (8, .int y8_182), (9, .int y9_182)]) hx hb dX12_goClone_286 hl (k := 9) rfl (by rw [ex_72]; rfl) (by decide) rfl (fun ls hl => ?_)
                refine lv_goto (tgt := 182) hx hb dX12_goClone_289 (by decide) ?_
                exact ih_182 H locs G_62 f_45 fl2_182 fl3_182 y6_182 y7_182 y8_182 y9_182 x_72 ls (by rw [u_64]; exact rg_w rg127_182 (by decide) (by decide)) fr_63 w_67 w_69 w_70 ry3_182 ry4_182 (rg_w rx_72 (by decide) (by decide)) hi0_182 (by rw [u_64]; exact (L2_hit hi1_182 hTS h1 r_16 qx_72 (hi0_182.at_ r_16 hb_20) hCOM.2.2.2 th_21 hm0 (Or.inr ⟨by rw [← ex_22, ← ex_25, ← ex_24, ← ex_26]; exact c_27, by rw [← ex_22, ← ex_24]; exact (by rw [← efl2_182, ← efl3_182]; exact hx_36.1), by rw [← ex_39, ← ex_40]; exact (by rw [← efl2_182, ← efl3_182]; exact hx_41.1)⟩) ef_45)) hi2_182 (by have h1 := qx_72; have h2 := r_16.1; have h3 := r_16.2; have h4 := hm_182; omega) (lv_sub hl [2, 3, 4, 5, 6, 7, 8, 9, 0] rfl) (by rw [u_64]; exact hv) hH hS
              · exact absurd rfl c_38
            · exact absurd rfl c_31
          · rw [if_pos c_27] at hv
            refine lv_iconst (v := 1) hx hb dX12_goClone_218 (by decide) ?_
            refine lv_goto (tgt := 223) hx hb dX12_goClone_219 (by decide) ?_
            refine lv_istore (lv' := [(11, .int 1), (0, .ref h0), (1, .ref b0), (3, .int a2), (4, .int a3), (6, .int y6_182), (7, .int y7_182), (8, .int y8_182), (9, .int y9_182), (10, .int y10_182)]) hx hb dX12_goClone_223 hl (by decide) rfl (fun ls hl => ?_)
            refine lv_aload_n hx hb dX12_goClone_225 rfl (lv_at hl 1 rfl) ?_
            refine lv_dup hx hb dX12_goClone_226 rfl ?_
            obtain ⟨_, ⟨rfl, t_74, hk_75⟩, o_c_73⟩ := hH h0 _ k_h0
            refine hg_get hx hb hG igX12 hown hK o_c_73 rfl 28 (by decide) (hG _ mw_1312) rfl dX12_goClone_227 ?_
            refine lv_iconst (v := 1) hx hb dX12_goClone_230 (by decide) ?_
            refine lv_aload_n hx hb dX12_goClone_231 rfl (lv_at hl 2 rfl) ?_
            refine lv_iload hx hb dX12_goClone_232 (lv_at hl 9 rfl) ?_
            refine lv_iload hx hb dX12_goClone_234 (lv_at hl 4 rfl) ?_
            refine lv_iload hx hb dX12_goClone_236 (lv_at hl 0 rfl) ?_
            refine lv_if_eq (tgt := 246) hx hb dX12_goClone_238 (by decide) (fun c_76 => ?_) (fun c_76 => ?_)
            · exact rg_noE rl_1 rl_0 c_76 (by decide)
            · refine lv_iload hx hb dX12_goClone_241 (lv_at hl 6 rfl) ?_
              refine lv_goto (tgt := 257) hx hb dX12_goClone_243 (by decide) ?_
              refine lv_iload hx hb dX12_goClone_257 (lv_at hl 0 rfl) ?_
              refine lv_if_eq (tgt := 267) hx hb dX12_goClone_259 (by decide) (fun c_77 => ?_) (fun c_77 => ?_)
              · exact rg_noE rl_1 rl_0 c_77 (by decide)
              · refine lv_iload hx hb dX12_goClone_262 (lv_at hl 7 rfl) ?_
                refine lv_goto (tgt := 278) hx hb dX12_goClone_264 (by decide) ?_
                refine va_calli (va_runS (As := [.ref b0, .int y10_182, .int a3, .int y7_182, .int y8_182]) (rest := [.int 1, .int (G_182.1 128), .ref h0]) ⟨hx, hb, hml, hown, hts⟩ (c_X12_comes l g Ty G_182 H.size b0 y10_182 a3 y7_182 y8_182 k_b0) (cwSx 5 hts hG (gwC mw_1601) mw_88 mw_1599 mw_1600 rfl rfl rfl hd_X12_comes ⟨Nat.le_of_ble_eq_true rfl, Nat.le_of_ble_eq_true rfl⟩) ⟨PcT_blind, PcT_pre hK hH⟩ rfl rfl hl.1 rfl (lv_room (Nat.le_of_ble_eq_true rfl)) dX12_goClone_278 ⟨Nat.zero_le _, Nat.zero_le _⟩) hS (fun q _ h => AF.mono hS.1 h) (fun q h => AF.mono hS.1 h) (fun x_78 ux_78 t H locs ht hvm hx_78 hB hz hk hS => ?_)
                obtain ⟨eTx_78, eGx_78⟩ := hx_78
                obtain ⟨G_79, eG_79⟩ : ∃ z, z = ux_78.2 := ⟨_, rfl⟩
                rw [← eG_79] at eGx_78
                obtain ⟨hr_81, hg_82⟩ := eGx_78
                rw [efl0_182] at hr_81 hg_82
                obtain ⟨f_80, ef_80⟩ : ∃ z : Nat → Int32, z = (F_X12_comes fl0_182 y10_182 a3 y7_182 y8_182).2 := ⟨_, rfl⟩
                rw [← ef_80] at hg_82
                have fr_83 : FR [107, 108, 109, 110, 114, 127, 128] [b0, (g.2.2 115), (g.2.2 125), (g.2.2 126)] [106] G G_79 := FR.a frL_182 hg_82 (fun b h => h.1)
                have u_84 : G_79.1 127 = (G_182.1 127) := by rw [hg_82]; exact rfl
                have u_85 : G_79.1 113 = (G.1 113) := by rw [hg_82]; exact (frL_182.1 113 (by decide))
                have w_86 : G_79.2.1 b0 = f_80 := by rw [hg_82]; exact aset_eq
                have w_87 : G_79.2.1 rl = (G.2.1 rl) := by rw [hg_82]; exact (aset_ne (ne_kd krl k_b0 (by decide))).trans (frL_182.2.1 rl ⟨(ne_kd krl k_b0 (by decide)), (ne_kd krl hmk.2.2.2.1 (by decide)), (ne_kd krl hmk.2.2.2.2.2.2.2.2.1 (by decide)), (ne_kd krl hmk.2.2.2.2.2.2.2.2.2.1 (by decide)), trivial⟩)
                have w_88 : G_79.2.1 (g.2.2 125) = fl2_182 := by rw [hg_82]; exact (aset_ne (ne_kd hmk.2.2.2.2.2.2.2.2.1 k_b0 (by decide))).trans efl2_182
                have w_89 : G_79.2.1 (g.2.2 126) = fl3_182 := by rw [hg_82]; exact (aset_ne (ne_kd hmk.2.2.2.2.2.2.2.2.2.1 k_b0 (by decide))).trans efl3_182
                have u_90 : G_79.2.2 111 = some rl := by rw [hg_82]; exact ((frL_182.2.2 111 (by decide)).trans hr1)
                have hq_91 : F_X12_comes fl0_182 y10_182 a3 y7_182 y8_182 = (x_78, f_80) := Prod.ext hr_81.symm ef_80.symm
                rw [hq_91, tu2_eq] at hv
                have hH : HT g Ty G_79 H := by rw [← ht, ← eTx_78, eG_79]; exact hB
                refine lv_ishl hx hb dX12_goClone_281 ?_
                refine lv_topi (fun x_92 ex_92 => ?_)
                try rw [← ex_92] at hv
                refine lv_ior hx hb dX12_goClone_282 ?_
                refine lv_topi (fun x_93 ex_93 => ?_)
                try rw [← ex_93] at hv
                obtain ⟨_, ⟨rfl, t_95, hk_96⟩, o_c_94⟩ := hH h0 _ k_h0
                refine hg_put (ty := .int) hx hb hG igX12 tyX12 tyX12_ok nmX12 hown hK hS o_c_94 (AF.of k_h0) rfl 28 (by decide) (hG _ mw_1312) rfl (by decide +kernel) rfl rfl (Nat.le_of_ble_eq_true rfl) dX12_goClone_283 (fun H locs o_c_94 hz oq hS => ?_)
                obtain ⟨G_97, eG_97⟩ : ∃ z : Gh, z = gset G_79 128 x_93 := ⟨_, rfl⟩
                have hH : HT g Ty G_97 H := by rw [eG_97]; exact HT.putN 128 x_93 hH k_h0 ⟨rfl, t_95, hk_96⟩ o_c_94 oq (Or.inr (Or.inr (Or.inr (Or.inr (Or.inr ⟨by decide, t_95⟩)))))
                have fr_98 : FR [107, 108, 109, 110, 114, 127, 128] [b0, (g.2.2 115), (g.2.2 125), (g.2.2 126)] [106] G G_97 := FR.n fr_83 eG_97 (by decide)
                have u_99 : G_97.1 127 = (G_182.1 127) := by rw [eG_97]; exact (gs_ne (by decide)).trans u_84
                have u_100 : G_97.1 113 = (G.1 113) := by rw [eG_97]; exact (gs_ne (by decide)).trans u_85
                have u_101 : G_97.1 128 = x_93 := by rw [eG_97]; exact gs_eq
                have w_102 : G_97.2.1 b0 = f_80 := by rw [eG_97]; exact w_86
                have w_103 : G_97.2.1 rl = (G.2.1 rl) := by rw [eG_97]; exact w_87
                have w_104 : G_97.2.1 (g.2.2 125) = fl2_182 := by rw [eG_97]; exact w_88
                have w_105 : G_97.2.1 (g.2.2 126) = fl3_182 := by rw [eG_97]; exact w_89
                have u_106 : G_97.2.2 111 = some rl := by rw [eG_97]; exact u_90
                clear oq hz
                obtain ⟨x_107, ex_107⟩ : ∃ y : Int32, y = y10_182 + 1 := ⟨_, rfl⟩
                try rw [← ex_107] at hv
                have rx_107 : rgI (1) (24) x_107 := by rw [ex_107]; exact rg_w (rg_add r_16 rl_1 (by decide) (by decide)) (by decide) (by decide)
                have qx_107 : x_107.toInt = (y10_182 : Int32).toInt + 1 := by rw [ex_107]; exact rg_addE r_16 rl_1 (by decide) (by decide)
                refine lv_iinc (v := x_107) (lv' := [(10, .int x_107), (11, .int 1), (0, .ref h0), (1, .ref b0), (3, .int a2), (4, .int a3), (6, .int y6_182), (7, .int y7_182), (8, .int y8_182), (9, .int y9_182)]) hx hb dX12_goClone_286 hl (k := 9) rfl (by rw [ex_107]; rfl) (by decide) rfl (fun ls hl => ?_)
                refine lv_goto (tgt := 182) hx hb dX12_goClone_289 (by decide) ?_
                exact ih_182 H locs G_97 f_80 fl2_182 fl3_182 y6_182 y7_182 y8_182 y9_182 x_107 ls (by rw [u_99]; exact rg_w rg127_182 (by decide) (by decide)) fr_98 w_102 w_104 w_105 ry3_182 ry4_182 (rg_w rx_107 (by decide) (by decide)) hi0_182 (by rw [u_99]; exact (L2_hit hi1_182 hTS h1 r_16 qx_107 (hi0_182.at_ r_16 hb_20) hCOM.2.2.2 th_21 hm0 (Or.inl ⟨rfl, rfl⟩) ef_80)) hi2_182 (by have h1 := qx_107; have h2 := r_16.1; have h3 := r_16.2; have h4 := hm_182; omega) (lv_sub hl [2, 3, 4, 5, 6, 7, 8, 9, 0] rfl) (by rw [u_99]; exact hv) hH hS
        · rw [if_pos c_18] at hv
          have r_108 : rgI (0) (0) x_17 := rg_w (rg_eq rl_0 c_18) (by decide) (by decide)
          have hb_109 : bt y6_182 (y10_182 : Int32).toNatClampNeg = false := has_0 (rg_w r_16 (by decide) (by decide)) (by rw [← hx_17.2]; exact c_18)
          refine lv_goto (tgt := 286) hx hb dX12_goClone_199 (by decide) ?_
          obtain ⟨x_110, ex_110⟩ : ∃ y : Int32, y = y10_182 + 1 := ⟨_, rfl⟩
          try rw [← ex_110] at hv
          have rx_110 : rgI (1) (24) x_110 := by rw [ex_110]; exact rg_w (rg_add r_16 rl_1 (by decide) (by decide)) (by decide) (by decide)
          have qx_110 : x_110.toInt = (y10_182 : Int32).toInt + 1 := by rw [ex_110]; exact rg_addE r_16 rl_1 (by decide) (by decide)
          refine lv_iinc (v := x_110) (lv' := [(10, .int x_110), (0, .ref h0), (1, .ref b0), (3, .int a2), (4, .int a3), (6, .int y6_182), (7, .int y7_182), (8, .int y8_182), (9, .int y9_182)]) hx hb dX12_goClone_286 hl (k := 8) rfl (by rw [ex_110]; rfl) (by decide) rfl (fun ls hl => ?_)
          refine lv_goto (tgt := 182) hx hb dX12_goClone_289 (by decide) ?_
          exact ih_182 H locs G_182 fl0_182 fl2_182 fl3_182 y6_182 y7_182 y8_182 y9_182 x_110 ls (rg_w rg127_182 (by decide) (by decide)) frL_182 efl0_182 efl2_182 efl3_182 ry3_182 ry4_182 (rg_w rx_110 (by decide) (by decide)) hi0_182 (L2_skip hi1_182 r_16 qx_110 (hi0_182.at_ r_16 hb_109)) hi2_182 (by have h1 := qx_110; have h2 := r_16.1; have h3 := r_16.2; have h4 := hm_182; omega) (lv_sub hl [1, 2, 3, 4, 5, 6, 7, 8, 0] rfl) hv hH hS
  have L_102 : ∀ (n_102 : Nat) (H : Heap) (locs : List Loc) (G_102 : Gh) (fl0_102 : Nat → Int32) (fl2_102 : Nat → Int32) (fl3_102 : Nat → Int32) (y5_102 : Int32) (y6_102 : Int32) (y7_102 : Int32) (y8_102 : Int32) (y9_102 : Int32) (ls : Array Slot), rgI (0) (24) (G_102.1 127) → FR [107, 108, 109, 110, 114, 127, 128] [b0, (g.2.2 115), (g.2.2 125), (g.2.2 126)] [106] G G_102 → G_102.2.1 b0 = fl0_102 → G_102.2.1 (g.2.2 125) = fl2_102 → G_102.2.1 (g.2.2 126) = fl3_102 → rgI (0) (23) a2 → rgI (0) (3) a3 → rgI (0) (24) y9_102 → HB (G.2.1 b0) (G.2.1 rl) (G.1 113) a2 a3 y6_102 → LN (G.2.1 b0) fl0_102 fl2_102 fl3_102 (G_102.1 127) (y9_102 : Int32).toNatClampNeg a2.toNatClampNeg y7_102 y8_102 S σ → SB (G.2.1 b0) (F_X12_spreadOf (G.2.1 b0) a2) → (24 - (y9_102).toInt).toNat < n_102 → lv_has ls 12 [(0, .ref h0), (1, .ref b0), (3, .int a2), (4, .int a3), (5, .int y5_102), (6, .int y6_102), (7, .int y7_102), (8, .int y8_102), (9, .int y9_102)] → (tu4 (F_X12_goClone_x_102 n_102 a2 a3 y5_102 y6_102 y7_102 y8_102 y9_102 fl0_102 (G.2.1 rl) fl2_102 fl3_102 (G.1 113) (G_102.1 127)) (fun z5 z6 z7 z8 => (tu2 (F_X12_comes z5 a2 a3 y7_102 y8_102) (fun z9 z10 => (tu4 (F_X12_goClone_x_182 26 a2 a3 y6_102 y7_102 y8_102 z9 (0 : Int32) z10 (G.2.1 rl) z6 z7 (G.1 113) z8) (fun z11 z12 z13 z14 => (z9, (upd z11 (Int32.toNatClampNeg (120 : Int32)) ((z11 (Int32.toNatClampNeg (120 : Int32))) + (1 : Int32))), z12, z13, z14))))))) = F_X12_goClone_x (G.2.1 b0) (G.2.1 rl) (G.2.1 (g.2.2 125)) (G.2.1 (g.2.2 126)) (G.1 113) (G.1 127) a1 a2 a3 → HT g Ty G_102 H → va_S (AF Ty s.heap.size) s.heap H locs → Wm p l e (wsG yX12_goClone cX12_goClone 12 (some .int)) ({ frames := 340, cells := 0, slots := 0, locals := 7970 }) s m [.ref h0, .ref b0, .int a1, .int a2, .int a3] below meth c H locs (0) (0) (QwI g Ty s.heap.size (fun r u => u.1 = Ty ∧ FR [107, 108, 109, 110, 114, 127, 128] [b0, (g.2.2 115), (g.2.2 125), (g.2.2 126)] [106] G u.2 ∧ (GC Bd (G.2.1 b0) (u.2.2.1 b0) (hitb (G.2.1 b0) (G.2.1 rl) (G.1 113) a2 a3) r) ∧ F_X12_goClone_x (G.2.1 b0) (G.2.1 rl) (G.2.1 (g.2.2 125)) (G.2.1 (g.2.2 126)) (G.1 113) (G.1 127) a1 a2 a3 = (r, (u.2.2.1 b0), (u.2.2.1 (g.2.2 125)), (u.2.2.1 (g.2.2 126)), (u.2.1 127)))) 0 0 (AF Ty s.heap.size) (F0 m 102 ls []) := by
    intro n_102
    induction n_102 with
    | zero => intro H locs G_102 fl0_102 fl2_102 fl3_102 y5_102 y6_102 y7_102 y8_102 y9_102 ls rg127_102 frL_102 efl0_102 efl2_102 efl3_102 ry3_102 ry4_102 ry9_102 hi0_102 hi1_102 hi2_102 hm; exact absurd hm (Nat.not_lt_zero _)
    | succ n_102 ih_102 =>
      intro H locs G_102 fl0_102 fl2_102 fl3_102 y5_102 y6_102 y7_102 y8_102 y9_102 ls rg127_102 frL_102 efl0_102 efl2_102 efl3_102 ry3_102 ry4_102 ry9_102 hi0_102 hi1_102 hi2_102 hm_102 hl hv hH hS
      rw [F_X12_goClone_x_102] at hv
      refine lv_iload hx hb dX12_goClone_102 (lv_at hl 8 rfl) ?_
      refine lv_bipush (v := 24) hx hb dX12_goClone_104 (by decide) ?_
      refine lv_icmp_ge (tgt := 158) hx hb dX12_goClone_106 (by decide) (fun c_111 => ?_) (fun c_111 => ?_)
      · rw [if_pos c_111] at hv
        have r_112 : rgI (24) (24) y9_102 := rg_w (rg_leR rl_24 ry9_102 c_111) (by decide) (by decide)
        rw [tu4_eq] at hv
        refine lv_aload_n hx hb dX12_goClone_158 rfl (lv_at hl 1 rfl) ?_
        refine lv_iload_n hx hb dX12_goClone_159 rfl (lv_at hl 2 rfl) ?_
        refine lv_iload hx hb dX12_goClone_160 (lv_at hl 3 rfl) ?_
        refine lv_iload hx hb dX12_goClone_162 (lv_at hl 6 rfl) ?_
        refine lv_iload hx hb dX12_goClone_164 (lv_at hl 7 rfl) ?_
        refine va_calli (va_runS (As := [.ref b0, .int a2, .int a3, .int y7_102, .int y8_102]) (rest := []) ⟨hx, hb, hml, hown, hts⟩ (c_X12_comes l g Ty G_102 H.size b0 a2 a3 y7_102 y8_102 k_b0) (cwSx 5 hts hG (gwC mw_1601) mw_88 mw_1599 mw_1600 rfl rfl rfl hd_X12_comes ⟨Nat.le_of_ble_eq_true rfl, Nat.le_of_ble_eq_true rfl⟩) ⟨PcT_blind, PcT_pre hK hH⟩ rfl rfl hl.1 rfl (lv_room (Nat.le_of_ble_eq_true rfl)) dX12_goClone_166 ⟨Nat.zero_le _, Nat.zero_le _⟩) hS (fun q _ h => AF.mono hS.1 h) (fun q h => AF.mono hS.1 h) (fun x_113 ux_113 t H locs ht hvm hx_113 hB hz hk hS => ?_)
        obtain ⟨eTx_113, eGx_113⟩ := hx_113
        obtain ⟨G_114, eG_114⟩ : ∃ z, z = ux_113.2 := ⟨_, rfl⟩
        rw [← eG_114] at eGx_113
        obtain ⟨hr_116, hg_117⟩ := eGx_113
        rw [efl0_102] at hr_116 hg_117
        obtain ⟨f_115, ef_115⟩ : ∃ z : Nat → Int32, z = (F_X12_comes fl0_102 a2 a3 y7_102 y8_102).2 := ⟨_, rfl⟩
        rw [← ef_115] at hg_117
        have fr_118 : FR [107, 108, 109, 110, 114, 127, 128] [b0, (g.2.2 115), (g.2.2 125), (g.2.2 126)] [106] G G_114 := FR.a frL_102 hg_117 (fun b h => h.1)
        have u_119 : G_114.1 127 = (G_102.1 127) := by rw [hg_117]; exact rfl
        have u_120 : G_114.1 113 = (G.1 113) := by rw [hg_117]; exact (frL_102.1 113 (by decide))
        have w_121 : G_114.2.1 b0 = f_115 := by rw [hg_117]; exact aset_eq
        have w_122 : G_114.2.1 rl = (G.2.1 rl) := by rw [hg_117]; exact (aset_ne (ne_kd krl k_b0 (by decide))).trans (frL_102.2.1 rl ⟨(ne_kd krl k_b0 (by decide)), (ne_kd krl hmk.2.2.2.1 (by decide)), (ne_kd krl hmk.2.2.2.2.2.2.2.2.1 (by decide)), (ne_kd krl hmk.2.2.2.2.2.2.2.2.2.1 (by decide)), trivial⟩)
        have w_123 : G_114.2.1 (g.2.2 125) = fl2_102 := by rw [hg_117]; exact (aset_ne (ne_kd hmk.2.2.2.2.2.2.2.2.1 k_b0 (by decide))).trans efl2_102
        have w_124 : G_114.2.1 (g.2.2 126) = fl3_102 := by rw [hg_117]; exact (aset_ne (ne_kd hmk.2.2.2.2.2.2.2.2.2.1 k_b0 (by decide))).trans efl3_102
        have u_125 : G_114.2.2 111 = some rl := by rw [hg_117]; exact ((frL_102.2.2 111 (by decide)).trans hr1)
        have hq_126 : F_X12_comes fl0_102 a2 a3 y7_102 y8_102 = (x_113, f_115) := Prod.ext hr_116.symm ef_115.symm
        rw [hq_126, tu2_eq] at hv
        have hH : HT g Ty G_114 H := by rw [← ht, ← eTx_113, eG_114]; exact hB
        refine lv_istore (lv' := [(9, .int x_113), (0, .ref h0), (1, .ref b0), (3, .int a2), (4, .int a3), (5, .int y5_102), (6, .int y6_102), (7, .int y7_102), (8, .int y8_102)]) hx hb dX12_goClone_169 hl (by decide) rfl (fun ls hl => ?_)
        refine lv_aload_n hx hb dX12_goClone_171 rfl (lv_at hl 1 rfl) ?_
        refine lv_iconst (v := 1) hx hb dX12_goClone_172 (by decide) ?_
        refine lv_iload hx hb dX12_goClone_173 (lv_at hl 0 rfl) ?_
        refine lv_ishl hx hb dX12_goClone_175 ?_
        refine lv_topi (fun x_127 ex_127 => ?_)
        try rw [← ex_127] at hv
        obtain ⟨_, ⟨rfl, t_129, hk_130⟩, o_c_128⟩ := hH h0 _ k_h0
        refine hg_put (ty := .int) hx hb hG igX12 tyX12 tyX12_ok nmX12 hown hK hS o_c_128 (AF.of k_h0) rfl 28 (by decide) (hG _ mw_1312) rfl (by decide +kernel) rfl rfl (Nat.le_of_ble_eq_true rfl) dX12_goClone_176 (fun H locs o_c_128 hz oq hS => ?_)
        obtain ⟨G_131, eG_131⟩ : ∃ z : Gh, z = gset G_114 128 x_127 := ⟨_, rfl⟩
        have hH : HT g Ty G_131 H := by rw [eG_131]; exact HT.putN 128 x_127 hH k_h0 ⟨rfl, t_129, hk_130⟩ o_c_128 oq (Or.inr (Or.inr (Or.inr (Or.inr (Or.inr ⟨by decide, t_129⟩)))))
        have fr_132 : FR [107, 108, 109, 110, 114, 127, 128] [b0, (g.2.2 115), (g.2.2 125), (g.2.2 126)] [106] G G_131 := FR.n fr_118 eG_131 (by decide)
        have u_133 : G_131.1 127 = (G_102.1 127) := by rw [eG_131]; exact (gs_ne (by decide)).trans u_119
        have u_134 : G_131.1 113 = (G.1 113) := by rw [eG_131]; exact (gs_ne (by decide)).trans u_120
        have u_135 : G_131.1 128 = x_127 := by rw [eG_131]; exact gs_eq
        have w_136 : G_131.2.1 b0 = f_115 := by rw [eG_131]; exact w_121
        have w_137 : G_131.2.1 rl = (G.2.1 rl) := by rw [eG_131]; exact w_122
        have w_138 : G_131.2.1 (g.2.2 125) = fl2_102 := by rw [eG_131]; exact w_123
        have w_139 : G_131.2.1 (g.2.2 126) = fl3_102 := by rw [eG_131]; exact w_124
        have u_140 : G_131.2.2 111 = some rl := by rw [eG_131]; exact u_125
        clear oq hz
        refine lv_iconst (v := 0) hx hb dX12_goClone_179 (by decide) ?_
        refine lv_istore (lv' := [(10, .int 0), (9, .int x_113), (0, .ref h0), (1, .ref b0), (3, .int a2), (4, .int a3), (5, .int y5_102), (6, .int y6_102), (7, .int y7_102), (8, .int y8_102)]) hx hb dX12_goClone_180 hl (by decide) rfl (fun ls hl => ?_)
        exact L_182 26 H locs G_131 f_115 fl2_102 fl3_102 y6_102 y7_102 y8_102 x_113 0 ls (by rw [u_133]; exact rg_w rg127_102 (by decide) (by decide)) fr_132 w_136 w_138 w_139 ry3_102 ry4_102 (rg_w rl_0 (by decide) (by decide)) hi0_102 (by rw [u_133]; exact (L2_init hi1_102 r_112 hTS hm0 hCOM.2.2.2 ef_115 hr_116)) hi2_102 (by decide) (lv_sub hl [2, 3, 4, 5, 7, 8, 9, 1, 0] rfl) (by rw [u_133]; exact hv) hH hS
      · rw [if_neg c_111] at hv
        have r_141 : rgI (0) (23) y9_102 := rg_w (rg_ltL ry9_102 rl_24 (nle_lt c_111)) (by decide) (by decide)
        refine lv_aload_n hx hb dX12_goClone_109 rfl (lv_at hl 1 rfl) ?_
        refine lv_bipush (v := 48) hx hb dX12_goClone_110 (by decide) ?_
        refine lv_iload hx hb dX12_goClone_112 (lv_at hl 8 rfl) ?_
        refine lv_iadd hx hb dX12_goClone_114 ?_
        refine lv_topi (fun x_142 ex_142 => ?_)
        try rw [← ex_142] at hv
        have rx_142 : rgI (48) (71) x_142 := by rw [ex_142]; exact rg_w (rg_add rl_48 r_141 (by decide) (by decide)) (by decide) (by decide)
        obtain ⟨_, rfl, o_c_143⟩ := hH b0 _ k_b0
        have o_c_143 : va_at g.1 vwCl (b0, .inl (g.2.1 1, 122, .inl (G_102.2.1 b0))) H := o_c_143
        refine hg_iald hx hb hK o_c_143 (rg_in (n := 122) rx_142 (by decide) (by decide)) dX12_goClone_115 ?_
        rw [efl0_102]
        refine lv_topi (fun x_144 ex_144 => ?_)
        try rw [← ex_144] at hv
        refine lv_istore (lv' := [(10, .int x_144), (0, .ref h0), (1, .ref b0), (3, .int a2), (4, .int a3), (5, .int y5_102), (6, .int y6_102), (7, .int y7_102), (8, .int y8_102), (9, .int y9_102)]) hx hb dX12_goClone_116 hl (by decide) rfl (fun ls hl => ?_)
        refine lv_iload hx hb dX12_goClone_118 (lv_at hl 5 rfl) ?_
        refine lv_iload hx hb dX12_goClone_120 (lv_at hl 9 rfl) ?_
        refine vp_callSi (W.runS (As := [.int y5_102, .int y9_102]) (rest := []) ⟨hx, hb, hml, hown, hts⟩ (c_X12_has l g Ty G_102 y5_102 y9_102 ) (cwSx 2 hts hG (gwC mw_1563) mw_88 mw_1561 mw_1562 rfl rfl rfl hd_X12_has ⟨Nat.le_of_ble_eq_true rfl, Nat.le_of_ble_eq_true rfl⟩) ⟨PcH_blind, PcH_pre hK hH⟩ rfl rfl hl.1 rfl (lv_room (Nat.le_of_ble_eq_true rfl)) dX12_goClone_122 ⟨Nat.zero_le _, Nat.zero_le _⟩) (fun x_145 hx_145 => ?_)
        have rx_145 : rgI (0) (1) x_145 := hx_145.1
        try rw [← hx_145.2] at hv
        try rw [← hx_145.2] at hv
        refine lv_if_eq (tgt := 152) hx hb dX12_goClone_125 (by decide) (fun c_146 => ?_) (fun c_146 => ?_)
        · rw [if_pos c_146] at hv
          have r_147 : rgI (0) (0) x_145 := rg_w (rg_eq rl_0 c_146) (by decide) (by decide)
          have hb_148 : bt y5_102 (y9_102 : Int32).toNatClampNeg = false := has_0 (rg_w r_141 (by decide) (by decide)) (by rw [← hx_145.2]; exact c_146)
          obtain ⟨x_149, ex_149⟩ : ∃ y : Int32, y = y9_102 + 1 := ⟨_, rfl⟩
          try rw [← ex_149] at hv
          have rx_149 : rgI (1) (24) x_149 := by rw [ex_149]; exact rg_w (rg_add r_141 rl_1 (by decide) (by decide)) (by decide) (by decide)
          have qx_149 : x_149.toInt = (y9_102 : Int32).toInt + 1 := by rw [ex_149]; exact rg_addE r_141 rl_1 (by decide) (by decide)
          refine lv_iinc (v := x_149) (lv' := [(9, .int x_149), (10, .int x_144), (0, .ref h0), (1, .ref b0), (3, .int a2), (4, .int a3), (5, .int y5_102), (6, .int y6_102), (7, .int y7_102), (8, .int y8_102)]) hx hb dX12_goClone_152 hl (k := 9) rfl (by rw [ex_149]; rfl) (by decide) rfl (fun ls hl => ?_)
          refine lv_goto (tgt := 102) hx hb dX12_goClone_155 (by decide) ?_
          exact ih_102 H locs G_102 fl0_102 fl2_102 fl3_102 y5_102 y6_102 y7_102 y8_102 x_149 ls (rg_w rg127_102 (by decide) (by decide)) frL_102 efl0_102 efl2_102 efl3_102 ry3_102 ry4_102 (rg_w rx_149 (by decide) (by decide)) hi0_102 (LN_skip hi1_102 (rg_w r_141 (by decide) (by decide)) qx_149) hi2_102 (by have h1 := qx_149; have h2 := r_141.1; have h3 := r_141.2; have h4 := hm_102; omega) (lv_sub hl [2, 3, 4, 5, 6, 7, 8, 9, 0] rfl) hv hH hS
        · rw [if_neg c_146] at hv
          have r_150 : rgI (1) (1) x_145 := rg_w (rg_neL rx_145 rl_0 c_146) (by decide) (by decide)
          have hb_151 : bt y5_102 (y9_102 : Int32).toNatClampNeg = true := has_1 (rg_w r_141 (by decide) (by decide)) (by rw [← hx_145.2]; exact c_146)
          refine lv_iload hx hb dX12_goClone_128 (lv_at hl 0 rfl) ?_
          refine lv_if_eq (tgt := 152) hx hb dX12_goClone_130 (by decide) (fun c_152 => ?_) (fun c_152 => ?_)
          · rw [if_pos c_152] at hv
            have r_153 : rgI (0) (0) x_144 := rg_w (rg_eq rl_0 c_152) (by decide) (by decide)
            obtain ⟨x_154, ex_154⟩ : ∃ y : Int32, y = y9_102 + 1 := ⟨_, rfl⟩
            try rw [← ex_154] at hv
            have rx_154 : rgI (1) (24) x_154 := by rw [ex_154]; exact rg_w (rg_add r_141 rl_1 (by decide) (by decide)) (by decide) (by decide)
            have qx_154 : x_154.toInt = (y9_102 : Int32).toInt + 1 := by rw [ex_154]; exact rg_addE r_141 rl_1 (by decide) (by decide)
            refine lv_iinc (v := x_154) (lv' := [(9, .int x_154), (10, .int x_144), (0, .ref h0), (1, .ref b0), (3, .int a2), (4, .int a3), (5, .int y5_102), (6, .int y6_102), (7, .int y7_102), (8, .int y8_102)]) hx hb dX12_goClone_152 hl (k := 9) rfl (by rw [ex_154]; rfl) (by decide) rfl (fun ls hl => ?_)
            refine lv_goto (tgt := 102) hx hb dX12_goClone_155 (by decide) ?_
            exact ih_102 H locs G_102 fl0_102 fl2_102 fl3_102 y5_102 y6_102 y7_102 y8_102 x_154 ls (rg_w rg127_102 (by decide) (by decide)) frL_102 efl0_102 efl2_102 efl3_102 ry3_102 ry4_102 (rg_w rx_154 (by decide) (by decide)) hi0_102 (LN_skip hi1_102 (rg_w r_141 (by decide) (by decide)) qx_154) hi2_102 (by have h1 := qx_154; have h2 := r_141.1; have h3 := r_141.2; have h4 := hm_102; omega) (lv_sub hl [2, 3, 4, 5, 6, 7, 8, 9, 0] rfl) hv hH hS
          · rw [if_neg c_152] at hv
            refine lv_aload_n hx hb dX12_goClone_133 rfl (lv_at hl 1 rfl) ?_
            refine lv_iload hx hb dX12_goClone_134 (lv_at hl 0 rfl) ?_
            obtain ⟨_, ⟨rfl, t_156, hk_157⟩, o_c_155⟩ := hH h0 _ k_h0
            refine vp_callSi (W.runV (As := [.int x_144]) (rest := []) ⟨hx, hb, hml, hown, hts⟩ (c_X12_newOf_x l g Ty G_102 h0 x_144 k_h0 (rg_w rg127_102 (by decide) (by decide))) (cwV 1 hts (gwV mw_1595 mw_1597 mw_56 mw_88 mw_1598) rfl rfl rfl hv_X12_newOf ⟨Nat.le_of_ble_eq_true rfl, Nat.le_of_ble_eq_true rfl⟩) ⟨PcH_blind, hg_recv hK o_c_155 rfl, PcH_pre hK hH⟩ rfl rfl hl.1 rfl (lv_room (Nat.le_of_ble_eq_true rfl)) dX12_goClone_136 ⟨Nat.zero_le _, Nat.zero_le _⟩) (fun x_158 hx_158 => ?_)
            try rw [← hx_158.2] at hv
            have ex_159 : x_158 = F_X12_newOf_x fl2_102 fl3_102 (G_102.1 127) x_144 := hx_158.2.trans (by rw [efl2_102, efl3_102])
            try rw [← ex_159] at hv
            refine lv_if_ne (tgt := 152) hx hb dX12_goClone_139 (by decide) (fun c_160 => ?_) (fun c_160 => ?_)
            · rw [if_neg c_160] at hv
              obtain ⟨x_161, ex_161⟩ : ∃ y : Int32, y = y9_102 + 1 := ⟨_, rfl⟩
              try rw [← ex_161] at hv
              have rx_161 : rgI (1) (24) x_161 := by rw [ex_161]; exact rg_w (rg_add r_141 rl_1 (by decide) (by decide)) (by decide) (by decide)
              have qx_161 : x_161.toInt = (y9_102 : Int32).toInt + 1 := by rw [ex_161]; exact rg_addE r_141 rl_1 (by decide) (by decide)
              refine lv_iinc (v := x_161) (lv' := [(9, .int x_161), (10, .int x_144), (0, .ref h0), (1, .ref b0), (3, .int a2), (4, .int a3), (5, .int y5_102), (6, .int y6_102), (7, .int y7_102), (8, .int y8_102)]) hx hb dX12_goClone_152 hl (k := 9) rfl (by rw [ex_161]; rfl) (by decide) rfl (fun ls hl => ?_)
              refine lv_goto (tgt := 102) hx hb dX12_goClone_155 (by decide) ?_
              exact ih_102 H locs G_102 fl0_102 fl2_102 fl3_102 y5_102 y6_102 y7_102 y8_102 x_161 ls (rg_w rg127_102 (by decide) (by decide)) frL_102 efl0_102 efl2_102 efl3_102 ry3_102 ry4_102 (rg_w rx_161 (by decide) (by decide)) hi0_102 (LN_skip hi1_102 (rg_w r_141 (by decide) (by decide)) qx_161) hi2_102 (by have h1 := qx_161; have h2 := r_141.1; have h3 := r_141.2; have h4 := hm_102; omega) (lv_sub hl [2, 3, 4, 5, 6, 7, 8, 9, 0] rfl) hv hH hS
            · rw [if_pos c_160] at hv
              have r_162 : rgI (0) (0) x_158 := rg_w (rg_eq rl_0 c_160) (by decide) (by decide)
              have nq_163 : NO fl2_102 fl3_102 (G_102.1 127) x_144 0 := no_z (by rw [← efl2_102, ← efl3_102]; exact hx_158.1) c_160
              refine lv_aload_n hx hb dX12_goClone_142 rfl (lv_at hl 1 rfl) ?_
              refine lv_iload hx hb dX12_goClone_143 (lv_at hl 0 rfl) ?_
              refine lv_aload_n hx hb dX12_goClone_145 rfl (lv_at hl 2 rfl) ?_
              refine va_calli (va_runS (As := [.ref b0]) (rest := [.int x_144, .ref h0]) ⟨hx, hb, hml, hown, hts⟩ (c_X12_newGroup l g Ty G_102 H.size b0 k_b0) (cwSx 1 hts hG (gwC mw_1590) mw_88 mw_1588 mw_1589 rfl rfl rfl hd_X12_newGroup ⟨Nat.le_of_ble_eq_true rfl, Nat.le_of_ble_eq_true rfl⟩) ⟨PcT_blind, PcT_pre hK hH⟩ rfl rfl hl.1 rfl (lv_room (Nat.le_of_ble_eq_true rfl)) dX12_goClone_146 ⟨Nat.zero_le _, Nat.zero_le _⟩) hS (fun q _ h => AF.mono hS.1 h) (fun q h => AF.mono hS.1 h) (fun x_164 ux_164 t H locs ht hvm hx_164 hB hz hk hS => ?_)
              obtain ⟨eTx_164, eGx_164⟩ := hx_164
              obtain ⟨G_165, eG_165⟩ : ∃ z, z = ux_164.2 := ⟨_, rfl⟩
              rw [← eG_165] at eGx_164
              obtain ⟨hr_167, hg_168⟩ := eGx_164
              rw [efl0_102] at hr_167 hg_168
              obtain ⟨f_166, ef_166⟩ : ∃ z : Nat → Int32, z = (F_X12_newGroup fl0_102).2 := ⟨_, rfl⟩
              rw [← ef_166] at hg_168
              have fr_169 : FR [107, 108, 109, 110, 114, 127, 128] [b0, (g.2.2 115), (g.2.2 125), (g.2.2 126)] [106] G G_165 := FR.a frL_102 hg_168 (fun b h => h.1)
              have u_170 : G_165.1 127 = (G_102.1 127) := by rw [hg_168]; exact rfl
              have u_171 : G_165.1 113 = (G.1 113) := by rw [hg_168]; exact (frL_102.1 113 (by decide))
              have w_172 : G_165.2.1 b0 = f_166 := by rw [hg_168]; exact aset_eq
              have w_173 : G_165.2.1 rl = (G.2.1 rl) := by rw [hg_168]; exact (aset_ne (ne_kd krl k_b0 (by decide))).trans (frL_102.2.1 rl ⟨(ne_kd krl k_b0 (by decide)), (ne_kd krl hmk.2.2.2.1 (by decide)), (ne_kd krl hmk.2.2.2.2.2.2.2.2.1 (by decide)), (ne_kd krl hmk.2.2.2.2.2.2.2.2.2.1 (by decide)), trivial⟩)
              have w_174 : G_165.2.1 (g.2.2 125) = fl2_102 := by rw [hg_168]; exact (aset_ne (ne_kd hmk.2.2.2.2.2.2.2.2.1 k_b0 (by decide))).trans efl2_102
              have w_175 : G_165.2.1 (g.2.2 126) = fl3_102 := by rw [hg_168]; exact (aset_ne (ne_kd hmk.2.2.2.2.2.2.2.2.2.1 k_b0 (by decide))).trans efl3_102
              have u_176 : G_165.2.2 111 = some rl := by rw [hg_168]; exact ((frL_102.2.2 111 (by decide)).trans hr1)
              have hq_177 : F_X12_newGroup fl0_102 = (x_164, f_166) := Prod.ext hr_167.symm ef_166.symm
              rw [hq_177, tu2_eq] at hv
              have hH : HT g Ty G_165 H := by rw [← ht, ← eTx_164, eG_165]; exact hB
              obtain ⟨_, ⟨rfl, t_179, hk_180⟩, o_c_178⟩ := hH h0 _ k_h0
              refine va_callv (va_runV (As := [.int x_144, .int x_164]) (rest := []) ⟨hx, hb, hml, hown, hts⟩ (c_X12_layNew_x l g Ty G_165 H.size h0 x_144 x_164 k_h0 hLD (by rw [u_170]; exact (LN_ix hi1_102 r_141 (thr_l hm0) (by rw [ex_144, ex_142]) c_152 nq_163).1)) (cwV 2 hts (gwV mw_1591 mw_1593 mw_55 mw_88 mw_1594) rfl rfl rfl hv_X12_layNew ⟨Nat.le_of_ble_eq_true rfl, Nat.le_of_ble_eq_true rfl⟩) ⟨PcT_blind, hg_recv hK o_c_178 rfl, PcT_pre hK hH⟩ rfl rfl hl.1 rfl (lv_room (Nat.le_of_ble_eq_true rfl)) dX12_goClone_149 ⟨Nat.zero_le _, Nat.zero_le _⟩) hS (fun q _ h => AF.mono hS.1 h) (fun q h => AF.mono hS.1 h) (fun ux_181 t H locs ht hvm hx_181 hB hz hk hS => ?_)
              obtain ⟨eTx_181, eGx_181⟩ := hx_181
              obtain ⟨G_182, eG_182⟩ : ∃ z, z = ux_181.2 := ⟨_, rfl⟩
              rw [← eG_182] at eGx_181
              obtain ⟨hfr_183, hex_184⟩ := eGx_181
              have fr_185 : FR [107, 108, 109, 110, 114, 127, 128] [b0, (g.2.2 115), (g.2.2 125), (g.2.2 126)] [106] G G_182 := FR.tr fr_169 hfr_183 (by decide) (fun b h => ⟨h.2.2.1, h.2.2.2.1, trivial⟩) (by decide)
              have u_186 : G_182.1 113 = (G.1 113) := (hfr_183.1 113 (by decide)).trans u_171
              have w_187 : G_182.2.1 b0 = f_166 := (hfr_183.2.1 b0 ⟨(ne_kd k_b0 hmk.2.2.2.2.2.2.2.2.1 (by decide)), (ne_kd k_b0 hmk.2.2.2.2.2.2.2.2.2.1 (by decide)), trivial⟩).trans w_172
              have w_188 : G_182.2.1 rl = (G.2.1 rl) := (hfr_183.2.1 rl ⟨(ne_kd krl hmk.2.2.2.2.2.2.2.2.1 (by decide)), (ne_kd krl hmk.2.2.2.2.2.2.2.2.2.1 (by decide)), trivial⟩).trans w_173
              have u_189 : G_182.2.2 111 = some rl := (hfr_183.2.2 111 (by decide)).trans u_176
              obtain ⟨xa_190, xb_191⟩ := hex_184
              obtain ⟨f_192, ef_192⟩ : ∃ z : Nat → Int32, G_182.2.1 (g.2.2 125) = z := ⟨_, rfl⟩
              obtain ⟨f_193, ef_193⟩ : ∃ z : Nat → Int32, G_182.2.1 (g.2.2 126) = z := ⟨_, rfl⟩
              obtain ⟨n_194, en_194⟩ : ∃ z : Int32, G_182.1 127 = z := ⟨_, rfl⟩
              have hq_195 : F_X12_layNew_x fl2_102 fl3_102 (G_102.1 127) x_144 x_164 = (f_192, f_193, n_194) := by have q := xb_191; rw [w_174, w_175, u_170, ef_192, ef_193, en_194] at q; exact q
              rw [hq_195, tu3_eq] at hv
              obtain ⟨f_196, ef_196⟩ : ∃ z : Nat → Int32, z = upd fl2_102 ((G_102.1 127) : Int32).toNatClampNeg x_144 := ⟨_, rfl⟩
              have w_199 : G_182.2.1 (g.2.2 125) = f_196 := (xa_190.1).trans (by rw [ef_196, w_174, u_170])
              obtain ⟨f_197, ef_197⟩ : ∃ z : Nat → Int32, z = upd fl3_102 ((G_102.1 127) : Int32).toNatClampNeg x_164 := ⟨_, rfl⟩
              have w_200 : G_182.2.1 (g.2.2 126) = f_197 := (xa_190.2.1).trans (by rw [ef_197, w_175, u_170])
              obtain ⟨x_198, ex_198⟩ : ∃ z : Int32, z = (G_102.1 127) + 1 := ⟨_, rfl⟩
              have u_201 : G_182.1 127 = x_198 := (xa_190.2.2).trans (by rw [ex_198, u_170])
              have rx_198 : rgI 0 24 x_198 := by rw [ex_198]; exact rg_w (rg_add (LN_ix hi1_102 r_141 (thr_l hm0) (by rw [ex_144, ex_142]) c_152 nq_163).1 rl_1 (by decide) (by decide)) (by decide) (by decide)
              try rw [(ef_192).symm.trans (w_199)] at hv
              try rw [(ef_193).symm.trans (w_200)] at hv
              try rw [(en_194).symm.trans (u_201)] at hv
              have hH : HT g Ty G_182 H := by rw [← ht, ← eTx_181, eG_182]; exact hB
              obtain ⟨x_202, ex_202⟩ : ∃ y : Int32, y = y9_102 + 1 := ⟨_, rfl⟩
              try rw [← ex_202] at hv
              have rx_202 : rgI (1) (24) x_202 := by rw [ex_202]; exact rg_w (rg_add r_141 rl_1 (by decide) (by decide)) (by decide) (by decide)
              have qx_202 : x_202.toInt = (y9_102 : Int32).toInt + 1 := by rw [ex_202]; exact rg_addE r_141 rl_1 (by decide) (by decide)
              refine lv_iinc (v := x_202) (lv' := [(9, .int x_202), (10, .int x_144), (0, .ref h0), (1, .ref b0), (3, .int a2), (4, .int a3), (5, .int y5_102), (6, .int y6_102), (7, .int y7_102), (8, .int y8_102)]) hx hb dX12_goClone_152 hl (k := 9) rfl (by rw [ex_202]; rfl) (by decide) rfl (fun ls hl => ?_)
              refine lv_goto (tgt := 102) hx hb dX12_goClone_155 (by decide) ?_
              exact ih_102 H locs G_182 f_166 f_196 f_197 y5_102 y6_102 y7_102 y8_102 x_202 ls (by rw [u_201]; exact rg_w rx_198 (by decide) (by decide)) fr_185 w_187 w_199 w_200 ry3_102 ry4_102 (rg_w rx_202 (by decide) (by decide)) hi0_102 (by rw [u_201]; exact (LN_lay hi1_102 hB0 h1 r_141 (thr_l hm0) (by rw [ex_144, ex_142]) c_152 nq_163 hr_167 ef_166 ef_196 ef_197 ex_198 qx_202)) hi2_102 (by have h1 := qx_202; have h2 := r_141.1; have h3 := r_141.2; have h4 := hm_102; omega) (lv_sub hl [2, 3, 4, 5, 6, 7, 8, 9, 0] rfl) (by rw [u_201]; exact hv) hH hS
  refine lv_aload_n hx hb dX12_goClone_0 rfl (lv_at hl 1 rfl) ?_
  refine lv_iload_n hx hb dX12_goClone_1 rfl (lv_at hl 3 rfl) ?_
  refine vp_callSi (W.runS (As := [.ref b0, .int a2]) (rest := []) ⟨hx, hb, hml, hown, hts⟩ (c_X12_spreadOf l g Ty G b0 a2 k_b0 hm0) (cwSx 2 hts hG (gwC mw_1560) mw_88 mw_1558 mw_1559 rfl rfl rfl hd_X12_spreadOf ⟨Nat.le_of_ble_eq_true rfl, Nat.le_of_ble_eq_true rfl⟩) ⟨PcH_blind, PcH_pre hK hH⟩ rfl rfl hl.1 rfl (lv_room (Nat.le_of_ble_eq_true rfl)) dX12_goClone_2 ⟨Nat.zero_le _, Nat.zero_le _⟩) (fun x_203 hx_203 => ?_)
  try rw [← hx_203.2] at hv
  try rw [← hx_203.2] at hv
  refine lv_istore (lv' := [(5, .int x_203), (0, .ref h0), (1, .ref b0), (2, .int a1), (3, .int a2), (4, .int a3)]) hx hb dX12_goClone_5 hl (by decide) rfl (fun ls hl => ?_)
  refine lv_aload_n hx hb dX12_goClone_7 rfl (lv_at hl 1 rfl) ?_
  refine lv_aload_n hx hb dX12_goClone_8 rfl (lv_at hl 2 rfl) ?_
  refine lv_iload_n hx hb dX12_goClone_9 rfl (lv_at hl 4 rfl) ?_
  refine lv_iload hx hb dX12_goClone_10 (lv_at hl 5 rfl) ?_
  obtain ⟨_, ⟨rfl, t_205, hk_206⟩, o_c_204⟩ := hH h0 _ k_h0
  refine va_calli (va_runV (As := [.ref b0, .int a2, .int a3]) (rest := []) ⟨hx, hb, hml, hown, hts⟩ (c_X12_hitsOf_x l g Ty G s.heap.size h0 b0 a2 a3 k_h0 k_b0 ρ hT hm0 rl krl hr1 hr3) (cwV 3 hts (gwV mw_1554 mw_1556 mw_51 mw_88 mw_1557) rfl rfl rfl hv_X12_hitsOf ⟨Nat.le_of_ble_eq_true rfl, Nat.le_of_ble_eq_true rfl⟩) ⟨PcT_blind, hg_recv hK o_c_204 rfl, PcT_pre hK hH⟩ rfl rfl hl.1 rfl (lv_room (Nat.le_of_ble_eq_true rfl)) dX12_goClone_12 ⟨Nat.zero_le _, Nat.zero_le _⟩) hS (fun q _ h => AF.mono hS.1 h) (fun q h => AF.mono hS.1 h) (fun x_207 ux_207 t H locs ht hvm hx_207 hB hz hk hS => ?_)
  obtain ⟨hx_207, fx_207⟩ := hx_207
  obtain ⟨eTx_207, eGx_207⟩ := fx_207
  obtain ⟨G_208, eG_208⟩ : ∃ z, z = ux_207.2 := ⟨_, rfl⟩
  rw [← eG_208] at eGx_207
  obtain ⟨hfr_209, hex_210⟩ := eGx_207
  have fr_211 : FR [107, 108, 109, 110, 114, 127, 128] [b0, (g.2.2 115), (g.2.2 125), (g.2.2 126)] [106] G G_208 := FR.tr FR.rf hfr_209 (by decide) (fun b h => ⟨h.2.1, trivial⟩) (by decide)
  have u_212 : G_208.1 113 = (G.1 113) := (hfr_209.1 113 (by decide))
  have u_213 : G_208.1 127 = (G.1 127) := (hfr_209.1 127 (by decide))
  have w_214 : G_208.2.1 b0 = (G.2.1 b0) := (hfr_209.2.1 b0 ⟨(ne_kd k_b0 hmk.2.2.2.1 (by decide)), trivial⟩)
  have w_215 : G_208.2.1 rl = (G.2.1 rl) := (hfr_209.2.1 rl ⟨(ne_kd krl hmk.2.2.2.1 (by decide)), trivial⟩)
  have w_216 : G_208.2.1 (g.2.2 125) = (G.2.1 (g.2.2 125)) := (hfr_209.2.1 (g.2.2 125) ⟨(ne_kd hmk.2.2.2.2.2.2.2.2.1 hmk.2.2.2.1 (by decide)), trivial⟩)
  have w_217 : G_208.2.1 (g.2.2 126) = (G.2.1 (g.2.2 126)) := (hfr_209.2.1 (g.2.2 126) ⟨(ne_kd hmk.2.2.2.2.2.2.2.2.2.1 hmk.2.2.2.1 (by decide)), trivial⟩)
  have u_218 : G_208.2.2 111 = some rl := (hfr_209.2.2 111 (by decide)).trans hr1
  have hq_219 : F_X12_hitsOf_x (G.2.1 b0) (G.2.1 rl) (G.1 113) a2 a3 = x_207 := by have q := hex_210; exact q
  try rw [hq_219] at hv
  have hH : HT g Ty G_208 H := by rw [← ht, ← eTx_207, eG_208]; exact hB
  refine lv_istore (lv' := [(6, .int x_207), (5, .int x_203), (0, .ref h0), (1, .ref b0), (2, .int a1), (3, .int a2), (4, .int a3)]) hx hb dX12_goClone_15 hl (by decide) rfl (fun ls hl => ?_)
  refine lv_iload_n hx hb dX12_goClone_17 rfl (lv_at hl 4 rfl) ?_
  refine lv_bipush (v := 24) hx hb dX12_goClone_18 (by decide) ?_
  refine lv_icmp_ne (tgt := 27) hx hb dX12_goClone_20 (by decide) (fun c_220 => ?_) (fun c_220 => ?_)
  · rw [if_neg c_220] at hv
    have r_221 : rgI (0) (23) a1 := rg_w (rg_neR pr1 rl_24 c_220) (by decide) (by decide)
    refine lv_aload_n hx hb dX12_goClone_27 rfl (lv_at hl 3 rfl) ?_
    refine lv_bipush (v := 48) hx hb dX12_goClone_28 (by decide) ?_
    refine lv_iload_n hx hb dX12_goClone_30 rfl (lv_at hl 4 rfl) ?_
    refine lv_iadd hx hb dX12_goClone_31 ?_
    refine lv_topi (fun x_222 ex_222 => ?_)
    try rw [← ex_222] at hv
    have rx_222 : rgI (48) (71) x_222 := by rw [ex_222]; exact rg_w (rg_add rl_48 r_221 (by decide) (by decide)) (by decide) (by decide)
    obtain ⟨_, rfl, o_c_223⟩ := hH b0 _ k_b0
    have o_c_223 : va_at g.1 vwCl (b0, .inl (g.2.1 1, 122, .inl (G_208.2.1 b0))) H := o_c_223
    refine hg_iald hx hb hK o_c_223 (rg_in (n := 122) rx_222 (by decide) (by decide)) dX12_goClone_32 ?_
    rw [w_214]
    refine lv_topi (fun x_224 ex_224 => ?_)
    try rw [← ex_224] at hv
    refine lv_istore (lv' := [(7, .int x_224), (6, .int x_207), (5, .int x_203), (0, .ref h0), (1, .ref b0), (2, .int a1), (3, .int a2), (4, .int a3)]) hx hb dX12_goClone_33 hl (by decide) rfl (fun ls hl => ?_)
    refine lv_iload_n hx hb dX12_goClone_35 rfl (lv_at hl 5 rfl) ?_
    refine lv_bipush (v := 24) hx hb dX12_goClone_36 (by decide) ?_
    refine lv_icmp_ne (tgt := 45) hx hb dX12_goClone_38 (by decide) (fun c_225 => ?_) (fun c_225 => ?_)
    · rw [if_neg c_225] at hv
      refine lv_aload_n hx hb dX12_goClone_45 rfl (lv_at hl 4 rfl) ?_
      refine lv_bipush (v := 72) hx hb dX12_goClone_46 (by decide) ?_
      refine lv_iload_n hx hb dX12_goClone_48 rfl (lv_at hl 5 rfl) ?_
      refine lv_iadd hx hb dX12_goClone_49 ?_
      refine lv_topi (fun x_226 ex_226 => ?_)
      try rw [← ex_226] at hv
      have rx_226 : rgI (72) (95) x_226 := by rw [ex_226]; exact rg_w (rg_add rl_72 r_221 (by decide) (by decide)) (by decide) (by decide)
      refine hg_iald hx hb hK o_c_223 (rg_in (n := 122) rx_226 (by decide) (by decide)) dX12_goClone_50 ?_
      rw [w_214]
      refine lv_topi (fun x_227 ex_227 => ?_)
      try rw [← ex_227] at hv
      refine lv_istore (lv' := [(8, .int x_227), (7, .int x_224), (6, .int x_207), (5, .int x_203), (0, .ref h0), (1, .ref b0), (2, .int a1), (3, .int a2), (4, .int a3)]) hx hb dX12_goClone_51 hl (by decide) rfl (fun ls hl => ?_)
      have fv_228 := fr_vals (hfrom.resolve_left c_220) hTS ex_222 ex_224 ex_226 ex_227
      refine lv_aload_n hx hb dX12_goClone_53 rfl (lv_at hl 5 rfl) ?_
      refine lv_bipush (v := 48) hx hb dX12_goClone_54 (by decide) ?_
      refine lv_iload_n hx hb dX12_goClone_56 rfl (lv_at hl 7 rfl) ?_
      refine lv_iadd hx hb dX12_goClone_57 ?_
      refine lv_topi (fun x_229 ex_229 => ?_)
      try rw [← ex_229] at hv
      have rx_229 : rgI (48) (71) x_229 := by rw [ex_229]; exact rg_w (rg_add rl_48 pr2 (by decide) (by decide)) (by decide) (by decide)
      refine hg_iald hx hb hK o_c_223 (rg_in (n := 122) rx_229 (by decide) (by decide)) dX12_goClone_58 ?_
      rw [w_214]
      refine lv_topi (fun x_230 ex_230 => ?_)
      try rw [← ex_230] at hv
      have gq_231 : x_230 = (G.2.1 b0) (48 + a2.toNatClampNeg) := a48 hm0 (G.2.1 b0) ex_229 ex_230
      refine lv_if_eq (tgt := 73) hx hb dX12_goClone_59 (by decide) (fun c_232 => ?_) (fun c_232 => ?_)
      · rw [if_pos c_232] at hv
        have r_233 : rgI (0) (0) x_230 := rg_w (rg_eq rl_0 c_232) (by decide) (by decide)
        refine lv_aload_n hx hb dX12_goClone_73 rfl (lv_at hl 4 rfl) ?_
        refine lv_iconst (v := 0) hx hb dX12_goClone_74 (by decide) ?_
        obtain ⟨_, ⟨rfl, t_235, hk_236⟩, o_c_234⟩ := hH h0 _ k_h0
        refine hg_put (ty := .int) hx hb hG igX12 tyX12 tyX12_ok nmX12 hown hK hS o_c_234 (AF.of k_h0) rfl 27 (by decide) (hG _ mw_1311) rfl (by decide +kernel) rfl rfl (Nat.le_of_ble_eq_true rfl) dX12_goClone_75 (fun H locs o_c_234 hz oq hS => ?_)
        obtain ⟨G_237, eG_237⟩ : ∃ z : Gh, z = gset G_208 127 0 := ⟨_, rfl⟩
        have hH : HT g Ty G_237 H := by rw [eG_237]; exact HT.putN 127 0 hH k_h0 ⟨rfl, t_235, hk_236⟩ o_c_234 oq (Or.inr (Or.inr (Or.inr (Or.inr (Or.inr ⟨by decide, t_235⟩)))))
        have fr_238 : FR [107, 108, 109, 110, 114, 127, 128] [b0, (g.2.2 115), (g.2.2 125), (g.2.2 126)] [106] G G_237 := FR.n fr_211 eG_237 (by decide)
        have u_239 : G_237.1 113 = (G.1 113) := by rw [eG_237]; exact (gs_ne (by decide)).trans u_212
        have u_240 : G_237.1 127 = 0 := by rw [eG_237]; exact gs_eq
        have w_241 : G_237.2.1 b0 = (G.2.1 b0) := by rw [eG_237]; exact w_214
        have w_242 : G_237.2.1 rl = (G.2.1 rl) := by rw [eG_237]; exact w_215
        have w_243 : G_237.2.1 (g.2.2 125) = (G.2.1 (g.2.2 125)) := by rw [eG_237]; exact w_216
        have w_244 : G_237.2.1 (g.2.2 126) = (G.2.1 (g.2.2 126)) := by rw [eG_237]; exact w_217
        have u_245 : G_237.2.2 111 = some rl := by rw [eG_237]; exact u_218
        clear oq hz
        refine lv_aload_n hx hb dX12_goClone_78 rfl (lv_at hl 5 rfl) ?_
        refine lv_bipush (v := 48) hx hb dX12_goClone_79 (by decide) ?_
        refine lv_iload_n hx hb dX12_goClone_81 rfl (lv_at hl 7 rfl) ?_
        refine lv_iadd hx hb dX12_goClone_82 ?_
        refine lv_topi (fun x_246 ex_246 => ?_)
        try rw [← ex_246] at hv
        have rx_246 : rgI (48) (71) x_246 := by rw [ex_246]; exact rg_w (rg_add rl_48 pr2 (by decide) (by decide)) (by decide) (by decide)
        have q_247 : x_229 = x_246 := ex_229.trans ex_246.symm
        subst q_247
        obtain ⟨_, rfl, o_c_248⟩ := hH b0 _ k_b0
        have o_c_248 : va_at g.1 vwCl (b0, .inl (g.2.1 1, 122, .inl (G_237.2.1 b0))) H := o_c_248
        refine hg_iald hx hb hK o_c_248 (rg_in (n := 122) rx_246 (by decide) (by decide)) dX12_goClone_83 ?_
        rw [w_241]
        refine lv_topi (fun x_249 ex_249 => ?_)
        try rw [← ex_249] at hv
        have q_250 : x_230 = x_249 := ex_230.trans ex_249.symm
        subst q_250
        have gq_251 : x_230 = (G.2.1 b0) (48 + a2.toNatClampNeg) := a48 hm0 (G.2.1 b0) ex_229 ex_230
        refine lv_if_eq (tgt := 99) hx hb dX12_goClone_84 (by decide) (fun c_252 => ?_) (fun c_252 => ?_)
        · rw [if_pos c_252] at hv
          refine lv_iconst (v := 0) hx hb dX12_goClone_99 (by decide) ?_
          refine lv_istore (lv' := [(9, .int 0), (8, .int x_227), (7, .int x_224), (6, .int x_207), (5, .int x_203), (0, .ref h0), (1, .ref b0), (2, .int a1), (3, .int a2), (4, .int a3)]) hx hb dX12_goClone_100 hl (by decide) rfl (fun ls hl => ?_)
          exact L_102 26 H locs G_237 (G.2.1 b0) (G.2.1 (g.2.2 125)) (G.2.1 (g.2.2 126)) x_203 x_207 x_224 x_227 0 ls (by rw [u_240]; exact rg_w rl_0 (by decide) (by decide)) fr_238 w_241 w_243 w_244 pr2 pr3 (rg_w rl_0 (by decide) (by decide)) hx_207.1 (by rw [u_240]; exact (LN_i0 hSb fv_228.1 fv_228.2.1 fv_228.2.2 (by rw [← gq_231]; exact c_232))) hx_207.2 (by decide) (lv_sub hl [5, 6, 8, 9, 4, 3, 2, 1, 0] rfl) (by rw [u_240]; exact hv) hH hS
        · rw [if_neg c_252] at hv
          exact absurd (rg_one r_233 rl_0) c_252
      · rw [if_neg c_232] at hv
        refine lv_iload hx hb dX12_goClone_62 (lv_at hl 1 rfl) ?_
        refine lv_if_ne (tgt := 73) hx hb dX12_goClone_64 (by decide) (fun c_253 => ?_) (fun c_253 => ?_)
        · rw [if_neg c_253] at hv
          refine lv_aload_n hx hb dX12_goClone_73 rfl (lv_at hl 4 rfl) ?_
          refine lv_iconst (v := 0) hx hb dX12_goClone_74 (by decide) ?_
          obtain ⟨_, ⟨rfl, t_255, hk_256⟩, o_c_254⟩ := hH h0 _ k_h0
          refine hg_put (ty := .int) hx hb hG igX12 tyX12 tyX12_ok nmX12 hown hK hS o_c_254 (AF.of k_h0) rfl 27 (by decide) (hG _ mw_1311) rfl (by decide +kernel) rfl rfl (Nat.le_of_ble_eq_true rfl) dX12_goClone_75 (fun H locs o_c_254 hz oq hS => ?_)
          obtain ⟨G_257, eG_257⟩ : ∃ z : Gh, z = gset G_208 127 0 := ⟨_, rfl⟩
          have hH : HT g Ty G_257 H := by rw [eG_257]; exact HT.putN 127 0 hH k_h0 ⟨rfl, t_255, hk_256⟩ o_c_254 oq (Or.inr (Or.inr (Or.inr (Or.inr (Or.inr ⟨by decide, t_255⟩)))))
          have fr_258 : FR [107, 108, 109, 110, 114, 127, 128] [b0, (g.2.2 115), (g.2.2 125), (g.2.2 126)] [106] G G_257 := FR.n fr_211 eG_257 (by decide)
          have u_259 : G_257.1 113 = (G.1 113) := by rw [eG_257]; exact (gs_ne (by decide)).trans u_212
          have u_260 : G_257.1 127 = 0 := by rw [eG_257]; exact gs_eq
          have w_261 : G_257.2.1 b0 = (G.2.1 b0) := by rw [eG_257]; exact w_214
          have w_262 : G_257.2.1 rl = (G.2.1 rl) := by rw [eG_257]; exact w_215
          have w_263 : G_257.2.1 (g.2.2 125) = (G.2.1 (g.2.2 125)) := by rw [eG_257]; exact w_216
          have w_264 : G_257.2.1 (g.2.2 126) = (G.2.1 (g.2.2 126)) := by rw [eG_257]; exact w_217
          have u_265 : G_257.2.2 111 = some rl := by rw [eG_257]; exact u_218
          clear oq hz
          refine lv_aload_n hx hb dX12_goClone_78 rfl (lv_at hl 5 rfl) ?_
          refine lv_bipush (v := 48) hx hb dX12_goClone_79 (by decide) ?_
          refine lv_iload_n hx hb dX12_goClone_81 rfl (lv_at hl 7 rfl) ?_
          refine lv_iadd hx hb dX12_goClone_82 ?_
          refine lv_topi (fun x_266 ex_266 => ?_)
          try rw [← ex_266] at hv
          have rx_266 : rgI (48) (71) x_266 := by rw [ex_266]; exact rg_w (rg_add rl_48 pr2 (by decide) (by decide)) (by decide) (by decide)
          have q_267 : x_229 = x_266 := ex_229.trans ex_266.symm
          subst q_267
          obtain ⟨_, rfl, o_c_268⟩ := hH b0 _ k_b0
          have o_c_268 : va_at g.1 vwCl (b0, .inl (g.2.1 1, 122, .inl (G_257.2.1 b0))) H := o_c_268
          refine hg_iald hx hb hK o_c_268 (rg_in (n := 122) rx_266 (by decide) (by decide)) dX12_goClone_83 ?_
          rw [w_261]
          refine lv_topi (fun x_269 ex_269 => ?_)
          try rw [← ex_269] at hv
          have q_270 : x_230 = x_269 := ex_230.trans ex_269.symm
          subst q_270
          have gq_271 : x_230 = (G.2.1 b0) (48 + a2.toNatClampNeg) := a48 hm0 (G.2.1 b0) ex_229 ex_230
          refine lv_if_eq (tgt := 99) hx hb dX12_goClone_84 (by decide) (fun c_272 => ?_) (fun c_272 => ?_)
          · rw [if_pos c_272] at hv
            have r_273 : rgI (0) (0) x_230 := rg_w (rg_eq rl_0 c_272) (by decide) (by decide)
            refine lv_iconst (v := 0) hx hb dX12_goClone_99 (by decide) ?_
            refine lv_istore (lv' := [(9, .int 0), (8, .int x_227), (7, .int x_224), (6, .int x_207), (5, .int x_203), (0, .ref h0), (1, .ref b0), (2, .int a1), (3, .int a2), (4, .int a3)]) hx hb dX12_goClone_100 hl (by decide) rfl (fun ls hl => ?_)
            exact L_102 26 H locs G_257 (G.2.1 b0) (G.2.1 (g.2.2 125)) (G.2.1 (g.2.2 126)) x_203 x_207 x_224 x_227 0 ls (by rw [u_260]; exact rg_w rl_0 (by decide) (by decide)) fr_258 w_261 w_263 w_264 pr2 pr3 (rg_w rl_0 (by decide) (by decide)) hx_207.1 (absurd (by rw [gq_231, ← gq_271]; exact c_272) c_232) hx_207.2 (by decide) (lv_sub hl [5, 6, 8, 9, 4, 3, 2, 1, 0] rfl) (by rw [u_260]; exact hv) hH hS
          · rw [if_neg c_272] at hv
            refine lv_aload_n hx hb dX12_goClone_87 rfl (lv_at hl 4 rfl) ?_
            refine lv_aload_n hx hb dX12_goClone_88 rfl (lv_at hl 5 rfl) ?_
            refine lv_bipush (v := 48) hx hb dX12_goClone_89 (by decide) ?_
            refine lv_iload_n hx hb dX12_goClone_91 rfl (lv_at hl 7 rfl) ?_
            refine lv_iadd hx hb dX12_goClone_92 ?_
            refine lv_topi (fun x_274 ex_274 => ?_)
            try rw [← ex_274] at hv
            have rx_274 : rgI (48) (71) x_274 := by rw [ex_274]; exact rg_w (rg_add rl_48 pr2 (by decide) (by decide)) (by decide) (by decide)
            have q_275 : x_229 = x_274 := ex_229.trans ex_274.symm
            subst q_275
            refine hg_iald hx hb hK o_c_268 (rg_in (n := 122) rx_274 (by decide) (by decide)) dX12_goClone_93 ?_
            rw [w_261]
            refine lv_topi (fun x_276 ex_276 => ?_)
            try rw [← ex_276] at hv
            have q_277 : x_230 = x_276 := ex_230.trans ex_276.symm
            subst q_277
            have gq_278 : x_230 = (G.2.1 b0) (48 + a2.toNatClampNeg) := a48 hm0 (G.2.1 b0) ex_229 ex_230
            refine lv_iload hx hb dX12_goClone_94 (lv_at hl 1 rfl) ?_
            obtain ⟨_, ⟨rfl, t_280, hk_281⟩, o_c_279⟩ := hH h0 _ k_h0
            refine va_callv (va_runV (As := [.int x_230, .int x_224]) (rest := []) ⟨hx, hb, hml, hown, hts⟩ (c_X12_layNew_x l g Ty G_257 H.size h0 x_230 x_224 k_h0 hLD (by rw [u_260]; exact (show rgI 0 23 (0 : Int32) from rg_w rl_0 (by decide) (by decide)))) (cwV 2 hts (gwV mw_1591 mw_1593 mw_55 mw_88 mw_1594) rfl rfl rfl hv_X12_layNew ⟨Nat.le_of_ble_eq_true rfl, Nat.le_of_ble_eq_true rfl⟩) ⟨PcT_blind, hg_recv hK o_c_279 rfl, PcT_pre hK hH⟩ rfl rfl hl.1 rfl (lv_room (Nat.le_of_ble_eq_true rfl)) dX12_goClone_96 ⟨Nat.zero_le _, Nat.zero_le _⟩) hS (fun q _ h => AF.mono hS.1 h) (fun q h => AF.mono hS.1 h) (fun ux_282 t H locs ht hvm hx_282 hB hz hk hS => ?_)
            obtain ⟨eTx_282, eGx_282⟩ := hx_282
            obtain ⟨G_283, eG_283⟩ : ∃ z, z = ux_282.2 := ⟨_, rfl⟩
            rw [← eG_283] at eGx_282
            obtain ⟨hfr_284, hex_285⟩ := eGx_282
            have fr_286 : FR [107, 108, 109, 110, 114, 127, 128] [b0, (g.2.2 115), (g.2.2 125), (g.2.2 126)] [106] G G_283 := FR.tr fr_258 hfr_284 (by decide) (fun b h => ⟨h.2.2.1, h.2.2.2.1, trivial⟩) (by decide)
            have u_287 : G_283.1 113 = (G.1 113) := (hfr_284.1 113 (by decide)).trans u_259
            have w_288 : G_283.2.1 b0 = (G.2.1 b0) := (hfr_284.2.1 b0 ⟨(ne_kd k_b0 hmk.2.2.2.2.2.2.2.2.1 (by decide)), (ne_kd k_b0 hmk.2.2.2.2.2.2.2.2.2.1 (by decide)), trivial⟩).trans w_261
            have w_289 : G_283.2.1 rl = (G.2.1 rl) := (hfr_284.2.1 rl ⟨(ne_kd krl hmk.2.2.2.2.2.2.2.2.1 (by decide)), (ne_kd krl hmk.2.2.2.2.2.2.2.2.2.1 (by decide)), trivial⟩).trans w_262
            have u_290 : G_283.2.2 111 = some rl := (hfr_284.2.2 111 (by decide)).trans u_265
            obtain ⟨xa_291, xb_292⟩ := hex_285
            obtain ⟨f_293, ef_293⟩ : ∃ z : Nat → Int32, G_283.2.1 (g.2.2 125) = z := ⟨_, rfl⟩
            obtain ⟨f_294, ef_294⟩ : ∃ z : Nat → Int32, G_283.2.1 (g.2.2 126) = z := ⟨_, rfl⟩
            obtain ⟨n_295, en_295⟩ : ∃ z : Int32, G_283.1 127 = z := ⟨_, rfl⟩
            have hq_296 : F_X12_layNew_x (G.2.1 (g.2.2 125)) (G.2.1 (g.2.2 126)) 0 x_230 x_224 = (f_293, f_294, n_295) := by have q := xb_292; rw [w_263, w_264, u_260, ef_293, ef_294, en_295] at q; exact q
            rw [hq_296, tu3_eq] at hv
            obtain ⟨f_297, ef_297⟩ : ∃ z : Nat → Int32, z = upd (G.2.1 (g.2.2 125)) (0 : Int32).toNatClampNeg x_230 := ⟨_, rfl⟩
            have w_300 : G_283.2.1 (g.2.2 125) = f_297 := (xa_291.1).trans (by rw [ef_297, w_263, u_260])
            obtain ⟨f_298, ef_298⟩ : ∃ z : Nat → Int32, z = upd (G.2.1 (g.2.2 126)) (0 : Int32).toNatClampNeg x_224 := ⟨_, rfl⟩
            have w_301 : G_283.2.1 (g.2.2 126) = f_298 := (xa_291.2.1).trans (by rw [ef_298, w_264, u_260])
            obtain ⟨x_299, ex_299⟩ : ∃ z : Int32, z = 0 + 1 := ⟨_, rfl⟩
            have u_302 : G_283.1 127 = x_299 := (xa_291.2.2).trans (by rw [ex_299, u_260])
            have rx_299 : rgI 0 24 x_299 := by rw [ex_299]; exact rg_w (rg_add (show rgI 0 23 (0 : Int32) from rg_w rl_0 (by decide) (by decide)) rl_1 (by decide) (by decide)) (by decide) (by decide)
            try rw [(ef_293).symm.trans (w_300)] at hv
            try rw [(ef_294).symm.trans (w_301)] at hv
            try rw [(en_295).symm.trans (u_302)] at hv
            have hH : HT g Ty G_283 H := by rw [← ht, ← eTx_282, eG_283]; exact hB
            refine lv_iconst (v := 0) hx hb dX12_goClone_99 (by decide) ?_
            refine lv_istore (lv' := [(9, .int 0), (8, .int x_227), (7, .int x_224), (6, .int x_207), (5, .int x_203), (0, .ref h0), (1, .ref b0), (2, .int a1), (3, .int a2), (4, .int a3)]) hx hb dX12_goClone_100 hl (by decide) rfl (fun ls hl => ?_)
            exact L_102 26 H locs G_283 (G.2.1 b0) f_297 f_298 x_203 x_207 x_224 x_227 0 ls (by rw [u_302]; exact rg_w rx_299 (by decide) (by decide)) fr_286 w_288 w_300 w_301 pr2 pr3 (rg_w rl_0 (by decide) (by decide)) hx_207.1 (by rw [u_302]; exact (LN_i1 hSb fv_228.1 fv_228.2.1 fv_228.2.2 gq_278 (by rw [gq_278, ← gq_231]; exact c_232) c_253 ef_297 ef_298 ex_299)) hx_207.2 (by decide) (lv_sub hl [5, 6, 8, 9, 4, 3, 2, 1, 0] rfl) (by rw [u_302]; exact hv) hH hS
        · rw [if_pos c_253] at hv
          have r_303 : rgI (0) (0) x_224 := rg_w (rg_eq rl_0 c_253) (by decide) (by decide)
          refine lv_aload_n hx hb dX12_goClone_67 rfl (lv_at hl 5 rfl) ?_
          refine va_calli (va_runS (As := [.ref b0]) (rest := []) ⟨hx, hb, hml, hown, hts⟩ (c_X12_newGroup l g Ty G_208 H.size b0 k_b0) (cwSx 1 hts hG (gwC mw_1590) mw_88 mw_1588 mw_1589 rfl rfl rfl hd_X12_newGroup ⟨Nat.le_of_ble_eq_true rfl, Nat.le_of_ble_eq_true rfl⟩) ⟨PcT_blind, PcT_pre hK hH⟩ rfl rfl hl.1 rfl (lv_room (Nat.le_of_ble_eq_true rfl)) dX12_goClone_68 ⟨Nat.zero_le _, Nat.zero_le _⟩) hS (fun q _ h => AF.mono hS.1 h) (fun q h => AF.mono hS.1 h) (fun x_304 ux_304 t H locs ht hvm hx_304 hB hz hk hS => ?_)
          obtain ⟨eTx_304, eGx_304⟩ := hx_304
          obtain ⟨G_305, eG_305⟩ : ∃ z, z = ux_304.2 := ⟨_, rfl⟩
          rw [← eG_305] at eGx_304
          obtain ⟨hr_307, hg_308⟩ := eGx_304
          rw [w_214] at hr_307 hg_308
          obtain ⟨f_306, ef_306⟩ : ∃ z : Nat → Int32, z = (F_X12_newGroup (G.2.1 b0)).2 := ⟨_, rfl⟩
          rw [← ef_306] at hg_308
          have fr_309 : FR [107, 108, 109, 110, 114, 127, 128] [b0, (g.2.2 115), (g.2.2 125), (g.2.2 126)] [106] G G_305 := FR.a fr_211 hg_308 (fun b h => h.1)
          have u_310 : G_305.1 113 = (G.1 113) := by rw [hg_308]; exact u_212
          have u_311 : G_305.1 127 = (G.1 127) := by rw [hg_308]; exact u_213
          have w_312 : G_305.2.1 b0 = f_306 := by rw [hg_308]; exact aset_eq
          have w_313 : G_305.2.1 rl = (G.2.1 rl) := by rw [hg_308]; exact (aset_ne (ne_kd krl k_b0 (by decide))).trans w_215
          have w_314 : G_305.2.1 (g.2.2 125) = (G.2.1 (g.2.2 125)) := by rw [hg_308]; exact (aset_ne (ne_kd hmk.2.2.2.2.2.2.2.2.1 k_b0 (by decide))).trans w_216
          have w_315 : G_305.2.1 (g.2.2 126) = (G.2.1 (g.2.2 126)) := by rw [hg_308]; exact (aset_ne (ne_kd hmk.2.2.2.2.2.2.2.2.2.1 k_b0 (by decide))).trans w_217
          have u_316 : G_305.2.2 111 = some rl := by rw [hg_308]; exact u_218
          have hq_317 : F_X12_newGroup (G.2.1 b0) = (x_304, f_306) := Prod.ext hr_307.symm ef_306.symm
          rw [hq_317, tu2_eq] at hv
          have hH : HT g Ty G_305 H := by rw [← ht, ← eTx_304, eG_305]; exact hB
          refine lv_istore (lv' := [(7, .int x_304), (8, .int x_227), (6, .int x_207), (5, .int x_203), (0, .ref h0), (1, .ref b0), (2, .int a1), (3, .int a2), (4, .int a3)]) hx hb dX12_goClone_71 hl (by decide) rfl (fun ls hl => ?_)
          refine lv_aload_n hx hb dX12_goClone_73 rfl (lv_at hl 4 rfl) ?_
          refine lv_iconst (v := 0) hx hb dX12_goClone_74 (by decide) ?_
          obtain ⟨_, ⟨rfl, t_319, hk_320⟩, o_c_318⟩ := hH h0 _ k_h0
          refine hg_put (ty := .int) hx hb hG igX12 tyX12 tyX12_ok nmX12 hown hK hS o_c_318 (AF.of k_h0) rfl 27 (by decide) (hG _ mw_1311) rfl (by decide +kernel) rfl rfl (Nat.le_of_ble_eq_true rfl) dX12_goClone_75 (fun H locs o_c_318 hz oq hS => ?_)
          obtain ⟨G_321, eG_321⟩ : ∃ z : Gh, z = gset G_305 127 0 := ⟨_, rfl⟩
          have hH : HT g Ty G_321 H := by rw [eG_321]; exact HT.putN 127 0 hH k_h0 ⟨rfl, t_319, hk_320⟩ o_c_318 oq (Or.inr (Or.inr (Or.inr (Or.inr (Or.inr ⟨by decide, t_319⟩)))))
          have fr_322 : FR [107, 108, 109, 110, 114, 127, 128] [b0, (g.2.2 115), (g.2.2 125), (g.2.2 126)] [106] G G_321 := FR.n fr_309 eG_321 (by decide)
          have u_323 : G_321.1 113 = (G.1 113) := by rw [eG_321]; exact (gs_ne (by decide)).trans u_310
          have u_324 : G_321.1 127 = 0 := by rw [eG_321]; exact gs_eq
          have w_325 : G_321.2.1 b0 = f_306 := by rw [eG_321]; exact w_312
          have w_326 : G_321.2.1 rl = (G.2.1 rl) := by rw [eG_321]; exact w_313
          have w_327 : G_321.2.1 (g.2.2 125) = (G.2.1 (g.2.2 125)) := by rw [eG_321]; exact w_314
          have w_328 : G_321.2.1 (g.2.2 126) = (G.2.1 (g.2.2 126)) := by rw [eG_321]; exact w_315
          have u_329 : G_321.2.2 111 = some rl := by rw [eG_321]; exact u_316
          clear oq hz
          refine lv_aload_n hx hb dX12_goClone_78 rfl (lv_at hl 5 rfl) ?_
          refine lv_bipush (v := 48) hx hb dX12_goClone_79 (by decide) ?_
          refine lv_iload_n hx hb dX12_goClone_81 rfl (lv_at hl 7 rfl) ?_
          refine lv_iadd hx hb dX12_goClone_82 ?_
          refine lv_topi (fun x_330 ex_330 => ?_)
          try rw [← ex_330] at hv
          have rx_330 : rgI (48) (71) x_330 := by rw [ex_330]; exact rg_w (rg_add rl_48 pr2 (by decide) (by decide)) (by decide) (by decide)
          have q_331 : x_229 = x_330 := ex_229.trans ex_330.symm
          subst q_331
          obtain ⟨_, rfl, o_c_332⟩ := hH b0 _ k_b0
          have o_c_332 : va_at g.1 vwCl (b0, .inl (g.2.1 1, 122, .inl (G_321.2.1 b0))) H := o_c_332
          refine hg_iald hx hb hK o_c_332 (rg_in (n := 122) rx_330 (by decide) (by decide)) dX12_goClone_83 ?_
          rw [w_325]
          refine lv_topi (fun x_333 ex_333 => ?_)
          try rw [← ex_333] at hv
          have gq_334 : x_333 = f_306 (48 + a2.toNatClampNeg) := a48 hm0 f_306 ex_229 ex_333
          refine lv_if_eq (tgt := 99) hx hb dX12_goClone_84 (by decide) (fun c_335 => ?_) (fun c_335 => ?_)
          · rw [if_pos c_335] at hv
            have r_336 : rgI (0) (0) x_333 := rg_w (rg_eq rl_0 c_335) (by decide) (by decide)
            refine lv_iconst (v := 0) hx hb dX12_goClone_99 (by decide) ?_
            refine lv_istore (lv' := [(9, .int 0), (7, .int x_304), (8, .int x_227), (6, .int x_207), (5, .int x_203), (0, .ref h0), (1, .ref b0), (2, .int a1), (3, .int a2), (4, .int a3)]) hx hb dX12_goClone_100 hl (by decide) rfl (fun ls hl => ?_)
            exact L_102 26 H locs G_321 f_306 (G.2.1 (g.2.2 125)) (G.2.1 (g.2.2 126)) x_203 x_207 x_304 x_227 0 ls (by rw [u_324]; exact rg_w rl_0 (by decide) (by decide)) fr_322 w_325 w_327 w_328 pr2 pr3 (rg_w rl_0 (by decide) (by decide)) hx_207.1 (absurd (by rw [gq_231, ← ng_48 (thr_l hm0) ef_306, ← gq_334]; exact c_335) c_232) hx_207.2 (by decide) (lv_sub hl [5, 6, 8, 9, 4, 3, 1, 2, 0] rfl) (by rw [u_324]; exact hv) hH hS
          · rw [if_neg c_335] at hv
            refine lv_aload_n hx hb dX12_goClone_87 rfl (lv_at hl 4 rfl) ?_
            refine lv_aload_n hx hb dX12_goClone_88 rfl (lv_at hl 5 rfl) ?_
            refine lv_bipush (v := 48) hx hb dX12_goClone_89 (by decide) ?_
            refine lv_iload_n hx hb dX12_goClone_91 rfl (lv_at hl 7 rfl) ?_
            refine lv_iadd hx hb dX12_goClone_92 ?_
            refine lv_topi (fun x_337 ex_337 => ?_)
            try rw [← ex_337] at hv
            have rx_337 : rgI (48) (71) x_337 := by rw [ex_337]; exact rg_w (rg_add rl_48 pr2 (by decide) (by decide)) (by decide) (by decide)
            have q_338 : x_229 = x_337 := ex_229.trans ex_337.symm
            subst q_338
            refine hg_iald hx hb hK o_c_332 (rg_in (n := 122) rx_337 (by decide) (by decide)) dX12_goClone_93 ?_
            rw [w_325]
            refine lv_topi (fun x_339 ex_339 => ?_)
            try rw [← ex_339] at hv
            have q_340 : x_333 = x_339 := ex_333.trans ex_339.symm
            subst q_340
            have gq_341 : x_333 = f_306 (48 + a2.toNatClampNeg) := a48 hm0 f_306 ex_229 ex_333
            refine lv_iload hx hb dX12_goClone_94 (lv_at hl 0 rfl) ?_
            obtain ⟨_, ⟨rfl, t_343, hk_344⟩, o_c_342⟩ := hH h0 _ k_h0
            refine va_callv (va_runV (As := [.int x_333, .int x_304]) (rest := []) ⟨hx, hb, hml, hown, hts⟩ (c_X12_layNew_x l g Ty G_321 H.size h0 x_333 x_304 k_h0 hLD (by rw [u_324]; exact (show rgI 0 23 (0 : Int32) from rg_w rl_0 (by decide) (by decide)))) (cwV 2 hts (gwV mw_1591 mw_1593 mw_55 mw_88 mw_1594) rfl rfl rfl hv_X12_layNew ⟨Nat.le_of_ble_eq_true rfl, Nat.le_of_ble_eq_true rfl⟩) ⟨PcT_blind, hg_recv hK o_c_342 rfl, PcT_pre hK hH⟩ rfl rfl hl.1 rfl (lv_room (Nat.le_of_ble_eq_true rfl)) dX12_goClone_96 ⟨Nat.zero_le _, Nat.zero_le _⟩) hS (fun q _ h => AF.mono hS.1 h) (fun q h => AF.mono hS.1 h) (fun ux_345 t H locs ht hvm hx_345 hB hz hk hS => ?_)
            obtain ⟨eTx_345, eGx_345⟩ := hx_345
            obtain ⟨G_346, eG_346⟩ : ∃ z, z = ux_345.2 := ⟨_, rfl⟩
            rw [← eG_346] at eGx_345
            obtain ⟨hfr_347, hex_348⟩ := eGx_345
            have fr_349 : FR [107, 108, 109, 110, 114, 127, 128] [b0, (g.2.2 115), (g.2.2 125), (g.2.2 126)] [106] G G_346 := FR.tr fr_322 hfr_347 (by decide) (fun b h => ⟨h.2.2.1, h.2.2.2.1, trivial⟩) (by decide)
            have u_350 : G_346.1 113 = (G.1 113) := (hfr_347.1 113 (by decide)).trans u_323
            have w_351 : G_346.2.1 b0 = f_306 := (hfr_347.2.1 b0 ⟨(ne_kd k_b0 hmk.2.2.2.2.2.2.2.2.1 (by decide)), (ne_kd k_b0 hmk.2.2.2.2.2.2.2.2.2.1 (by decide)), trivial⟩).trans w_325
            have w_352 : G_346.2.1 rl = (G.2.1 rl) := (hfr_347.2.1 rl ⟨(ne_kd krl hmk.2.2.2.2.2.2.2.2.1 (by decide)), (ne_kd krl hmk.2.2.2.2.2.2.2.2.2.1 (by decide)), trivial⟩).trans w_326
            have u_353 : G_346.2.2 111 = some rl := (hfr_347.2.2 111 (by decide)).trans u_329
            obtain ⟨xa_354, xb_355⟩ := hex_348
            obtain ⟨f_356, ef_356⟩ : ∃ z : Nat → Int32, G_346.2.1 (g.2.2 125) = z := ⟨_, rfl⟩
            obtain ⟨f_357, ef_357⟩ : ∃ z : Nat → Int32, G_346.2.1 (g.2.2 126) = z := ⟨_, rfl⟩
            obtain ⟨n_358, en_358⟩ : ∃ z : Int32, G_346.1 127 = z := ⟨_, rfl⟩
            have hq_359 : F_X12_layNew_x (G.2.1 (g.2.2 125)) (G.2.1 (g.2.2 126)) 0 x_333 x_304 = (f_356, f_357, n_358) := by have q := xb_355; rw [w_327, w_328, u_324, ef_356, ef_357, en_358] at q; exact q
            rw [hq_359, tu3_eq] at hv
            obtain ⟨f_360, ef_360⟩ : ∃ z : Nat → Int32, z = upd (G.2.1 (g.2.2 125)) (0 : Int32).toNatClampNeg x_333 := ⟨_, rfl⟩
            have w_363 : G_346.2.1 (g.2.2 125) = f_360 := (xa_354.1).trans (by rw [ef_360, w_327, u_324])
            obtain ⟨f_361, ef_361⟩ : ∃ z : Nat → Int32, z = upd (G.2.1 (g.2.2 126)) (0 : Int32).toNatClampNeg x_304 := ⟨_, rfl⟩
            have w_364 : G_346.2.1 (g.2.2 126) = f_361 := (xa_354.2.1).trans (by rw [ef_361, w_328, u_324])
            obtain ⟨x_362, ex_362⟩ : ∃ z : Int32, z = 0 + 1 := ⟨_, rfl⟩
            have u_365 : G_346.1 127 = x_362 := (xa_354.2.2).trans (by rw [ex_362, u_324])
            have rx_362 : rgI 0 24 x_362 := by rw [ex_362]; exact rg_w (rg_add (show rgI 0 23 (0 : Int32) from rg_w rl_0 (by decide) (by decide)) rl_1 (by decide) (by decide)) (by decide) (by decide)
            try rw [(ef_356).symm.trans (w_363)] at hv
            try rw [(ef_357).symm.trans (w_364)] at hv
            try rw [(en_358).symm.trans (u_365)] at hv
            have hH : HT g Ty G_346 H := by rw [← ht, ← eTx_345, eG_346]; exact hB
            refine lv_iconst (v := 0) hx hb dX12_goClone_99 (by decide) ?_
            refine lv_istore (lv' := [(9, .int 0), (7, .int x_304), (8, .int x_227), (6, .int x_207), (5, .int x_203), (0, .ref h0), (1, .ref b0), (2, .int a1), (3, .int a2), (4, .int a3)]) hx hb dX12_goClone_100 hl (by decide) rfl (fun ls hl => ?_)
            exact L_102 26 H locs G_346 f_306 f_360 f_361 x_203 x_207 x_304 x_227 0 ls (by rw [u_365]; exact rg_w rx_362 (by decide) (by decide)) fr_349 w_351 w_363 w_364 pr2 pr3 (rg_w rl_0 (by decide) (by decide)) hx_207.1 (by rw [u_365]; exact (LN_i2 hSb h1 hB0 fv_228.2.1 hr_307 ef_306 (thr_l hm0) gq_341 (by rw [gq_341, ng_48 (thr_l hm0) ef_306, ← gq_231]; exact c_232) ef_360 ef_361 ex_362)) hx_207.2 (by decide) (lv_sub hl [5, 6, 8, 9, 4, 3, 1, 2, 0] rfl) (by rw [u_365]; exact hv) hH hS
    · rw [if_pos c_225] at hv
      exact rg_noE r_221 rl_24 c_225 (by decide)
  · rw [if_pos c_220] at hv
    have r_366 : rgI (24) (24) a1 := rg_w (rg_eq rl_24 c_220) (by decide) (by decide)
    refine lv_iconst (v := 0) hx hb dX12_goClone_23 (by decide) ?_
    refine lv_goto (tgt := 33) hx hb dX12_goClone_24 (by decide) ?_
    refine lv_istore (lv' := [(7, .int 0), (6, .int x_207), (5, .int x_203), (0, .ref h0), (1, .ref b0), (2, .int a1), (3, .int a2), (4, .int a3)]) hx hb dX12_goClone_33 hl (by decide) rfl (fun ls hl => ?_)
    refine lv_iload_n hx hb dX12_goClone_35 rfl (lv_at hl 5 rfl) ?_
    refine lv_bipush (v := 24) hx hb dX12_goClone_36 (by decide) ?_
    refine lv_icmp_ne (tgt := 45) hx hb dX12_goClone_38 (by decide) (fun c_367 => ?_) (fun c_367 => ?_)
    · rw [if_neg c_367] at hv
      exact absurd (rg_one r_366 rl_24) c_367
    · rw [if_pos c_367] at hv
      refine lv_iconst (v := 0) hx hb dX12_goClone_41 (by decide) ?_
      refine lv_goto (tgt := 51) hx hb dX12_goClone_42 (by decide) ?_
      refine lv_istore (lv' := [(8, .int 0), (7, .int 0), (6, .int x_207), (5, .int x_203), (0, .ref h0), (1, .ref b0), (2, .int a1), (3, .int a2), (4, .int a3)]) hx hb dX12_goClone_51 hl (by decide) rfl (fun ls hl => ?_)
      have fv_368 := fr_none (σ := σ) h1
      refine lv_aload_n hx hb dX12_goClone_53 rfl (lv_at hl 5 rfl) ?_
      refine lv_bipush (v := 48) hx hb dX12_goClone_54 (by decide) ?_
      refine lv_iload_n hx hb dX12_goClone_56 rfl (lv_at hl 7 rfl) ?_
      refine lv_iadd hx hb dX12_goClone_57 ?_
      refine lv_topi (fun x_369 ex_369 => ?_)
      try rw [← ex_369] at hv
      have rx_369 : rgI (48) (71) x_369 := by rw [ex_369]; exact rg_w (rg_add rl_48 pr2 (by decide) (by decide)) (by decide) (by decide)
      obtain ⟨_, rfl, o_c_370⟩ := hH b0 _ k_b0
      have o_c_370 : va_at g.1 vwCl (b0, .inl (g.2.1 1, 122, .inl (G_208.2.1 b0))) H := o_c_370
      refine hg_iald hx hb hK o_c_370 (rg_in (n := 122) rx_369 (by decide) (by decide)) dX12_goClone_58 ?_
      rw [w_214]
      refine lv_topi (fun x_371 ex_371 => ?_)
      try rw [← ex_371] at hv
      have gq_372 : x_371 = (G.2.1 b0) (48 + a2.toNatClampNeg) := a48 hm0 (G.2.1 b0) ex_369 ex_371
      refine lv_if_eq (tgt := 73) hx hb dX12_goClone_59 (by decide) (fun c_373 => ?_) (fun c_373 => ?_)
      · rw [if_pos c_373] at hv
        have r_374 : rgI (0) (0) x_371 := rg_w (rg_eq rl_0 c_373) (by decide) (by decide)
        refine lv_aload_n hx hb dX12_goClone_73 rfl (lv_at hl 4 rfl) ?_
        refine lv_iconst (v := 0) hx hb dX12_goClone_74 (by decide) ?_
        obtain ⟨_, ⟨rfl, t_376, hk_377⟩, o_c_375⟩ := hH h0 _ k_h0
        refine hg_put (ty := .int) hx hb hG igX12 tyX12 tyX12_ok nmX12 hown hK hS o_c_375 (AF.of k_h0) rfl 27 (by decide) (hG _ mw_1311) rfl (by decide +kernel) rfl rfl (Nat.le_of_ble_eq_true rfl) dX12_goClone_75 (fun H locs o_c_375 hz oq hS => ?_)
        obtain ⟨G_378, eG_378⟩ : ∃ z : Gh, z = gset G_208 127 0 := ⟨_, rfl⟩
        have hH : HT g Ty G_378 H := by rw [eG_378]; exact HT.putN 127 0 hH k_h0 ⟨rfl, t_376, hk_377⟩ o_c_375 oq (Or.inr (Or.inr (Or.inr (Or.inr (Or.inr ⟨by decide, t_376⟩)))))
        have fr_379 : FR [107, 108, 109, 110, 114, 127, 128] [b0, (g.2.2 115), (g.2.2 125), (g.2.2 126)] [106] G G_378 := FR.n fr_211 eG_378 (by decide)
        have u_380 : G_378.1 113 = (G.1 113) := by rw [eG_378]; exact (gs_ne (by decide)).trans u_212
        have u_381 : G_378.1 127 = 0 := by rw [eG_378]; exact gs_eq
        have w_382 : G_378.2.1 b0 = (G.2.1 b0) := by rw [eG_378]; exact w_214
        have w_383 : G_378.2.1 rl = (G.2.1 rl) := by rw [eG_378]; exact w_215
        have w_384 : G_378.2.1 (g.2.2 125) = (G.2.1 (g.2.2 125)) := by rw [eG_378]; exact w_216
        have w_385 : G_378.2.1 (g.2.2 126) = (G.2.1 (g.2.2 126)) := by rw [eG_378]; exact w_217
        have u_386 : G_378.2.2 111 = some rl := by rw [eG_378]; exact u_218
        clear oq hz
        refine lv_aload_n hx hb dX12_goClone_78 rfl (lv_at hl 5 rfl) ?_
        refine lv_bipush (v := 48) hx hb dX12_goClone_79 (by decide) ?_
        refine lv_iload_n hx hb dX12_goClone_81 rfl (lv_at hl 7 rfl) ?_
        refine lv_iadd hx hb dX12_goClone_82 ?_
        refine lv_topi (fun x_387 ex_387 => ?_)
        try rw [← ex_387] at hv
        have rx_387 : rgI (48) (71) x_387 := by rw [ex_387]; exact rg_w (rg_add rl_48 pr2 (by decide) (by decide)) (by decide) (by decide)
        have q_388 : x_369 = x_387 := ex_369.trans ex_387.symm
        subst q_388
        obtain ⟨_, rfl, o_c_389⟩ := hH b0 _ k_b0
        have o_c_389 : va_at g.1 vwCl (b0, .inl (g.2.1 1, 122, .inl (G_378.2.1 b0))) H := o_c_389
        refine hg_iald hx hb hK o_c_389 (rg_in (n := 122) rx_387 (by decide) (by decide)) dX12_goClone_83 ?_
        rw [w_382]
        refine lv_topi (fun x_390 ex_390 => ?_)
        try rw [← ex_390] at hv
        have q_391 : x_371 = x_390 := ex_371.trans ex_390.symm
        subst q_391
        have gq_392 : x_371 = (G.2.1 b0) (48 + a2.toNatClampNeg) := a48 hm0 (G.2.1 b0) ex_369 ex_371
        refine lv_if_eq (tgt := 99) hx hb dX12_goClone_84 (by decide) (fun c_393 => ?_) (fun c_393 => ?_)
        · rw [if_pos c_393] at hv
          refine lv_iconst (v := 0) hx hb dX12_goClone_99 (by decide) ?_
          refine lv_istore (lv' := [(9, .int 0), (8, .int 0), (7, .int 0), (6, .int x_207), (5, .int x_203), (0, .ref h0), (1, .ref b0), (2, .int a1), (3, .int a2), (4, .int a3)]) hx hb dX12_goClone_100 hl (by decide) rfl (fun ls hl => ?_)
          exact L_102 26 H locs G_378 (G.2.1 b0) (G.2.1 (g.2.2 125)) (G.2.1 (g.2.2 126)) x_203 x_207 0 0 0 ls (by rw [u_381]; exact rg_w rl_0 (by decide) (by decide)) fr_379 w_382 w_384 w_385 pr2 pr3 (rg_w rl_0 (by decide) (by decide)) hx_207.1 (by rw [u_381]; exact (LN_i0 hSb fv_368.1 fv_368.2.1 fv_368.2.2 (by rw [← gq_372]; exact c_373))) hx_207.2 (by decide) (lv_sub hl [5, 6, 8, 9, 4, 3, 2, 1, 0] rfl) (by rw [u_381]; exact hv) hH hS
        · rw [if_neg c_393] at hv
          exact absurd (rg_one r_374 rl_0) c_393
      · rw [if_neg c_373] at hv
        refine lv_iload hx hb dX12_goClone_62 (lv_at hl 1 rfl) ?_
        refine lv_if_ne (tgt := 73) hx hb dX12_goClone_64 (by decide) (fun c_394 => ?_) (fun c_394 => ?_)
        · exact absurd rfl c_394
        · refine lv_aload_n hx hb dX12_goClone_67 rfl (lv_at hl 5 rfl) ?_
          refine va_calli (va_runS (As := [.ref b0]) (rest := []) ⟨hx, hb, hml, hown, hts⟩ (c_X12_newGroup l g Ty G_208 H.size b0 k_b0) (cwSx 1 hts hG (gwC mw_1590) mw_88 mw_1588 mw_1589 rfl rfl rfl hd_X12_newGroup ⟨Nat.le_of_ble_eq_true rfl, Nat.le_of_ble_eq_true rfl⟩) ⟨PcT_blind, PcT_pre hK hH⟩ rfl rfl hl.1 rfl (lv_room (Nat.le_of_ble_eq_true rfl)) dX12_goClone_68 ⟨Nat.zero_le _, Nat.zero_le _⟩) hS (fun q _ h => AF.mono hS.1 h) (fun q h => AF.mono hS.1 h) (fun x_395 ux_395 t H locs ht hvm hx_395 hB hz hk hS => ?_)
          obtain ⟨eTx_395, eGx_395⟩ := hx_395
          obtain ⟨G_396, eG_396⟩ : ∃ z, z = ux_395.2 := ⟨_, rfl⟩
          rw [← eG_396] at eGx_395
          obtain ⟨hr_398, hg_399⟩ := eGx_395
          rw [w_214] at hr_398 hg_399
          obtain ⟨f_397, ef_397⟩ : ∃ z : Nat → Int32, z = (F_X12_newGroup (G.2.1 b0)).2 := ⟨_, rfl⟩
          rw [← ef_397] at hg_399
          have fr_400 : FR [107, 108, 109, 110, 114, 127, 128] [b0, (g.2.2 115), (g.2.2 125), (g.2.2 126)] [106] G G_396 := FR.a fr_211 hg_399 (fun b h => h.1)
          have u_401 : G_396.1 113 = (G.1 113) := by rw [hg_399]; exact u_212
          have u_402 : G_396.1 127 = (G.1 127) := by rw [hg_399]; exact u_213
          have w_403 : G_396.2.1 b0 = f_397 := by rw [hg_399]; exact aset_eq
          have w_404 : G_396.2.1 rl = (G.2.1 rl) := by rw [hg_399]; exact (aset_ne (ne_kd krl k_b0 (by decide))).trans w_215
          have w_405 : G_396.2.1 (g.2.2 125) = (G.2.1 (g.2.2 125)) := by rw [hg_399]; exact (aset_ne (ne_kd hmk.2.2.2.2.2.2.2.2.1 k_b0 (by decide))).trans w_216
          have w_406 : G_396.2.1 (g.2.2 126) = (G.2.1 (g.2.2 126)) := by rw [hg_399]; exact (aset_ne (ne_kd hmk.2.2.2.2.2.2.2.2.2.1 k_b0 (by decide))).trans w_217
          have u_407 : G_396.2.2 111 = some rl := by rw [hg_399]; exact u_218
          have hq_408 : F_X12_newGroup (G.2.1 b0) = (x_395, f_397) := Prod.ext hr_398.symm ef_397.symm
          rw [hq_408, tu2_eq] at hv
          have hH : HT g Ty G_396 H := by rw [← ht, ← eTx_395, eG_396]; exact hB
          refine lv_istore (lv' := [(7, .int x_395), (8, .int 0), (6, .int x_207), (5, .int x_203), (0, .ref h0), (1, .ref b0), (2, .int a1), (3, .int a2), (4, .int a3)]) hx hb dX12_goClone_71 hl (by decide) rfl (fun ls hl => ?_)
          refine lv_aload_n hx hb dX12_goClone_73 rfl (lv_at hl 4 rfl) ?_
          refine lv_iconst (v := 0) hx hb dX12_goClone_74 (by decide) ?_
          obtain ⟨_, ⟨rfl, t_410, hk_411⟩, o_c_409⟩ := hH h0 _ k_h0
          refine hg_put (ty := .int) hx hb hG igX12 tyX12 tyX12_ok nmX12 hown hK hS o_c_409 (AF.of k_h0) rfl 27 (by decide) (hG _ mw_1311) rfl (by decide +kernel) rfl rfl (Nat.le_of_ble_eq_true rfl) dX12_goClone_75 (fun H locs o_c_409 hz oq hS => ?_)
          obtain ⟨G_412, eG_412⟩ : ∃ z : Gh, z = gset G_396 127 0 := ⟨_, rfl⟩
          have hH : HT g Ty G_412 H := by rw [eG_412]; exact HT.putN 127 0 hH k_h0 ⟨rfl, t_410, hk_411⟩ o_c_409 oq (Or.inr (Or.inr (Or.inr (Or.inr (Or.inr ⟨by decide, t_410⟩)))))
          have fr_413 : FR [107, 108, 109, 110, 114, 127, 128] [b0, (g.2.2 115), (g.2.2 125), (g.2.2 126)] [106] G G_412 := FR.n fr_400 eG_412 (by decide)
          have u_414 : G_412.1 113 = (G.1 113) := by rw [eG_412]; exact (gs_ne (by decide)).trans u_401
          have u_415 : G_412.1 127 = 0 := by rw [eG_412]; exact gs_eq
          have w_416 : G_412.2.1 b0 = f_397 := by rw [eG_412]; exact w_403
          have w_417 : G_412.2.1 rl = (G.2.1 rl) := by rw [eG_412]; exact w_404
          have w_418 : G_412.2.1 (g.2.2 125) = (G.2.1 (g.2.2 125)) := by rw [eG_412]; exact w_405
          have w_419 : G_412.2.1 (g.2.2 126) = (G.2.1 (g.2.2 126)) := by rw [eG_412]; exact w_406
          have u_420 : G_412.2.2 111 = some rl := by rw [eG_412]; exact u_407
          clear oq hz
          refine lv_aload_n hx hb dX12_goClone_78 rfl (lv_at hl 5 rfl) ?_
          refine lv_bipush (v := 48) hx hb dX12_goClone_79 (by decide) ?_
          refine lv_iload_n hx hb dX12_goClone_81 rfl (lv_at hl 7 rfl) ?_
          refine lv_iadd hx hb dX12_goClone_82 ?_
          refine lv_topi (fun x_421 ex_421 => ?_)
          try rw [← ex_421] at hv
          have rx_421 : rgI (48) (71) x_421 := by rw [ex_421]; exact rg_w (rg_add rl_48 pr2 (by decide) (by decide)) (by decide) (by decide)
          have q_422 : x_369 = x_421 := ex_369.trans ex_421.symm
          subst q_422
          obtain ⟨_, rfl, o_c_423⟩ := hH b0 _ k_b0
          have o_c_423 : va_at g.1 vwCl (b0, .inl (g.2.1 1, 122, .inl (G_412.2.1 b0))) H := o_c_423
          refine hg_iald hx hb hK o_c_423 (rg_in (n := 122) rx_421 (by decide) (by decide)) dX12_goClone_83 ?_
          rw [w_416]
          refine lv_topi (fun x_424 ex_424 => ?_)
          try rw [← ex_424] at hv
          have gq_425 : x_424 = f_397 (48 + a2.toNatClampNeg) := a48 hm0 f_397 ex_369 ex_424
          refine lv_if_eq (tgt := 99) hx hb dX12_goClone_84 (by decide) (fun c_426 => ?_) (fun c_426 => ?_)
          · rw [if_pos c_426] at hv
            have r_427 : rgI (0) (0) x_424 := rg_w (rg_eq rl_0 c_426) (by decide) (by decide)
            refine lv_iconst (v := 0) hx hb dX12_goClone_99 (by decide) ?_
            refine lv_istore (lv' := [(9, .int 0), (7, .int x_395), (8, .int 0), (6, .int x_207), (5, .int x_203), (0, .ref h0), (1, .ref b0), (2, .int a1), (3, .int a2), (4, .int a3)]) hx hb dX12_goClone_100 hl (by decide) rfl (fun ls hl => ?_)
            exact L_102 26 H locs G_412 f_397 (G.2.1 (g.2.2 125)) (G.2.1 (g.2.2 126)) x_203 x_207 x_395 0 0 ls (by rw [u_415]; exact rg_w rl_0 (by decide) (by decide)) fr_413 w_416 w_418 w_419 pr2 pr3 (rg_w rl_0 (by decide) (by decide)) hx_207.1 (absurd (by rw [gq_372, ← ng_48 (thr_l hm0) ef_397, ← gq_425]; exact c_426) c_373) hx_207.2 (by decide) (lv_sub hl [5, 6, 8, 9, 4, 3, 1, 2, 0] rfl) (by rw [u_415]; exact hv) hH hS
          · rw [if_neg c_426] at hv
            refine lv_aload_n hx hb dX12_goClone_87 rfl (lv_at hl 4 rfl) ?_
            refine lv_aload_n hx hb dX12_goClone_88 rfl (lv_at hl 5 rfl) ?_
            refine lv_bipush (v := 48) hx hb dX12_goClone_89 (by decide) ?_
            refine lv_iload_n hx hb dX12_goClone_91 rfl (lv_at hl 7 rfl) ?_
            refine lv_iadd hx hb dX12_goClone_92 ?_
            refine lv_topi (fun x_428 ex_428 => ?_)
            try rw [← ex_428] at hv
            have rx_428 : rgI (48) (71) x_428 := by rw [ex_428]; exact rg_w (rg_add rl_48 pr2 (by decide) (by decide)) (by decide) (by decide)
            have q_429 : x_369 = x_428 := ex_369.trans ex_428.symm
            subst q_429
            refine hg_iald hx hb hK o_c_423 (rg_in (n := 122) rx_428 (by decide) (by decide)) dX12_goClone_93 ?_
            rw [w_416]
            refine lv_topi (fun x_430 ex_430 => ?_)
            try rw [← ex_430] at hv
            have q_431 : x_424 = x_430 := ex_424.trans ex_430.symm
            subst q_431
            have gq_432 : x_424 = f_397 (48 + a2.toNatClampNeg) := a48 hm0 f_397 ex_369 ex_424
            refine lv_iload hx hb dX12_goClone_94 (lv_at hl 0 rfl) ?_
            obtain ⟨_, ⟨rfl, t_434, hk_435⟩, o_c_433⟩ := hH h0 _ k_h0
            refine va_callv (va_runV (As := [.int x_424, .int x_395]) (rest := []) ⟨hx, hb, hml, hown, hts⟩ (c_X12_layNew_x l g Ty G_412 H.size h0 x_424 x_395 k_h0 hLD (by rw [u_415]; exact (show rgI 0 23 (0 : Int32) from rg_w rl_0 (by decide) (by decide)))) (cwV 2 hts (gwV mw_1591 mw_1593 mw_55 mw_88 mw_1594) rfl rfl rfl hv_X12_layNew ⟨Nat.le_of_ble_eq_true rfl, Nat.le_of_ble_eq_true rfl⟩) ⟨PcT_blind, hg_recv hK o_c_433 rfl, PcT_pre hK hH⟩ rfl rfl hl.1 rfl (lv_room (Nat.le_of_ble_eq_true rfl)) dX12_goClone_96 ⟨Nat.zero_le _, Nat.zero_le _⟩) hS (fun q _ h => AF.mono hS.1 h) (fun q h => AF.mono hS.1 h) (fun ux_436 t H locs ht hvm hx_436 hB hz hk hS => ?_)
            obtain ⟨eTx_436, eGx_436⟩ := hx_436
            obtain ⟨G_437, eG_437⟩ : ∃ z, z = ux_436.2 := ⟨_, rfl⟩
            rw [← eG_437] at eGx_436
            obtain ⟨hfr_438, hex_439⟩ := eGx_436
            have fr_440 : FR [107, 108, 109, 110, 114, 127, 128] [b0, (g.2.2 115), (g.2.2 125), (g.2.2 126)] [106] G G_437 := FR.tr fr_413 hfr_438 (by decide) (fun b h => ⟨h.2.2.1, h.2.2.2.1, trivial⟩) (by decide)
            have u_441 : G_437.1 113 = (G.1 113) := (hfr_438.1 113 (by decide)).trans u_414
            have w_442 : G_437.2.1 b0 = f_397 := (hfr_438.2.1 b0 ⟨(ne_kd k_b0 hmk.2.2.2.2.2.2.2.2.1 (by decide)), (ne_kd k_b0 hmk.2.2.2.2.2.2.2.2.2.1 (by decide)), trivial⟩).trans w_416
            have w_443 : G_437.2.1 rl = (G.2.1 rl) := (hfr_438.2.1 rl ⟨(ne_kd krl hmk.2.2.2.2.2.2.2.2.1 (by decide)), (ne_kd krl hmk.2.2.2.2.2.2.2.2.2.1 (by decide)), trivial⟩).trans w_417
            have u_444 : G_437.2.2 111 = some rl := (hfr_438.2.2 111 (by decide)).trans u_420
            obtain ⟨xa_445, xb_446⟩ := hex_439
            obtain ⟨f_447, ef_447⟩ : ∃ z : Nat → Int32, G_437.2.1 (g.2.2 125) = z := ⟨_, rfl⟩
            obtain ⟨f_448, ef_448⟩ : ∃ z : Nat → Int32, G_437.2.1 (g.2.2 126) = z := ⟨_, rfl⟩
            obtain ⟨n_449, en_449⟩ : ∃ z : Int32, G_437.1 127 = z := ⟨_, rfl⟩
            have hq_450 : F_X12_layNew_x (G.2.1 (g.2.2 125)) (G.2.1 (g.2.2 126)) 0 x_424 x_395 = (f_447, f_448, n_449) := by have q := xb_446; rw [w_418, w_419, u_415, ef_447, ef_448, en_449] at q; exact q
            rw [hq_450, tu3_eq] at hv
            obtain ⟨f_451, ef_451⟩ : ∃ z : Nat → Int32, z = upd (G.2.1 (g.2.2 125)) (0 : Int32).toNatClampNeg x_424 := ⟨_, rfl⟩
            have w_454 : G_437.2.1 (g.2.2 125) = f_451 := (xa_445.1).trans (by rw [ef_451, w_418, u_415])
            obtain ⟨f_452, ef_452⟩ : ∃ z : Nat → Int32, z = upd (G.2.1 (g.2.2 126)) (0 : Int32).toNatClampNeg x_395 := ⟨_, rfl⟩
            have w_455 : G_437.2.1 (g.2.2 126) = f_452 := (xa_445.2.1).trans (by rw [ef_452, w_419, u_415])
            obtain ⟨x_453, ex_453⟩ : ∃ z : Int32, z = 0 + 1 := ⟨_, rfl⟩
            have u_456 : G_437.1 127 = x_453 := (xa_445.2.2).trans (by rw [ex_453, u_415])
            have rx_453 : rgI 0 24 x_453 := by rw [ex_453]; exact rg_w (rg_add (show rgI 0 23 (0 : Int32) from rg_w rl_0 (by decide) (by decide)) rl_1 (by decide) (by decide)) (by decide) (by decide)
            try rw [(ef_447).symm.trans (w_454)] at hv
            try rw [(ef_448).symm.trans (w_455)] at hv
            try rw [(en_449).symm.trans (u_456)] at hv
            have hH : HT g Ty G_437 H := by rw [← ht, ← eTx_436, eG_437]; exact hB
            refine lv_iconst (v := 0) hx hb dX12_goClone_99 (by decide) ?_
            refine lv_istore (lv' := [(9, .int 0), (7, .int x_395), (8, .int 0), (6, .int x_207), (5, .int x_203), (0, .ref h0), (1, .ref b0), (2, .int a1), (3, .int a2), (4, .int a3)]) hx hb dX12_goClone_100 hl (by decide) rfl (fun ls hl => ?_)
            exact L_102 26 H locs G_437 f_397 f_451 f_452 x_203 x_207 x_395 0 0 ls (by rw [u_456]; exact rg_w rx_453 (by decide) (by decide)) fr_440 w_442 w_454 w_455 pr2 pr3 (rg_w rl_0 (by decide) (by decide)) hx_207.1 (by rw [u_456]; exact (LN_i2 hSb h1 hB0 fv_368.2.1 hr_398 ef_397 (thr_l hm0) gq_432 (by rw [gq_432, ng_48 (thr_l hm0) ef_397, ← gq_372]; exact c_373) ef_451 ef_452 ex_453)) hx_207.2 (by decide) (lv_sub hl [5, 6, 8, 9, 4, 3, 1, 2, 0] rfl) (by rw [u_456]; exact hv) hH hS

def F_X12_refusesBind_x (r0 : Nat → Int32) (r1 : Nat → Int32) (m113 : Int32) (a1 : Int32) (a2 : Int32) (a3 : Int32) : Int32 := (if (F_X12_isThere r0 a1) = (0 : Int32) then (-1 : Int32) else (if (F_X12_refusesComing_x r0 r1 m113 a2 a3) = (-1 : Int32) then (F_X12_refusesComing_x r0 r1 m113 a2 a3) else (if (F_X12_refusesComing_x r0 r1 m113 a2 a3) = (-2 : Int32) then (F_X12_refusesComing_x r0 r1 m113 a2 a3) else (if (r0 (Int32.toNatClampNeg ((96 : Int32) + a1))) = (1 : Int32) then (-3 : Int32) else (F_X12_refusesComing_x r0 r1 m113 a2 a3)))))
set_option maxHeartbeats 4000000 in
set_option maxRecDepth 100000 in
theorem c_X12_refusesBind_x (l : Launch) (g : Gx) (Ty : TyM) (G : Gh) (sz : Nat) (h0 : Nat) (b0 : Nat) (a1 : Int32) (a2 : Int32) (a3 : Int32) (k_h0 : Ty h0 = some (22, 0)) (k_b0 : Ty b0 = some (30, 122)) (ρ : Nat → Nat) (hT : P1 (G.2.1 b0) ρ) (rl : Nat) (krl : Ty rl = some (31, 40)) (hr1 : G.2.2 111 = some rl) (hr3 : rgI 0 40 (G.1 113)) : Met l yX12_refusesBind (wsG yX12_refusesBind cX12_refusesBind 6 (some .int)) ({ frames := 341, cells := 0, slots := 0, locals := 7993 }) (PcT g Ty G sz [.ref h0, .ref b0, .int a1, .int a2, .int a3]) (QwI g Ty sz (fun r u => (rgI (-9) (0) r ∧ (r = 0 → (thr (G.2.1 b0) a1 ∧ COM (G.2.1 b0) (G.2.1 rl) (G.1 113) a2 a3))) ∧ u.1 = Ty ∧ FR [107, 108, 109, 110, 114] [(g.2.2 115)] [106] G u.2 ∧ F_X12_refusesBind_x (G.2.1 b0) (G.2.1 rl) (G.1 113) a1 a2 a3 = r)) 0 0 (AF Ty sz) := by
  refine Met.ofW (cc := cX12_refusesBind) (maxL := 6) (ret := (some .int)) (by decide) rfl ?_
  intro p e s m args below meth c s₁ B hml hv
  obtain ⟨rfl, hsz, hK, hH⟩ := hv
  subst hsz
  have hx := B.exec
  have hb := B.bytes
  have hr := B.returns
  have hts := atoms_spec (ws := (wsG yX12_refusesBind cX12_refusesBind 6 (some .int))) B.pre
  have hG : ∀ w ∈ GW, w.before ([.ref h0, .ref b0, .int a1, .int a2, .int a3] : List Value).toArray s = true := fun w h => hts w (List.mem_cons_of_mem _ h)
  have hown : s.vm.findClass RX12 = some m.cls := findClass_of_methodNamed B.named
  have hlocks := B.notSynchronized
  have hl := lv_entry [.ref h0, .ref b0, .int a1, .int a2, .int a3] (n := 6) (Nat.le_of_ble_eq_true rfl)
  rw [lg_entry_eq]
  generalize (lg_sl [.ref h0, .ref b0, .int a1, .int a2, .int a3] ++ List.replicate (6 - (lg_sl [.ref h0, .ref b0, .int a1, .int a2, .int a3]).length) Slot.unset).toArray = ls at hl ⊢
  have hl : lv_has ls 6 [(0, .ref h0), (1, .ref b0), (2, .int a1), (3, .int a2), (4, .int a3)] := hl
  have hmk : mdK g Ty := mdk_of hH k_h0
  have hv : (if (F_X12_isThere (G.2.1 b0) a1) = (0 : Int32) then (-1 : Int32) else (if (F_X12_refusesComing_x (G.2.1 b0) (G.2.1 rl) (G.1 113) a2 a3) = (-1 : Int32) then (F_X12_refusesComing_x (G.2.1 b0) (G.2.1 rl) (G.1 113) a2 a3) else (if (F_X12_refusesComing_x (G.2.1 b0) (G.2.1 rl) (G.1 113) a2 a3) = (-2 : Int32) then (F_X12_refusesComing_x (G.2.1 b0) (G.2.1 rl) (G.1 113) a2 a3) else (if ((G.2.1 b0) (Int32.toNatClampNeg ((96 : Int32) + a1))) = (1 : Int32) then (-3 : Int32) else (F_X12_refusesComing_x (G.2.1 b0) (G.2.1 rl) (G.1 113) a2 a3))))) = F_X12_refusesBind_x (G.2.1 b0) (G.2.1 rl) (G.1 113) a1 a2 a3 := rfl
  have hS : va_S (AF Ty s.heap.size) s.heap s.heap [] := va_S.rf
  refine lv_aload_n hx hb dX12_refusesBind_0 rfl (lv_at hl 1 rfl) ?_
  refine lv_iload_n hx hb dX12_refusesBind_1 rfl (lv_at hl 2 rfl) ?_
  refine vp_callSi (W.runS (As := [.ref b0, .int a1]) (rest := []) ⟨hx, hb, hml, hown, hts⟩ (c_X12_isThere l g Ty G b0 a1 k_b0) (cwSx 2 hts hG (gwC mw_1520) mw_88 mw_1518 mw_1519 rfl rfl rfl hd_X12_isThere ⟨Nat.le_of_ble_eq_true rfl, Nat.le_of_ble_eq_true rfl⟩) ⟨PcH_blind, PcH_pre hK hH⟩ rfl rfl hl.1 rfl (lv_room (Nat.le_of_ble_eq_true rfl)) dX12_refusesBind_2 ⟨Nat.zero_le _, Nat.zero_le _⟩) (fun x_1 hx_1 => ?_)
  have rx_1 : rgI (0) (1) x_1 := hx_1.1
  try rw [← hx_1.2.2] at hv
  try rw [← hx_1.2.2] at hv
  refine lv_if_ne (tgt := 10) hx hb dX12_refusesBind_5 (by decide) (fun c_2 => ?_) (fun c_2 => ?_)
  · rw [if_neg c_2] at hv
    have th_3 : thr (G.2.1 b0) a1 := F_isThere_thr (by rw [← hx_1.2.2]; exact c_2)
    have r_4 : rgI (1) (1) x_1 := rg_w (rg_neL rx_1 rl_0 c_2) (by decide) (by decide)
    have r_5 : rgI (0) (23) a1 := rg_w (hx_1.2.1.resolve_left c_2) (by decide) (by decide)
    refine lv_aload_n hx hb dX12_refusesBind_10 rfl (lv_at hl 0 rfl) ?_
    refine lv_aload_n hx hb dX12_refusesBind_11 rfl (lv_at hl 1 rfl) ?_
    refine lv_iload_n hx hb dX12_refusesBind_12 rfl (lv_at hl 3 rfl) ?_
    refine lv_iload hx hb dX12_refusesBind_13 (lv_at hl 4 rfl) ?_
    obtain ⟨_, ⟨rfl, t_7, hk_8⟩, o_c_6⟩ := hH h0 _ k_h0
    refine va_calli (va_runV (As := [.ref b0, .int a2, .int a3]) (rest := []) ⟨hx, hb, hml, hown, hts⟩ (c_X12_refusesComing_x l g Ty G s.heap.size h0 b0 a2 a3 k_h0 k_b0 ρ hT rl krl hr1 hr3) (cwV 3 hts (gwV mw_1546 mw_1548 mw_50 mw_88 mw_1549) rfl rfl rfl hv_X12_refusesComing ⟨Nat.le_of_ble_eq_true rfl, Nat.le_of_ble_eq_true rfl⟩) ⟨PcT_blind, hg_recv hK o_c_6 rfl, PcT_pre hK hH⟩ rfl rfl hl.1 rfl (lv_room (Nat.le_of_ble_eq_true rfl)) dX12_refusesBind_15 ⟨Nat.zero_le _, Nat.zero_le _⟩) hS (fun q _ h => AF.mono hS.1 h) (fun q h => AF.mono hS.1 h) (fun x_9 ux_9 t H locs ht hvm hx_9 hB hz hk hS => ?_)
    obtain ⟨hx_9, fx_9⟩ := hx_9
    obtain ⟨eTx_9, eGx_9⟩ := fx_9
    obtain ⟨G_10, eG_10⟩ : ∃ z, z = ux_9.2 := ⟨_, rfl⟩
    rw [← eG_10] at eGx_9
    obtain ⟨hfr_11, hex_12⟩ := eGx_9
    have fr_13 : FR [107, 108, 109, 110, 114] [(g.2.2 115)] [106] G G_10 := FR.tr FR.rf hfr_11 (by decide) (fun b h => ⟨h.1, trivial⟩) (by decide)
    have u_14 : G_10.1 113 = (G.1 113) := (hfr_11.1 113 (by decide))
    have w_15 : G_10.2.1 b0 = (G.2.1 b0) := (hfr_11.2.1 b0 ⟨(ne_kd k_b0 hmk.2.2.2.1 (by decide)), trivial⟩)
    have w_16 : G_10.2.1 rl = (G.2.1 rl) := (hfr_11.2.1 rl ⟨(ne_kd krl hmk.2.2.2.1 (by decide)), trivial⟩)
    have u_17 : G_10.2.2 111 = some rl := (hfr_11.2.2 111 (by decide)).trans hr1
    have hq_18 : F_X12_refusesComing_x (G.2.1 b0) (G.2.1 rl) (G.1 113) a2 a3 = x_9 := by have q := hex_12; exact q
    try rw [hq_18] at hv
    have hH : HT g Ty G_10 H := by rw [← ht, ← eTx_9, eG_10]; exact hB
    have rx_9 : rgI (-9) (0) x_9 := hx_9.1
    refine lv_istore (lv' := [(5, .int x_9), (0, .ref h0), (1, .ref b0), (2, .int a1), (3, .int a2), (4, .int a3)]) hx hb dX12_refusesBind_18 hl (by decide) rfl (fun ls hl => ?_)
    refine lv_iload hx hb dX12_refusesBind_20 (lv_at hl 0 rfl) ?_
    refine lv_iconst (v := (-1)) hx hb dX12_refusesBind_22 (by decide) ?_
    refine lv_icmp_eq (tgt := 33) hx hb dX12_refusesBind_23 (by decide) (fun c_19 => ?_) (fun c_19 => ?_)
    · rw [if_pos c_19] at hv
      have r_20 : rgI (-1) (-1) x_9 := rg_w (rg_eq rl_m1 c_19) (by decide) (by decide)
      refine lv_iload hx hb dX12_refusesBind_33 (lv_at hl 0 rfl) ?_
      refine lv_goto (tgt := 55) hx hb dX12_refusesBind_35 (by decide) ?_
      exact W.iret hx hb hr (fun t ht hWm => ⟨⟨x_9, (Ty, G_10), rfl, ⟨⟨rg_w r_20 (by decide) (by decide), (fun q => ⟨th_3, hx_9.2 q⟩)⟩, ⟨rfl, ⟨fr_13, hv.symm⟩⟩⟩, by show HT g Ty G_10 t.heap; rw [ht]; exact hH⟩, hS.F ht⟩) hS.2.2 dX12_refusesBind_55
    · rw [if_neg c_19] at hv
      refine lv_iload hx hb dX12_refusesBind_26 (lv_at hl 0 rfl) ?_
      refine lv_bipush (v := (-2)) hx hb dX12_refusesBind_28 (by decide) ?_
      refine lv_icmp_ne (tgt := 38) hx hb dX12_refusesBind_30 (by decide) (fun c_21 => ?_) (fun c_21 => ?_)
      · rw [if_neg c_21] at hv
        refine lv_aload_n hx hb dX12_refusesBind_38 rfl (lv_at hl 2 rfl) ?_
        refine lv_bipush (v := 96) hx hb dX12_refusesBind_39 (by decide) ?_
        refine lv_iload_n hx hb dX12_refusesBind_41 rfl (lv_at hl 3 rfl) ?_
        refine lv_iadd hx hb dX12_refusesBind_42 ?_
        refine lv_topi (fun x_22 ex_22 => ?_)
        try rw [← ex_22] at hv
        have rx_22 : rgI (96) (119) x_22 := by rw [ex_22]; exact rg_w (rg_add rl_96 r_5 (by decide) (by decide)) (by decide) (by decide)
        obtain ⟨_, rfl, o_c_23⟩ := hH b0 _ k_b0
        have o_c_23 : va_at g.1 vwCl (b0, .inl (g.2.1 1, 122, .inl (G_10.2.1 b0))) H := o_c_23
        refine hg_iald hx hb hK o_c_23 (rg_in (n := 122) rx_22 (by decide) (by decide)) dX12_refusesBind_43 ?_
        rw [w_15]
        refine lv_topi (fun x_24 ex_24 => ?_)
        try rw [← ex_24] at hv
        refine lv_iconst (v := 1) hx hb dX12_refusesBind_44 (by decide) ?_
        refine lv_icmp_ne (tgt := 53) hx hb dX12_refusesBind_45 (by decide) (fun c_25 => ?_) (fun c_25 => ?_)
        · rw [if_neg c_25] at hv
          refine lv_iload hx hb dX12_refusesBind_53 (lv_at hl 0 rfl) ?_
          exact W.iret hx hb hr (fun t ht hWm => ⟨⟨x_9, (Ty, G_10), rfl, ⟨⟨rg_w rx_9 (by decide) (by decide), (fun q => ⟨th_3, hx_9.2 q⟩)⟩, ⟨rfl, ⟨fr_13, hv.symm⟩⟩⟩, by show HT g Ty G_10 t.heap; rw [ht]; exact hH⟩, hS.F ht⟩) hS.2.2 dX12_refusesBind_55
        · rw [if_pos c_25] at hv
          have r_26 : rgI (1) (1) x_24 := rg_w (rg_eq rl_1 c_25) (by decide) (by decide)
          refine lv_bipush (v := (-3)) hx hb dX12_refusesBind_48 (by decide) ?_
          refine lv_goto (tgt := 55) hx hb dX12_refusesBind_50 (by decide) ?_
          exact W.iret hx hb hr (fun t ht hWm => ⟨⟨(-3), (Ty, G_10), rfl, ⟨⟨rg_w rl_m3 (by decide) (by decide), (fun q => absurd q (by decide))⟩, ⟨rfl, ⟨fr_13, hv.symm⟩⟩⟩, by show HT g Ty G_10 t.heap; rw [ht]; exact hH⟩, hS.F ht⟩) hS.2.2 dX12_refusesBind_55
      · rw [if_pos c_21] at hv
        have r_27 : rgI (-2) (-2) x_9 := rg_w (rg_eq rl_m2 c_21) (by decide) (by decide)
        refine lv_iload hx hb dX12_refusesBind_33 (lv_at hl 0 rfl) ?_
        refine lv_goto (tgt := 55) hx hb dX12_refusesBind_35 (by decide) ?_
        exact W.iret hx hb hr (fun t ht hWm => ⟨⟨x_9, (Ty, G_10), rfl, ⟨⟨rg_w r_27 (by decide) (by decide), (fun q => ⟨th_3, hx_9.2 q⟩)⟩, ⟨rfl, ⟨fr_13, hv.symm⟩⟩⟩, by show HT g Ty G_10 t.heap; rw [ht]; exact hH⟩, hS.F ht⟩) hS.2.2 dX12_refusesBind_55
  · rw [if_pos c_2] at hv
    have r_28 : rgI (0) (0) x_1 := rg_w (rg_eq rl_0 c_2) (by decide) (by decide)
    refine lv_iconst (v := (-1)) hx hb dX12_refusesBind_8 (by decide) ?_
    exact W.iret hx hb hr (fun t ht hWm => ⟨⟨(-1), (Ty, G), rfl, ⟨⟨rg_w rl_m1 (by decide) (by decide), (fun q => absurd q (by decide))⟩, ⟨rfl, ⟨FR.rf, hv.symm⟩⟩⟩, by show HT g Ty G t.heap; rw [ht]; exact hH⟩, hS.F ht⟩) hS.2.2 dX12_refusesBind_9

def F_X12_goersOf_x_13 : Nat → Int32 → Int32 → Int32 → Int32 → Int32 → (Nat → Int32) → (Nat → Int32) → Int32 → Int32
  | 0, _, _, _, y5, _, _, _, _ => y5
  | n + 1, y2, y3, y4, y5, y6, yr0, yr1, yn113 => (if (24 : Int32) ≤ y6 then y5 else (if (F_X12_has y4 y6) = (0 : Int32) then (F_X12_goersOf_x_13 n y2 y3 y4 y5 (y6 + (1 : Int32)) yr0 yr1 yn113) else (if (F_X12_atOf yr0 y6 y3) = (24 : Int32) then (F_X12_goersOf_x_13 n y2 y3 y4 y5 (y6 + (1 : Int32)) yr0 yr1 yn113) else (if (F_X12_childrenOf yr0 (F_X12_atOf yr0 y6 y3)) = (0 : Int32) then (if y6 = y2 then (F_X12_goersOf_x_13 n y2 y3 y4 (y5 ||| ((1 : Int32) <<< ((F_X12_atOf yr0 y6 y3) &&& 31))) (y6 + (1 : Int32)) yr0 yr1 yn113) else (if (LetF yr0 yr1 yn113 y6 y3) = (0 : Int32) then (F_X12_goersOf_x_13 n y2 y3 y4 y5 (y6 + (1 : Int32)) yr0 yr1 yn113) else (F_X12_goersOf_x_13 n y2 y3 y4 (y5 ||| ((1 : Int32) <<< ((F_X12_atOf yr0 y6 y3) &&& 31))) (y6 + (1 : Int32)) yr0 yr1 yn113))) else (F_X12_goersOf_x_13 n y2 y3 y4 y5 (y6 + (1 : Int32)) yr0 yr1 yn113)))))
def F_X12_goersOf_x (r0 : Nat → Int32) (r1 : Nat → Int32) (m113 : Int32) (a1 : Int32) (a2 : Int32) : Int32 := (F_X12_goersOf_x_13 26 a1 a2 (F_X12_spreadOf r0 a1) (0 : Int32) (0 : Int32) r0 r1 m113)
set_option maxHeartbeats 4000000 in
set_option maxRecDepth 100000 in
theorem c_X12_goersOf_x (l : Launch) (g : Gx) (Ty : TyM) (G : Gh) (sz : Nat) (h0 : Nat) (b0 : Nat) (a1 : Int32) (a2 : Int32) (k_h0 : Ty h0 = some (22, 0)) (k_b0 : Ty b0 = some (30, 122)) (ρ : Nat → Nat) (hT : P1 (G.2.1 b0) ρ) (hm0 : thr (G.2.1 b0) a1) (rl : Nat) (krl : Ty rl = some (31, 40)) (hr1 : G.2.2 111 = some rl) (hr3 : rgI 0 40 (G.1 113)) : Met l yX12_goersOf (wsG yX12_goersOf cX12_goersOf 8 (some .int)) ({ frames := 339, cells := 0, slots := 0, locals := 7944 }) (PcT g Ty G sz [.ref h0, .ref b0, .int a1, .int a2]) (QwI g Ty sz (fun r u => ((GB (G.2.1 b0) r)) ∧ u.1 = Ty ∧ FR [107, 108, 109, 110, 114] [(g.2.2 115)] [106] G u.2 ∧ F_X12_goersOf_x (G.2.1 b0) (G.2.1 rl) (G.1 113) a1 a2 = r)) 0 0 (AF Ty sz) := by
  refine Met.ofW (cc := cX12_goersOf) (maxL := 8) (ret := (some .int)) (by decide) rfl ?_
  intro p e s m args below meth c s₁ B hml hv
  obtain ⟨rfl, hsz, hK, hH⟩ := hv
  subst hsz
  have hx := B.exec
  have hb := B.bytes
  have hr := B.returns
  have hts := atoms_spec (ws := (wsG yX12_goersOf cX12_goersOf 8 (some .int))) B.pre
  have hG : ∀ w ∈ GW, w.before ([.ref h0, .ref b0, .int a1, .int a2] : List Value).toArray s = true := fun w h => hts w (List.mem_cons_of_mem _ h)
  have hown : s.vm.findClass RX12 = some m.cls := findClass_of_methodNamed B.named
  have hlocks := B.notSynchronized
  have hl := lv_entry [.ref h0, .ref b0, .int a1, .int a2] (n := 8) (Nat.le_of_ble_eq_true rfl)
  rw [lg_entry_eq]
  generalize (lg_sl [.ref h0, .ref b0, .int a1, .int a2] ++ List.replicate (8 - (lg_sl [.ref h0, .ref b0, .int a1, .int a2]).length) Slot.unset).toArray = ls at hl ⊢
  have hl : lv_has ls 8 [(0, .ref h0), (1, .ref b0), (2, .int a1), (3, .int a2)] := hl
  have hmk : mdK g Ty := mdk_of hH k_h0
  have hv : (F_X12_goersOf_x_13 26 a1 a2 (F_X12_spreadOf (G.2.1 b0) a1) (0 : Int32) (0 : Int32) (G.2.1 b0) (G.2.1 rl) (G.1 113)) = F_X12_goersOf_x (G.2.1 b0) (G.2.1 rl) (G.1 113) a1 a2 := rfl
  have hS : va_S (AF Ty s.heap.size) s.heap s.heap [] := va_S.rf
  have L_13 : ∀ (n_13 : Nat) (H : Heap) (locs : List Loc) (G_13 : Gh) (y4_13 : Int32) (y5_13 : Int32) (y6_13 : Int32) (ls : Array Slot), FR [107, 108, 109, 110, 114] [(g.2.2 115)] [106] G G_13 → rgI (0) (24) y6_13 → y4_13 = F_X12_spreadOf (G.2.1 b0) a1 → SB (G.2.1 b0) y4_13 → GB (G.2.1 b0) y5_13 → (24 - (y6_13).toInt).toNat < n_13 → lv_has ls 8 [(0, .ref h0), (1, .ref b0), (2, .int a1), (3, .int a2), (4, .int y4_13), (5, .int y5_13), (6, .int y6_13)] → (F_X12_goersOf_x_13 n_13 a1 a2 y4_13 y5_13 y6_13 (G.2.1 b0) (G.2.1 rl) (G.1 113)) = F_X12_goersOf_x (G.2.1 b0) (G.2.1 rl) (G.1 113) a1 a2 → HT g Ty G_13 H → va_S (AF Ty s.heap.size) s.heap H locs → Wm p l e (wsG yX12_goersOf cX12_goersOf 8 (some .int)) ({ frames := 339, cells := 0, slots := 0, locals := 7944 }) s m [.ref h0, .ref b0, .int a1, .int a2] below meth c H locs (0) (0) (QwI g Ty s.heap.size (fun r u => ((GB (G.2.1 b0) r)) ∧ u.1 = Ty ∧ FR [107, 108, 109, 110, 114] [(g.2.2 115)] [106] G u.2 ∧ F_X12_goersOf_x (G.2.1 b0) (G.2.1 rl) (G.1 113) a1 a2 = r)) 0 0 (AF Ty s.heap.size) (F0 m 13 ls []) := by
    intro n_13
    induction n_13 with
    | zero => intro H locs G_13 y4_13 y5_13 y6_13 ls frL_13 ry6_13 hi0_13 hi1_13 hi2_13 hm; exact absurd hm (Nat.not_lt_zero _)
    | succ n_13 ih_13 =>
      intro H locs G_13 y4_13 y5_13 y6_13 ls frL_13 ry6_13 hi0_13 hi1_13 hi2_13 hm_13 hl hv hH hS
      rw [F_X12_goersOf_x_13] at hv
      refine lv_iload hx hb dX12_goersOf_13 (lv_at hl 6 rfl) ?_
      refine lv_bipush (v := 24) hx hb dX12_goersOf_15 (by decide) ?_
      refine lv_icmp_ge (tgt := 90) hx hb dX12_goersOf_17 (by decide) (fun c_1 => ?_) (fun c_1 => ?_)
      · rw [if_pos c_1] at hv
        have r_2 : rgI (24) (24) y6_13 := rg_w (rg_leR rl_24 ry6_13 c_1) (by decide) (by decide)
        refine lv_iload hx hb dX12_goersOf_90 (lv_at hl 5 rfl) ?_
        exact W.iret hx hb hr (fun t ht hWm => ⟨⟨y5_13, (Ty, G_13), rfl, ⟨hi2_13, ⟨rfl, ⟨frL_13, hv.symm⟩⟩⟩, by show HT g Ty G_13 t.heap; rw [ht]; exact hH⟩, hS.F ht⟩) hS.2.2 dX12_goersOf_92
      · rw [if_neg c_1] at hv
        have r_3 : rgI (0) (23) y6_13 := rg_w (rg_ltL ry6_13 rl_24 (nle_lt c_1)) (by decide) (by decide)
        refine lv_iload hx hb dX12_goersOf_20 (lv_at hl 4 rfl) ?_
        refine lv_iload hx hb dX12_goersOf_22 (lv_at hl 6 rfl) ?_
        refine vp_callSi (W.runS (As := [.int y4_13, .int y6_13]) (rest := []) ⟨hx, hb, hml, hown, hts⟩ (c_X12_has l g Ty G_13 y4_13 y6_13 ) (cwSx 2 hts hG (gwC mw_1563) mw_88 mw_1561 mw_1562 rfl rfl rfl hd_X12_has ⟨Nat.le_of_ble_eq_true rfl, Nat.le_of_ble_eq_true rfl⟩) ⟨PcH_blind, PcH_pre hK hH⟩ rfl rfl hl.1 rfl (lv_room (Nat.le_of_ble_eq_true rfl)) dX12_goersOf_24 ⟨Nat.zero_le _, Nat.zero_le _⟩) (fun x_4 hx_4 => ?_)
        have rx_4 : rgI (0) (1) x_4 := hx_4.1
        try rw [← hx_4.2] at hv
        try rw [← hx_4.2] at hv
        refine lv_if_ne (tgt := 33) hx hb dX12_goersOf_27 (by decide) (fun c_5 => ?_) (fun c_5 => ?_)
        · rw [if_neg c_5] at hv
          have r_6 : rgI (1) (1) x_4 := rg_w (rg_neL rx_4 rl_0 c_5) (by decide) (by decide)
          have hb_7 : bt y4_13 (y6_13 : Int32).toNatClampNeg = true := has_1 (rg_w r_3 (by decide) (by decide)) (by rw [← hx_4.2]; exact c_5)
          refine lv_aload_n hx hb dX12_goersOf_33 rfl (lv_at hl 1 rfl) ?_
          refine lv_iload hx hb dX12_goersOf_34 (lv_at hl 6 rfl) ?_
          refine lv_iload_n hx hb dX12_goersOf_36 rfl (lv_at hl 3 rfl) ?_
          refine vp_callSi (W.runS (As := [.ref b0, .int y6_13, .int a2]) (rest := []) ⟨hx, hb, hml, hown, hts⟩ (c_X12_atOf l g Ty G_13 b0 y6_13 a2 k_b0) (cwSx 3 hts hG (gwC mw_1509) mw_88 mw_1507 mw_1508 rfl rfl rfl hd_X12_atOf ⟨Nat.le_of_ble_eq_true rfl, Nat.le_of_ble_eq_true rfl⟩) ⟨PcH_blind, PcH_pre hK hH⟩ rfl rfl hl.1 rfl (lv_room (Nat.le_of_ble_eq_true rfl)) dX12_goersOf_37 ⟨Nat.zero_le _, Nat.zero_le _⟩) (fun x_8 hx_8 => ?_)
          have rx_8 : rgI (1) (24) x_8 := hx_8.1
          try rw [← hx_8.2] at hv
          have ex_9 : x_8 = F_X12_atOf (G.2.1 b0) y6_13 a2 := by rw [← (frL_13.2.1 b0 ⟨(ne_kd k_b0 hmk.2.2.2.1 (by decide)), trivial⟩)]; exact hx_8.2
          try rw [← ex_9] at hv
          refine lv_istore (lv' := [(7, .int x_8), (0, .ref h0), (1, .ref b0), (2, .int a1), (3, .int a2), (4, .int y4_13), (5, .int y5_13), (6, .int y6_13)]) hx hb dX12_goersOf_40 hl (by decide) rfl (fun ls hl => ?_)
          refine lv_iload hx hb dX12_goersOf_42 (lv_at hl 0 rfl) ?_
          refine lv_bipush (v := 24) hx hb dX12_goersOf_44 (by decide) ?_
          refine lv_icmp_eq (tgt := 84) hx hb dX12_goersOf_46 (by decide) (fun c_10 => ?_) (fun c_10 => ?_)
          · rw [if_pos c_10] at hv
            have r_11 : rgI (24) (24) x_8 := rg_w (rg_eq rl_24 c_10) (by decide) (by decide)
            obtain ⟨x_12, ex_12⟩ : ∃ y : Int32, y = y6_13 + 1 := ⟨_, rfl⟩
            try rw [← ex_12] at hv
            have rx_12 : rgI (1) (24) x_12 := by rw [ex_12]; exact rg_w (rg_add r_3 rl_1 (by decide) (by decide)) (by decide) (by decide)
            have qx_12 : x_12.toInt = (y6_13 : Int32).toInt + 1 := by rw [ex_12]; exact rg_addE r_3 rl_1 (by decide) (by decide)
            refine lv_iinc (v := x_12) (lv' := [(6, .int x_12), (7, .int x_8), (0, .ref h0), (1, .ref b0), (2, .int a1), (3, .int a2), (4, .int y4_13), (5, .int y5_13)]) hx hb dX12_goersOf_84 hl (k := 7) rfl (by rw [ex_12]; rfl) (by decide) rfl (fun ls hl => ?_)
            refine lv_goto (tgt := 13) hx hb dX12_goersOf_87 (by decide) ?_
            exact ih_13 H locs G_13 y4_13 y5_13 x_12 ls frL_13 (rg_w rx_12 (by decide) (by decide)) hi0_13 hi1_13 hi2_13 (by have h1 := qx_12; have h2 := r_3.1; have h3 := r_3.2; have h4 := hm_13; omega) (lv_sub hl [2, 3, 4, 5, 6, 7, 0] rfl) hv hH hS
          · rw [if_neg c_10] at hv
            have r_13 : rgI (1) (23) x_8 := rg_w (rg_neR rx_8 rl_24 c_10) (by decide) (by decide)
            refine lv_aload_n hx hb dX12_goersOf_49 rfl (lv_at hl 2 rfl) ?_
            refine lv_iload hx hb dX12_goersOf_50 (lv_at hl 0 rfl) ?_
            refine vp_callSi (W.runS (As := [.ref b0, .int x_8]) (rest := []) ⟨hx, hb, hml, hown, hts⟩ (c_X12_childrenOf l g Ty G_13 b0 x_8 k_b0) (cwSx 2 hts hG (gwC mw_1576) mw_88 mw_1574 mw_1575 rfl rfl rfl hd_X12_childrenOf ⟨Nat.le_of_ble_eq_true rfl, Nat.le_of_ble_eq_true rfl⟩) ⟨PcH_blind, PcH_pre hK hH⟩ rfl rfl hl.1 rfl (lv_room (Nat.le_of_ble_eq_true rfl)) dX12_goersOf_52 ⟨Nat.zero_le _, Nat.zero_le _⟩) (fun x_14 hx_14 => ?_)
            try rw [← hx_14] at hv
            have ex_15 : x_14 = F_X12_childrenOf (G.2.1 b0) x_8 := by rw [← (frL_13.2.1 b0 ⟨(ne_kd k_b0 hmk.2.2.2.1 (by decide)), trivial⟩)]; exact hx_14
            try rw [← ex_15] at hv
            refine lv_if_ne (tgt := 84) hx hb dX12_goersOf_55 (by decide) (fun c_16 => ?_) (fun c_16 => ?_)
            · rw [if_neg c_16] at hv
              obtain ⟨x_17, ex_17⟩ : ∃ y : Int32, y = y6_13 + 1 := ⟨_, rfl⟩
              try rw [← ex_17] at hv
              have rx_17 : rgI (1) (24) x_17 := by rw [ex_17]; exact rg_w (rg_add r_3 rl_1 (by decide) (by decide)) (by decide) (by decide)
              have qx_17 : x_17.toInt = (y6_13 : Int32).toInt + 1 := by rw [ex_17]; exact rg_addE r_3 rl_1 (by decide) (by decide)
              refine lv_iinc (v := x_17) (lv' := [(6, .int x_17), (7, .int x_8), (0, .ref h0), (1, .ref b0), (2, .int a1), (3, .int a2), (4, .int y4_13), (5, .int y5_13)]) hx hb dX12_goersOf_84 hl (k := 7) rfl (by rw [ex_17]; rfl) (by decide) rfl (fun ls hl => ?_)
              refine lv_goto (tgt := 13) hx hb dX12_goersOf_87 (by decide) ?_
              exact ih_13 H locs G_13 y4_13 y5_13 x_17 ls frL_13 (rg_w rx_17 (by decide) (by decide)) hi0_13 hi1_13 hi2_13 (by have h1 := qx_17; have h2 := r_3.1; have h3 := r_3.2; have h4 := hm_13; omega) (lv_sub hl [2, 3, 4, 5, 6, 7, 0] rfl) hv hH hS
            · rw [if_pos c_16] at hv
              have r_18 : rgI (0) (0) x_14 := rg_w (rg_eq rl_0 c_16) (by decide) (by decide)
              refine lv_iload hx hb dX12_goersOf_58 (lv_at hl 7 rfl) ?_
              refine lv_iload_n hx hb dX12_goersOf_60 rfl (lv_at hl 3 rfl) ?_
              refine lv_icmp_eq (tgt := 75) hx hb dX12_goersOf_61 (by decide) (fun c_19 => ?_) (fun c_19 => ?_)
              · rw [if_pos c_19] at hv
                refine lv_iload hx hb dX12_goersOf_75 (lv_at hl 6 rfl) ?_
                refine lv_iconst (v := 1) hx hb dX12_goersOf_77 (by decide) ?_
                refine lv_iload hx hb dX12_goersOf_78 (lv_at hl 0 rfl) ?_
                refine lv_ishl hx hb dX12_goersOf_80 ?_
                refine lv_topi (fun x_20 ex_20 => ?_)
                try rw [← ex_20] at hv
                refine lv_ior hx hb dX12_goersOf_81 ?_
                refine lv_topi (fun x_21 ex_21 => ?_)
                try rw [← ex_21] at hv
                refine lv_istore (lv' := [(5, .int x_21), (7, .int x_8), (0, .ref h0), (1, .ref b0), (2, .int a1), (3, .int a2), (4, .int y4_13), (6, .int y6_13)]) hx hb dX12_goersOf_82 hl (by decide) rfl (fun ls hl => ?_)
                obtain ⟨x_22, ex_22⟩ : ∃ y : Int32, y = y6_13 + 1 := ⟨_, rfl⟩
                try rw [← ex_22] at hv
                have rx_22 : rgI (1) (24) x_22 := by rw [ex_22]; exact rg_w (rg_add r_3 rl_1 (by decide) (by decide)) (by decide) (by decide)
                have qx_22 : x_22.toInt = (y6_13 : Int32).toInt + 1 := by rw [ex_22]; exact rg_addE r_3 rl_1 (by decide) (by decide)
                refine lv_iinc (v := x_22) (lv' := [(6, .int x_22), (5, .int x_21), (7, .int x_8), (0, .ref h0), (1, .ref b0), (2, .int a1), (3, .int a2), (4, .int y4_13)]) hx hb dX12_goersOf_84 hl (k := 7) rfl (by rw [ex_22]; rfl) (by decide) rfl (fun ls hl => ?_)
                refine lv_goto (tgt := 13) hx hb dX12_goersOf_87 (by decide) ?_
                exact ih_13 H locs G_13 y4_13 x_21 x_22 ls frL_13 (rg_w rx_22 (by decide) (by decide)) hi0_13 hi1_13 (GB_s hi2_13 ex_9 c_10 (by rw [← ex_15]; exact c_16) ex_20 ex_21) (by have h1 := qx_22; have h2 := r_3.1; have h3 := r_3.2; have h4 := hm_13; omega) (lv_sub hl [3, 4, 5, 6, 7, 1, 0] rfl) hv hH hS
              · rw [if_neg c_19] at hv
                have th_23 : thr (G.2.1 b0) y6_13 := SB.th hi1_13 r_3 hb_7
                refine lv_aload_n hx hb dX12_goersOf_64 rfl (lv_at hl 1 rfl) ?_
                refine lv_aload_n hx hb dX12_goersOf_65 rfl (lv_at hl 2 rfl) ?_
                refine lv_iload hx hb dX12_goersOf_66 (lv_at hl 7 rfl) ?_
                refine lv_iload_n hx hb dX12_goersOf_68 rfl (lv_at hl 4 rfl) ?_
                obtain ⟨_, ⟨rfl, t_25, hk_26⟩, o_c_24⟩ := hH h0 _ k_h0
                refine va_calli (va_runV (As := [.ref b0, .int y6_13, .int a2]) (rest := []) ⟨hx, hb, hml, hown, hts⟩ (c_X12_isLet l g Ty G_13 H.size h0 b0 y6_13 a2 k_h0 k_b0 (rg_w r_3 (by decide) (by decide)) ρ (by rw [(frL_13.2.1 b0 ⟨(ne_kd k_b0 hmk.2.2.2.1 (by decide)), trivial⟩)]; exact hT) (by rw [(frL_13.2.1 b0 ⟨(ne_kd k_b0 hmk.2.2.2.1 (by decide)), trivial⟩)]; exact th_23) rl krl ((frL_13.2.2 111 (by decide)).trans hr1) (by rw [(frL_13.1 113 (by decide))]; exact hr3)) (cwV 3 hts (gwV mw_1570 mw_1572 mw_52 mw_88 mw_1573) rfl rfl rfl hv_X12_isLet ⟨Nat.le_of_ble_eq_true rfl, Nat.le_of_ble_eq_true rfl⟩) ⟨PcT_blind, hg_recv hK o_c_24 rfl, PcT_pre hK hH⟩ rfl rfl hl.1 rfl (lv_room (Nat.le_of_ble_eq_true rfl)) dX12_goersOf_69 ⟨Nat.zero_le _, Nat.zero_le _⟩) hS (fun q _ h => AF.mono hS.1 h) (fun q h => AF.mono hS.1 h) (fun x_27 ux_27 t H locs ht hvm hx_27 hB hz hk hS => ?_)
                obtain ⟨hx_27, fx_27⟩ := hx_27
                obtain ⟨eTx_27, eGx_27⟩ := fx_27
                obtain ⟨G_28, eG_28⟩ : ∃ z, z = ux_27.2 := ⟨_, rfl⟩
                rw [← eG_28] at eGx_27
                have fr_29 : FR [107, 108, 109, 110, 114] [(g.2.2 115)] [106] G G_28 := FR.tr frL_13 eGx_27 (by decide) (fun b h => ⟨h.1, trivial⟩) (by decide)
                have u_30 : G_28.1 113 = (G.1 113) := (eGx_27.1 113 (by decide)).trans (frL_13.1 113 (by decide))
                have w_31 : G_28.2.1 b0 = (G.2.1 b0) := (eGx_27.2.1 b0 ⟨(ne_kd k_b0 hmk.2.2.2.1 (by decide)), trivial⟩).trans (frL_13.2.1 b0 ⟨(ne_kd k_b0 hmk.2.2.2.1 (by decide)), trivial⟩)
                have w_32 : G_28.2.1 rl = (G.2.1 rl) := (eGx_27.2.1 rl ⟨(ne_kd krl hmk.2.2.2.1 (by decide)), trivial⟩).trans (frL_13.2.1 rl ⟨(ne_kd krl hmk.2.2.2.1 (by decide)), trivial⟩)
                have u_33 : G_28.2.2 111 = some rl := (eGx_27.2.2 111 (by decide)).trans ((frL_13.2.2 111 (by decide)).trans hr1)
                have hH : HT g Ty G_28 H := by rw [← ht, ← eTx_27, eG_28]; exact hB
                have rx_27 : rgI (0) (1) x_27 := hx_27.1
                have lt_34 : x_27 = LetF (G.2.1 b0) (G.2.1 rl) (G.1 113) y6_13 a2 := by have q := hx_27.2; (try rw [(frL_13.2.1 b0 ⟨(ne_kd k_b0 hmk.2.2.2.1 (by decide)), trivial⟩)] at q); (try rw [(frL_13.2.1 rl ⟨(ne_kd krl hmk.2.2.2.1 (by decide)), trivial⟩)] at q); (try rw [(frL_13.1 113 (by decide))] at q); exact q
                try rw [← lt_34] at hv
                refine lv_if_eq (tgt := 84) hx hb dX12_goersOf_72 (by decide) (fun c_35 => ?_) (fun c_35 => ?_)
                · rw [if_pos c_35] at hv
                  have r_36 : rgI (0) (0) x_27 := rg_w (rg_eq rl_0 c_35) (by decide) (by decide)
                  obtain ⟨x_37, ex_37⟩ : ∃ y : Int32, y = y6_13 + 1 := ⟨_, rfl⟩
                  try rw [← ex_37] at hv
                  have rx_37 : rgI (1) (24) x_37 := by rw [ex_37]; exact rg_w (rg_add r_3 rl_1 (by decide) (by decide)) (by decide) (by decide)
                  have qx_37 : x_37.toInt = (y6_13 : Int32).toInt + 1 := by rw [ex_37]; exact rg_addE r_3 rl_1 (by decide) (by decide)
                  refine lv_iinc (v := x_37) (lv' := [(6, .int x_37), (7, .int x_8), (0, .ref h0), (1, .ref b0), (2, .int a1), (3, .int a2), (4, .int y4_13), (5, .int y5_13)]) hx hb dX12_goersOf_84 hl (k := 7) rfl (by rw [ex_37]; rfl) (by decide) rfl (fun ls hl => ?_)
                  refine lv_goto (tgt := 13) hx hb dX12_goersOf_87 (by decide) ?_
                  exact ih_13 H locs G_28 y4_13 y5_13 x_37 ls fr_29 (rg_w rx_37 (by decide) (by decide)) hi0_13 hi1_13 hi2_13 (by have h1 := qx_37; have h2 := r_3.1; have h3 := r_3.2; have h4 := hm_13; omega) (lv_sub hl [2, 3, 4, 5, 6, 7, 0] rfl) hv hH hS
                · rw [if_neg c_35] at hv
                  have r_38 : rgI (1) (1) x_27 := rg_w (rg_neL rx_27 rl_0 c_35) (by decide) (by decide)
                  refine lv_iload hx hb dX12_goersOf_75 (lv_at hl 6 rfl) ?_
                  refine lv_iconst (v := 1) hx hb dX12_goersOf_77 (by decide) ?_
                  refine lv_iload hx hb dX12_goersOf_78 (lv_at hl 0 rfl) ?_
                  refine lv_ishl hx hb dX12_goersOf_80 ?_
                  refine lv_topi (fun x_39 ex_39 => ?_)
                  try rw [← ex_39] at hv
                  refine lv_ior hx hb dX12_goersOf_81 ?_
                  refine lv_topi (fun x_40 ex_40 => ?_)
                  try rw [← ex_40] at hv
                  refine lv_istore (lv' := [(5, .int x_40), (7, .int x_8), (0, .ref h0), (1, .ref b0), (2, .int a1), (3, .int a2), (4, .int y4_13), (6, .int y6_13)]) hx hb dX12_goersOf_82 hl (by decide) rfl (fun ls hl => ?_)
                  obtain ⟨x_41, ex_41⟩ : ∃ y : Int32, y = y6_13 + 1 := ⟨_, rfl⟩
                  try rw [← ex_41] at hv
                  have rx_41 : rgI (1) (24) x_41 := by rw [ex_41]; exact rg_w (rg_add r_3 rl_1 (by decide) (by decide)) (by decide) (by decide)
                  have qx_41 : x_41.toInt = (y6_13 : Int32).toInt + 1 := by rw [ex_41]; exact rg_addE r_3 rl_1 (by decide) (by decide)
                  refine lv_iinc (v := x_41) (lv' := [(6, .int x_41), (5, .int x_40), (7, .int x_8), (0, .ref h0), (1, .ref b0), (2, .int a1), (3, .int a2), (4, .int y4_13)]) hx hb dX12_goersOf_84 hl (k := 7) rfl (by rw [ex_41]; rfl) (by decide) rfl (fun ls hl => ?_)
                  refine lv_goto (tgt := 13) hx hb dX12_goersOf_87 (by decide) ?_
                  exact ih_13 H locs G_28 y4_13 x_40 x_41 ls fr_29 (rg_w rx_41 (by decide) (by decide)) hi0_13 hi1_13 (GB_s hi2_13 ex_9 c_10 (by rw [← ex_15]; exact c_16) ex_39 ex_40) (by have h1 := qx_41; have h2 := r_3.1; have h3 := r_3.2; have h4 := hm_13; omega) (lv_sub hl [3, 4, 5, 6, 7, 1, 0] rfl) hv hH hS
        · rw [if_pos c_5] at hv
          have r_42 : rgI (0) (0) x_4 := rg_w (rg_eq rl_0 c_5) (by decide) (by decide)
          have hb_43 : bt y4_13 (y6_13 : Int32).toNatClampNeg = false := has_0 (rg_w r_3 (by decide) (by decide)) (by rw [← hx_4.2]; exact c_5)
          refine lv_goto (tgt := 84) hx hb dX12_goersOf_30 (by decide) ?_
          obtain ⟨x_44, ex_44⟩ : ∃ y : Int32, y = y6_13 + 1 := ⟨_, rfl⟩
          try rw [← ex_44] at hv
          have rx_44 : rgI (1) (24) x_44 := by rw [ex_44]; exact rg_w (rg_add r_3 rl_1 (by decide) (by decide)) (by decide) (by decide)
          have qx_44 : x_44.toInt = (y6_13 : Int32).toInt + 1 := by rw [ex_44]; exact rg_addE r_3 rl_1 (by decide) (by decide)
          refine lv_iinc (v := x_44) (lv' := [(6, .int x_44), (0, .ref h0), (1, .ref b0), (2, .int a1), (3, .int a2), (4, .int y4_13), (5, .int y5_13)]) hx hb dX12_goersOf_84 hl (k := 6) rfl (by rw [ex_44]; rfl) (by decide) rfl (fun ls hl => ?_)
          refine lv_goto (tgt := 13) hx hb dX12_goersOf_87 (by decide) ?_
          exact ih_13 H locs G_13 y4_13 y5_13 x_44 ls frL_13 (rg_w rx_44 (by decide) (by decide)) hi0_13 hi1_13 hi2_13 (by have h1 := qx_44; have h2 := r_3.1; have h3 := r_3.2; have h4 := hm_13; omega) (lv_sub hl [1, 2, 3, 4, 5, 6, 0] rfl) hv hH hS
  refine lv_aload_n hx hb dX12_goersOf_0 rfl (lv_at hl 1 rfl) ?_
  refine lv_iload_n hx hb dX12_goersOf_1 rfl (lv_at hl 2 rfl) ?_
  refine vp_callSi (W.runS (As := [.ref b0, .int a1]) (rest := []) ⟨hx, hb, hml, hown, hts⟩ (c_X12_spreadOf l g Ty G b0 a1 k_b0 hm0) (cwSx 2 hts hG (gwC mw_1560) mw_88 mw_1558 mw_1559 rfl rfl rfl hd_X12_spreadOf ⟨Nat.le_of_ble_eq_true rfl, Nat.le_of_ble_eq_true rfl⟩) ⟨PcH_blind, PcH_pre hK hH⟩ rfl rfl hl.1 rfl (lv_room (Nat.le_of_ble_eq_true rfl)) dX12_goersOf_2 ⟨Nat.zero_le _, Nat.zero_le _⟩) (fun x_45 hx_45 => ?_)
  try rw [← hx_45.2] at hv
  try rw [← hx_45.2] at hv
  refine lv_istore (lv' := [(4, .int x_45), (0, .ref h0), (1, .ref b0), (2, .int a1), (3, .int a2)]) hx hb dX12_goersOf_5 hl (by decide) rfl (fun ls hl => ?_)
  refine lv_iconst (v := 0) hx hb dX12_goersOf_7 (by decide) ?_
  refine lv_istore (lv' := [(5, .int 0), (4, .int x_45), (0, .ref h0), (1, .ref b0), (2, .int a1), (3, .int a2)]) hx hb dX12_goersOf_8 hl (by decide) rfl (fun ls hl => ?_)
  refine lv_iconst (v := 0) hx hb dX12_goersOf_10 (by decide) ?_
  refine lv_istore (lv' := [(6, .int 0), (5, .int 0), (4, .int x_45), (0, .ref h0), (1, .ref b0), (2, .int a1), (3, .int a2)]) hx hb dX12_goersOf_11 hl (by decide) rfl (fun ls hl => ?_)
  exact L_13 26 s.heap [] G x_45 0 0 ls FR.rf (rg_w rl_0 (by decide) (by decide)) hx_45.2 hx_45.1 GB_0 (by decide) (lv_sub hl [3, 4, 5, 6, 2, 1, 0] rfl) hv hH hS

def F_X12_goUnmount_x_12 : Nat → Int32 → Int32 → Int32 → (Nat → Int32) → (Nat → Int32) → Int32 → (Nat → Int32)
  | 0, _, _, _, yr0, _, _ => yr0
  | n + 1, y3, y4, y5, yr0, yr1, yn113 => (if (24 : Int32) ≤ y5 then yr0 else (if (F_X12_isThere yr0 y5) = (0 : Int32) then (F_X12_goUnmount_x_12 n y3 y4 (y5 + (1 : Int32)) yr0 yr1 yn113) else (if (F_X12_atOf yr0 y5 y3) = (24 : Int32) then (F_X12_goUnmount_x_12 n y3 y4 (y5 + (1 : Int32)) yr0 yr1 yn113) else (if (F_X12_has y4 (F_X12_atOf yr0 y5 y3)) = (0 : Int32) then (F_X12_goUnmount_x_12 n y3 y4 (y5 + (1 : Int32)) yr0 yr1 yn113) else (tu1 (F_X12_goOut yr0 (F_X12_atOf yr0 y5 y3)) (fun z1 => (tu1 (F_X12_clear z1 (F_X12_atOf yr0 y5 y3)) (fun z2 => (F_X12_goUnmount_x_12 n y3 y4 (y5 + (1 : Int32)) z2 yr1 yn113)))))))))
def F_X12_goUnmount_x (r0 : Nat → Int32) (r1 : Nat → Int32) (m113 : Int32) (a1 : Int32) (a2 : Int32) : Int32 × (Nat → Int32) := ((F_X12_goersOf_x r0 r1 m113 a1 a2), (upd (F_X12_goUnmount_x_12 26 a2 (F_X12_goersOf_x r0 r1 m113 a1 a2) (0 : Int32) r0 r1 m113) (Int32.toNatClampNeg (120 : Int32)) (((F_X12_goUnmount_x_12 26 a2 (F_X12_goersOf_x r0 r1 m113 a1 a2) (0 : Int32) r0 r1 m113) (Int32.toNatClampNeg (120 : Int32))) + (1 : Int32))))
set_option maxHeartbeats 4000000 in
set_option maxRecDepth 100000 in
theorem c_X12_goUnmount_x (l : Launch) (g : Gx) (Ty : TyM) (G : Gh) (sz : Nat) (h0 : Nat) (b0 : Nat) (a1 : Int32) (a2 : Int32) (k_h0 : Ty h0 = some (22, 0)) (k_b0 : Ty b0 = some (30, 122)) (pr1 : rgI (0) (23) a1) (Bd : Int) (hTI : TI Bd (G.2.1 b0)) (hm0 : thr (G.2.1 b0) a1) (rl : Nat) (krl : Ty rl = some (31, 40)) (hr1 : G.2.2 111 = some rl) (hr3 : rgI 0 40 (G.1 113)) : Met l yX12_goUnmount (wsG yX12_goUnmount cX12_goUnmount 7 (some .int)) ({ frames := 340, cells := 0, slots := 0, locals := 7971 }) (PcT g Ty G sz [.ref h0, .ref b0, .int a1, .int a2]) (QwI g Ty sz (fun r u => u.1 = Ty ∧ FR [107, 108, 109, 110, 114] [b0, (g.2.2 115)] [106] G u.2 ∧ (TI Bd (u.2.2.1 b0)) ∧ F_X12_goUnmount_x (G.2.1 b0) (G.2.1 rl) (G.1 113) a1 a2 = (r, (u.2.2.1 b0)))) 0 0 (AF Ty sz) := by
  refine Met.ofW (cc := cX12_goUnmount) (maxL := 7) (ret := (some .int)) (by decide) rfl ?_
  intro p e s m args below meth c s₁ B hml hv
  obtain ⟨rfl, hsz, hK, hH⟩ := hv
  subst hsz
  have hx := B.exec
  have hb := B.bytes
  have hr := B.returns
  have hts := atoms_spec (ws := (wsG yX12_goUnmount cX12_goUnmount 7 (some .int))) B.pre
  have hG : ∀ w ∈ GW, w.before ([.ref h0, .ref b0, .int a1, .int a2] : List Value).toArray s = true := fun w h => hts w (List.mem_cons_of_mem _ h)
  have hown : s.vm.findClass RX12 = some m.cls := findClass_of_methodNamed B.named
  have hlocks := B.notSynchronized
  have hl := lv_entry [.ref h0, .ref b0, .int a1, .int a2] (n := 7) (Nat.le_of_ble_eq_true rfl)
  rw [lg_entry_eq]
  generalize (lg_sl [.ref h0, .ref b0, .int a1, .int a2] ++ List.replicate (7 - (lg_sl [.ref h0, .ref b0, .int a1, .int a2]).length) Slot.unset).toArray = ls at hl ⊢
  have hl : lv_has ls 7 [(0, .ref h0), (1, .ref b0), (2, .int a1), (3, .int a2)] := hl
  have hmk : mdK g Ty := mdk_of hH k_h0
  have hv : ((F_X12_goersOf_x (G.2.1 b0) (G.2.1 rl) (G.1 113) a1 a2), (upd (F_X12_goUnmount_x_12 26 a2 (F_X12_goersOf_x (G.2.1 b0) (G.2.1 rl) (G.1 113) a1 a2) (0 : Int32) (G.2.1 b0) (G.2.1 rl) (G.1 113)) (Int32.toNatClampNeg (120 : Int32)) (((F_X12_goUnmount_x_12 26 a2 (F_X12_goersOf_x (G.2.1 b0) (G.2.1 rl) (G.1 113) a1 a2) (0 : Int32) (G.2.1 b0) (G.2.1 rl) (G.1 113)) (Int32.toNatClampNeg (120 : Int32))) + (1 : Int32)))) = F_X12_goUnmount_x (G.2.1 b0) (G.2.1 rl) (G.1 113) a1 a2 := rfl
  have hS : va_S (AF Ty s.heap.size) s.heap s.heap [] := va_S.rf
  obtain ⟨⟨σ0, hTS0⟩, h1, hBB⟩ := id hTI
  obtain ⟨ρ, hT⟩ := hTS0.1
  have L_12 : ∀ (n_12 : Nat) (H : Heap) (locs : List Loc) (G_12 : Gh) (fl0_12 : Nat → Int32) (y4_12 : Int32) (y5_12 : Int32) (ls : Array Slot), FR [107, 108, 109, 110, 114] [b0, (g.2.2 115)] [106] G G_12 → G_12.2.1 b0 = fl0_12 → rgI (0) (24) y5_12 → GB (G.2.1 b0) y4_12 → UM (G.2.1 b0) fl0_12 → (24 - (y5_12).toInt).toNat < n_12 → lv_has ls 7 [(1, .ref b0), (3, .int a2), (4, .int y4_12), (5, .int y5_12)] → (y4_12, (upd (F_X12_goUnmount_x_12 n_12 a2 y4_12 y5_12 fl0_12 (G.2.1 rl) (G.1 113)) (Int32.toNatClampNeg (120 : Int32)) (((F_X12_goUnmount_x_12 n_12 a2 y4_12 y5_12 fl0_12 (G.2.1 rl) (G.1 113)) (Int32.toNatClampNeg (120 : Int32))) + (1 : Int32)))) = F_X12_goUnmount_x (G.2.1 b0) (G.2.1 rl) (G.1 113) a1 a2 → HT g Ty G_12 H → va_S (AF Ty s.heap.size) s.heap H locs → Wm p l e (wsG yX12_goUnmount cX12_goUnmount 7 (some .int)) ({ frames := 340, cells := 0, slots := 0, locals := 7971 }) s m [.ref h0, .ref b0, .int a1, .int a2] below meth c H locs (0) (0) (QwI g Ty s.heap.size (fun r u => u.1 = Ty ∧ FR [107, 108, 109, 110, 114] [b0, (g.2.2 115)] [106] G u.2 ∧ (TI Bd (u.2.2.1 b0)) ∧ F_X12_goUnmount_x (G.2.1 b0) (G.2.1 rl) (G.1 113) a1 a2 = (r, (u.2.2.1 b0)))) 0 0 (AF Ty s.heap.size) (F0 m 12 ls []) := by
    intro n_12
    induction n_12 with
    | zero => intro H locs G_12 fl0_12 y4_12 y5_12 ls frL_12 efl0_12 ry5_12 hi0_12 hi1_12 hm; exact absurd hm (Nat.not_lt_zero _)
    | succ n_12 ih_12 =>
      intro H locs G_12 fl0_12 y4_12 y5_12 ls frL_12 efl0_12 ry5_12 hi0_12 hi1_12 hm_12 hl hv hH hS
      rw [F_X12_goUnmount_x_12] at hv
      refine lv_iload hx hb dX12_goUnmount_12 (lv_at hl 3 rfl) ?_
      refine lv_bipush (v := 24) hx hb dX12_goUnmount_14 (by decide) ?_
      refine lv_icmp_ge (tgt := 80) hx hb dX12_goUnmount_16 (by decide) (fun c_1 => ?_) (fun c_1 => ?_)
      · rw [if_pos c_1] at hv
        have r_2 : rgI (24) (24) y5_12 := rg_w (rg_leR rl_24 ry5_12 c_1) (by decide) (by decide)
        refine lv_aload_n hx hb dX12_goUnmount_80 rfl (lv_at hl 0 rfl) ?_
        refine lv_bipush (v := 120) hx hb dX12_goUnmount_81 (by decide) ?_
        refine lv_dup2_11 hx hb dX12_goUnmount_83 rfl rfl ?_
        obtain ⟨_, rfl, o_c_3⟩ := hH b0 _ k_b0
        have o_c_3 : va_at g.1 vwCl (b0, .inl (g.2.1 1, 122, .inl (G_12.2.1 b0))) H := o_c_3
        refine hg_iald hx hb hK o_c_3 (rg_in (n := 122) rl_120 (by decide) (by decide)) dX12_goUnmount_84 ?_
        rw [efl0_12]
        refine lv_topi (fun x_4 ex_4 => ?_)
        try rw [← ex_4] at hv
        refine lv_iconst (v := 1) hx hb dX12_goUnmount_85 (by decide) ?_
        refine lv_iadd hx hb dX12_goUnmount_86 ?_
        refine lv_topi (fun x_5 ex_5 => ?_)
        try rw [← ex_5] at hv
        refine hg_iast hx hb hK hS o_c_3 (AF.of k_b0) (rg_in (n := 122) rl_120 (by decide) (by decide)) dX12_goUnmount_87 (fun H locs o_c_3 hz oq hS => ?_)
        obtain ⟨G_6, eG_6⟩ : ∃ z : Gh, z = aset G_12 b0 (upd (G_12.2.1 b0) (120 : Int32).toNatClampNeg x_5) := ⟨_, rfl⟩
        have hH : HT g Ty G_6 H := by rw [eG_6]; exact HT.putA (upd (G_12.2.1 b0) (120 : Int32).toNatClampNeg x_5) hH k_b0 cf30 o_c_3 oq
        obtain ⟨f_7, ef_7⟩ : ∃ z : Nat → Int32, z = (upd fl0_12 (120 : Int32).toNatClampNeg x_5) := ⟨_, rfl⟩
        have eaf_7 : G_6 = aset G_12 b0 f_7 := by rw [eG_6, ef_7, efl0_12]
        try rw [← ef_7] at hv
        have fr_8 : FR [107, 108, 109, 110, 114] [b0, (g.2.2 115)] [106] G G_6 := FR.a frL_12 eaf_7 (fun b h => h.1)
        have u_9 : G_6.1 113 = (G.1 113) := by rw [eaf_7]; exact (frL_12.1 113 (by decide))
        have w_10 : G_6.2.1 b0 = f_7 := by rw [eaf_7]; exact aset_eq
        have w_11 : G_6.2.1 rl = (G.2.1 rl) := by rw [eaf_7]; exact (aset_ne (ne_kd krl k_b0 (by decide))).trans (frL_12.2.1 rl ⟨(ne_kd krl k_b0 (by decide)), (ne_kd krl hmk.2.2.2.1 (by decide)), trivial⟩)
        have u_12 : G_6.2.2 111 = some rl := by rw [eaf_7]; exact ((frL_12.2.2 111 (by decide)).trans hr1)
        clear oq hz
        refine lv_iload hx hb dX12_goUnmount_88 (lv_at hl 2 rfl) ?_
        exact W.iret hx hb hr (fun t ht hWm => ⟨⟨y4_12, (Ty, G_6), rfl, ⟨rfl, ⟨fr_8, ⟨(by rw [w_10]; exact UM_end hi1_12 hTI ef_7), hv.symm.trans (by rw [w_10])⟩⟩⟩, by show HT g Ty G_6 t.heap; rw [ht]; exact hH⟩, hS.F ht⟩) hS.2.2 dX12_goUnmount_90
      · rw [if_neg c_1] at hv
        have r_13 : rgI (0) (23) y5_12 := rg_w (rg_ltL ry5_12 rl_24 (nle_lt c_1)) (by decide) (by decide)
        refine lv_aload_n hx hb dX12_goUnmount_19 rfl (lv_at hl 0 rfl) ?_
        refine lv_iload hx hb dX12_goUnmount_20 (lv_at hl 3 rfl) ?_
        refine vp_callSi (W.runS (As := [.ref b0, .int y5_12]) (rest := []) ⟨hx, hb, hml, hown, hts⟩ (c_X12_isThere l g Ty G_12 b0 y5_12 k_b0) (cwSx 2 hts hG (gwC mw_1520) mw_88 mw_1518 mw_1519 rfl rfl rfl hd_X12_isThere ⟨Nat.le_of_ble_eq_true rfl, Nat.le_of_ble_eq_true rfl⟩) ⟨PcH_blind, PcH_pre hK hH⟩ rfl rfl hl.1 rfl (lv_room (Nat.le_of_ble_eq_true rfl)) dX12_goUnmount_22 ⟨Nat.zero_le _, Nat.zero_le _⟩) (fun x_14 hx_14 => ?_)
        have rx_14 : rgI (0) (1) x_14 := hx_14.1
        try rw [← hx_14.2.2] at hv
        have ex_15 : x_14 = F_X12_isThere fl0_12 y5_12 := by rw [← efl0_12]; exact hx_14.2.2
        try rw [← ex_15] at hv
        refine lv_if_eq (tgt := 38) hx hb dX12_goUnmount_25 (by decide) (fun c_16 => ?_) (fun c_16 => ?_)
        · rw [if_pos c_16] at hv
          have r_17 : rgI (0) (0) x_14 := rg_w (rg_eq rl_0 c_16) (by decide) (by decide)
          refine lv_bipush (v := 24) hx hb dX12_goUnmount_38 (by decide) ?_
          refine lv_istore (lv' := [(6, .int 24), (1, .ref b0), (3, .int a2), (4, .int y4_12), (5, .int y5_12)]) hx hb dX12_goUnmount_40 hl (by decide) rfl (fun ls hl => ?_)
          refine lv_iload hx hb dX12_goUnmount_42 (lv_at hl 0 rfl) ?_
          refine lv_bipush (v := 24) hx hb dX12_goUnmount_44 (by decide) ?_
          refine lv_icmp_eq (tgt := 74) hx hb dX12_goUnmount_46 (by decide) (fun c_18 => ?_) (fun c_18 => ?_)
          · obtain ⟨x_19, ex_19⟩ : ∃ y : Int32, y = y5_12 + 1 := ⟨_, rfl⟩
            try rw [← ex_19] at hv
            have rx_19 : rgI (1) (24) x_19 := by rw [ex_19]; exact rg_w (rg_add r_13 rl_1 (by decide) (by decide)) (by decide) (by decide)
            have qx_19 : x_19.toInt = (y5_12 : Int32).toInt + 1 := by rw [ex_19]; exact rg_addE r_13 rl_1 (by decide) (by decide)
            refine lv_iinc (v := x_19) (lv' := [(5, .int x_19), (6, .int 24), (1, .ref b0), (3, .int a2), (4, .int y4_12)]) hx hb dX12_goUnmount_74 hl (k := 4) rfl (by rw [ex_19]; rfl) (by decide) rfl (fun ls hl => ?_)
            refine lv_goto (tgt := 12) hx hb dX12_goUnmount_77 (by decide) ?_
            exact ih_12 H locs G_12 fl0_12 y4_12 x_19 ls frL_12 efl0_12 (rg_w rx_19 (by decide) (by decide)) hi0_12 hi1_12 (by have h1 := qx_19; have h2 := r_13.1; have h3 := r_13.2; have h4 := hm_12; omega) (lv_sub hl [2, 3, 4, 0] rfl) hv hH hS
          · exact absurd rfl c_18
        · rw [if_neg c_16] at hv
          have th_20 : thr fl0_12 y5_12 := F_isThere_thr (by rw [← ex_15]; exact c_16)
          have r_21 : rgI (1) (1) x_14 := rg_w (rg_neL rx_14 rl_0 c_16) (by decide) (by decide)
          refine lv_aload_n hx hb dX12_goUnmount_28 rfl (lv_at hl 0 rfl) ?_
          refine lv_iload hx hb dX12_goUnmount_29 (lv_at hl 3 rfl) ?_
          refine lv_iload_n hx hb dX12_goUnmount_31 rfl (lv_at hl 1 rfl) ?_
          refine vp_callSi (W.runS (As := [.ref b0, .int y5_12, .int a2]) (rest := []) ⟨hx, hb, hml, hown, hts⟩ (c_X12_atOf l g Ty G_12 b0 y5_12 a2 k_b0) (cwSx 3 hts hG (gwC mw_1509) mw_88 mw_1507 mw_1508 rfl rfl rfl hd_X12_atOf ⟨Nat.le_of_ble_eq_true rfl, Nat.le_of_ble_eq_true rfl⟩) ⟨PcH_blind, PcH_pre hK hH⟩ rfl rfl hl.1 rfl (lv_room (Nat.le_of_ble_eq_true rfl)) dX12_goUnmount_32 ⟨Nat.zero_le _, Nat.zero_le _⟩) (fun x_22 hx_22 => ?_)
          have rx_22 : rgI (1) (24) x_22 := hx_22.1
          try rw [← hx_22.2] at hv
          have ex_23 : x_22 = F_X12_atOf fl0_12 y5_12 a2 := by rw [← efl0_12]; exact hx_22.2
          try rw [← ex_23] at hv
          refine lv_goto (tgt := 40) hx hb dX12_goUnmount_35 (by decide) ?_
          refine lv_istore (lv' := [(6, .int x_22), (1, .ref b0), (3, .int a2), (4, .int y4_12), (5, .int y5_12)]) hx hb dX12_goUnmount_40 hl (by decide) rfl (fun ls hl => ?_)
          refine lv_iload hx hb dX12_goUnmount_42 (lv_at hl 0 rfl) ?_
          refine lv_bipush (v := 24) hx hb dX12_goUnmount_44 (by decide) ?_
          refine lv_icmp_eq (tgt := 74) hx hb dX12_goUnmount_46 (by decide) (fun c_24 => ?_) (fun c_24 => ?_)
          · rw [if_pos c_24] at hv
            have r_25 : rgI (24) (24) x_22 := rg_w (rg_eq rl_24 c_24) (by decide) (by decide)
            obtain ⟨x_26, ex_26⟩ : ∃ y : Int32, y = y5_12 + 1 := ⟨_, rfl⟩
            try rw [← ex_26] at hv
            have rx_26 : rgI (1) (24) x_26 := by rw [ex_26]; exact rg_w (rg_add r_13 rl_1 (by decide) (by decide)) (by decide) (by decide)
            have qx_26 : x_26.toInt = (y5_12 : Int32).toInt + 1 := by rw [ex_26]; exact rg_addE r_13 rl_1 (by decide) (by decide)
            refine lv_iinc (v := x_26) (lv' := [(5, .int x_26), (6, .int x_22), (1, .ref b0), (3, .int a2), (4, .int y4_12)]) hx hb dX12_goUnmount_74 hl (k := 4) rfl (by rw [ex_26]; rfl) (by decide) rfl (fun ls hl => ?_)
            refine lv_goto (tgt := 12) hx hb dX12_goUnmount_77 (by decide) ?_
            exact ih_12 H locs G_12 fl0_12 y4_12 x_26 ls frL_12 efl0_12 (rg_w rx_26 (by decide) (by decide)) hi0_12 hi1_12 (by have h1 := qx_26; have h2 := r_13.1; have h3 := r_13.2; have h4 := hm_12; omega) (lv_sub hl [2, 3, 4, 0] rfl) hv hH hS
          · rw [if_neg c_24] at hv
            have r_27 : rgI (1) (23) x_22 := rg_w (rg_neR rx_22 rl_24 c_24) (by decide) (by decide)
            refine lv_iload hx hb dX12_goUnmount_49 (lv_at hl 3 rfl) ?_
            refine lv_iload hx hb dX12_goUnmount_51 (lv_at hl 0 rfl) ?_
            refine vp_callSi (W.runS (As := [.int y4_12, .int x_22]) (rest := []) ⟨hx, hb, hml, hown, hts⟩ (c_X12_has l g Ty G_12 y4_12 x_22 ) (cwSx 2 hts hG (gwC mw_1563) mw_88 mw_1561 mw_1562 rfl rfl rfl hd_X12_has ⟨Nat.le_of_ble_eq_true rfl, Nat.le_of_ble_eq_true rfl⟩) ⟨PcH_blind, PcH_pre hK hH⟩ rfl rfl hl.1 rfl (lv_room (Nat.le_of_ble_eq_true rfl)) dX12_goUnmount_53 ⟨Nat.zero_le _, Nat.zero_le _⟩) (fun x_28 hx_28 => ?_)
            have rx_28 : rgI (0) (1) x_28 := hx_28.1
            try rw [← hx_28.2] at hv
            try rw [← hx_28.2] at hv
            refine lv_if_ne (tgt := 62) hx hb dX12_goUnmount_56 (by decide) (fun c_29 => ?_) (fun c_29 => ?_)
            · rw [if_neg c_29] at hv
              have r_30 : rgI (1) (1) x_28 := rg_w (rg_neL rx_28 rl_0 c_29) (by decide) (by decide)
              have hb_31 : bt y4_12 (x_22 : Int32).toNatClampNeg = true := has_1 (rg_w r_27 (by decide) (by decide)) (by rw [← hx_28.2]; exact c_29)
              have kt_32 : ¬ fl0_12 (x_22 : Int32).toNatClampNeg = -1 := by rw [(atOf_is ex_23 c_24).2.1]; exact thr_ne th_20
              refine lv_aload_n hx hb dX12_goUnmount_62 rfl (lv_at hl 1 rfl) ?_
              refine lv_iload hx hb dX12_goUnmount_63 (lv_at hl 0 rfl) ?_
              refine va_callv (va_runS (As := [.ref b0, .int x_22]) (rest := []) ⟨hx, hb, hml, hown, hts⟩ (c_X12_goOut l g Ty G_12 H.size b0 x_22 k_b0 (rg_w r_27 (by decide) (by decide))) (cwSx 2 hts hG (gwC mw_1648) mw_88 mw_1646 mw_1647 rfl rfl rfl hd_X12_goOut ⟨Nat.le_of_ble_eq_true rfl, Nat.le_of_ble_eq_true rfl⟩) ⟨PcT_blind, PcT_pre hK hH⟩ rfl rfl hl.1 rfl (lv_room (Nat.le_of_ble_eq_true rfl)) dX12_goUnmount_65 ⟨Nat.zero_le _, Nat.zero_le _⟩) hS (fun q _ h => AF.mono hS.1 h) (fun q h => AF.mono hS.1 h) (fun ux_33 t H locs ht hvm hx_33 hB hz hk hS => ?_)
              obtain ⟨eTx_33, eGx_33⟩ := hx_33
              obtain ⟨G_34, eG_34⟩ : ∃ z, z = ux_33.2 := ⟨_, rfl⟩
              rw [← eG_34] at eGx_33
              have hg_36 := eGx_33
              rw [efl0_12] at hg_36
              obtain ⟨f_35, ef_35⟩ : ∃ z : Nat → Int32, z = F_X12_goOut fl0_12 x_22 := ⟨_, rfl⟩
              rw [← ef_35] at hg_36
              have fr_37 : FR [107, 108, 109, 110, 114] [b0, (g.2.2 115)] [106] G G_34 := FR.a frL_12 hg_36 (fun b h => h.1)
              have u_38 : G_34.1 113 = (G.1 113) := by rw [hg_36]; exact (frL_12.1 113 (by decide))
              have w_39 : G_34.2.1 b0 = f_35 := by rw [hg_36]; exact aset_eq
              have w_40 : G_34.2.1 rl = (G.2.1 rl) := by rw [hg_36]; exact (aset_ne (ne_kd krl k_b0 (by decide))).trans (frL_12.2.1 rl ⟨(ne_kd krl k_b0 (by decide)), (ne_kd krl hmk.2.2.2.1 (by decide)), trivial⟩)
              have u_41 : G_34.2.2 111 = some rl := by rw [hg_36]; exact ((frL_12.2.2 111 (by decide)).trans hr1)
              rw [← ef_35, tu1_eq] at hv
              have hH : HT g Ty G_34 H := by rw [← ht, ← eTx_33, eG_34]; exact hB
              refine lv_aload_n hx hb dX12_goUnmount_68 rfl (lv_at hl 1 rfl) ?_
              refine lv_iload hx hb dX12_goUnmount_69 (lv_at hl 0 rfl) ?_
              refine va_callv (va_runS (As := [.ref b0, .int x_22]) (rest := []) ⟨hx, hb, hml, hown, hts⟩ (c_X12_clear l g Ty G_34 H.size b0 x_22 k_b0 (rg_w r_27 (by decide) (by decide))) (cwSx 2 hts hG (gwC mw_1666) mw_88 mw_1664 mw_1665 rfl rfl rfl hd_X12_clear ⟨Nat.le_of_ble_eq_true rfl, Nat.le_of_ble_eq_true rfl⟩) ⟨PcT_blind, PcT_pre hK hH⟩ rfl rfl hl.1 rfl (lv_room (Nat.le_of_ble_eq_true rfl)) dX12_goUnmount_71 ⟨Nat.zero_le _, Nat.zero_le _⟩) hS (fun q _ h => AF.mono hS.1 h) (fun q h => AF.mono hS.1 h) (fun ux_42 t H locs ht hvm hx_42 hB hz hk hS => ?_)
              obtain ⟨eTx_42, eGx_42⟩ := hx_42
              obtain ⟨G_43, eG_43⟩ : ∃ z, z = ux_42.2 := ⟨_, rfl⟩
              rw [← eG_43] at eGx_42
              have hg_45 := eGx_42
              rw [w_39] at hg_45
              obtain ⟨f_44, ef_44⟩ : ∃ z : Nat → Int32, z = F_X12_clear f_35 x_22 := ⟨_, rfl⟩
              rw [← ef_44] at hg_45
              have fr_46 : FR [107, 108, 109, 110, 114] [b0, (g.2.2 115)] [106] G G_43 := FR.a fr_37 hg_45 (fun b h => h.1)
              have u_47 : G_43.1 113 = (G.1 113) := by rw [hg_45]; exact u_38
              have w_48 : G_43.2.1 b0 = f_44 := by rw [hg_45]; exact aset_eq
              have w_49 : G_43.2.1 rl = (G.2.1 rl) := by rw [hg_45]; exact (aset_ne (ne_kd krl k_b0 (by decide))).trans w_40
              have u_50 : G_43.2.2 111 = some rl := by rw [hg_45]; exact u_41
              rw [← ef_44, tu1_eq] at hv
              have hH : HT g Ty G_43 H := by rw [← ht, ← eTx_42, eG_43]; exact hB
              obtain ⟨x_51, ex_51⟩ : ∃ y : Int32, y = y5_12 + 1 := ⟨_, rfl⟩
              try rw [← ex_51] at hv
              have rx_51 : rgI (1) (24) x_51 := by rw [ex_51]; exact rg_w (rg_add r_13 rl_1 (by decide) (by decide)) (by decide) (by decide)
              have qx_51 : x_51.toInt = (y5_12 : Int32).toInt + 1 := by rw [ex_51]; exact rg_addE r_13 rl_1 (by decide) (by decide)
              refine lv_iinc (v := x_51) (lv' := [(5, .int x_51), (6, .int x_22), (1, .ref b0), (3, .int a2), (4, .int y4_12)]) hx hb dX12_goUnmount_74 hl (k := 4) rfl (by rw [ex_51]; rfl) (by decide) rfl (fun ls hl => ?_)
              refine lv_goto (tgt := 12) hx hb dX12_goUnmount_77 (by decide) ?_
              exact ih_12 H locs G_43 f_44 y4_12 x_51 ls fr_46 w_48 (rg_w rx_51 (by decide) (by decide)) hi0_12 (UM_step hi1_12 hi0_12 h1 (atOf_is ex_23 c_24).1 hb_31 kt_32 ef_35 ef_44) (by have h1 := qx_51; have h2 := r_13.1; have h3 := r_13.2; have h4 := hm_12; omega) (lv_sub hl [2, 3, 4, 0] rfl) hv hH hS
            · rw [if_pos c_29] at hv
              have r_52 : rgI (0) (0) x_28 := rg_w (rg_eq rl_0 c_29) (by decide) (by decide)
              have hb_53 : bt y4_12 (x_22 : Int32).toNatClampNeg = false := has_0 (rg_w r_27 (by decide) (by decide)) (by rw [← hx_28.2]; exact c_29)
              refine lv_goto (tgt := 74) hx hb dX12_goUnmount_59 (by decide) ?_
              obtain ⟨x_54, ex_54⟩ : ∃ y : Int32, y = y5_12 + 1 := ⟨_, rfl⟩
              try rw [← ex_54] at hv
              have rx_54 : rgI (1) (24) x_54 := by rw [ex_54]; exact rg_w (rg_add r_13 rl_1 (by decide) (by decide)) (by decide) (by decide)
              have qx_54 : x_54.toInt = (y5_12 : Int32).toInt + 1 := by rw [ex_54]; exact rg_addE r_13 rl_1 (by decide) (by decide)
              refine lv_iinc (v := x_54) (lv' := [(5, .int x_54), (6, .int x_22), (1, .ref b0), (3, .int a2), (4, .int y4_12)]) hx hb dX12_goUnmount_74 hl (k := 4) rfl (by rw [ex_54]; rfl) (by decide) rfl (fun ls hl => ?_)
              refine lv_goto (tgt := 12) hx hb dX12_goUnmount_77 (by decide) ?_
              exact ih_12 H locs G_12 fl0_12 y4_12 x_54 ls frL_12 efl0_12 (rg_w rx_54 (by decide) (by decide)) hi0_12 hi1_12 (by have h1 := qx_54; have h2 := r_13.1; have h3 := r_13.2; have h4 := hm_12; omega) (lv_sub hl [2, 3, 4, 0] rfl) hv hH hS
  refine lv_aload_n hx hb dX12_goUnmount_0 rfl (lv_at hl 0 rfl) ?_
  refine lv_aload_n hx hb dX12_goUnmount_1 rfl (lv_at hl 1 rfl) ?_
  refine lv_iload_n hx hb dX12_goUnmount_2 rfl (lv_at hl 2 rfl) ?_
  refine lv_iload_n hx hb dX12_goUnmount_3 rfl (lv_at hl 3 rfl) ?_
  obtain ⟨_, ⟨rfl, t_56, hk_57⟩, o_c_55⟩ := hH h0 _ k_h0
  refine va_calli (va_runV (As := [.ref b0, .int a1, .int a2]) (rest := []) ⟨hx, hb, hml, hown, hts⟩ (c_X12_goersOf_x l g Ty G s.heap.size h0 b0 a1 a2 k_h0 k_b0 ρ hT hm0 rl krl hr1 hr3) (cwV 3 hts (gwV mw_1660 mw_1662 mw_63 mw_88 mw_1663) rfl rfl rfl hv_X12_goersOf ⟨Nat.le_of_ble_eq_true rfl, Nat.le_of_ble_eq_true rfl⟩) ⟨PcT_blind, hg_recv hK o_c_55 rfl, PcT_pre hK hH⟩ rfl rfl hl.1 rfl (lv_room (Nat.le_of_ble_eq_true rfl)) dX12_goUnmount_4 ⟨Nat.zero_le _, Nat.zero_le _⟩) hS (fun q _ h => AF.mono hS.1 h) (fun q h => AF.mono hS.1 h) (fun x_58 ux_58 t H locs ht hvm hx_58 hB hz hk hS => ?_)
  obtain ⟨hx_58, fx_58⟩ := hx_58
  obtain ⟨eTx_58, eGx_58⟩ := fx_58
  obtain ⟨G_59, eG_59⟩ : ∃ z, z = ux_58.2 := ⟨_, rfl⟩
  rw [← eG_59] at eGx_58
  obtain ⟨hfr_60, hex_61⟩ := eGx_58
  have fr_62 : FR [107, 108, 109, 110, 114] [b0, (g.2.2 115)] [106] G G_59 := FR.tr FR.rf hfr_60 (by decide) (fun b h => ⟨h.2.1, trivial⟩) (by decide)
  have u_63 : G_59.1 113 = (G.1 113) := (hfr_60.1 113 (by decide))
  have w_64 : G_59.2.1 b0 = (G.2.1 b0) := (hfr_60.2.1 b0 ⟨(ne_kd k_b0 hmk.2.2.2.1 (by decide)), trivial⟩)
  have w_65 : G_59.2.1 rl = (G.2.1 rl) := (hfr_60.2.1 rl ⟨(ne_kd krl hmk.2.2.2.1 (by decide)), trivial⟩)
  have u_66 : G_59.2.2 111 = some rl := (hfr_60.2.2 111 (by decide)).trans hr1
  have hq_67 : F_X12_goersOf_x (G.2.1 b0) (G.2.1 rl) (G.1 113) a1 a2 = x_58 := by have q := hex_61; exact q
  try rw [hq_67] at hv
  have hH : HT g Ty G_59 H := by rw [← ht, ← eTx_58, eG_59]; exact hB
  refine lv_istore (lv' := [(4, .int x_58), (0, .ref h0), (1, .ref b0), (2, .int a1), (3, .int a2)]) hx hb dX12_goUnmount_7 hl (by decide) rfl (fun ls hl => ?_)
  refine lv_iconst (v := 0) hx hb dX12_goUnmount_9 (by decide) ?_
  refine lv_istore (lv' := [(5, .int 0), (4, .int x_58), (0, .ref h0), (1, .ref b0), (2, .int a1), (3, .int a2)]) hx hb dX12_goUnmount_10 hl (by decide) rfl (fun ls hl => ?_)
  exact L_12 26 H locs G_59 (G.2.1 b0) x_58 0 ls fr_62 w_64 (rg_w rl_0 (by decide) (by decide)) hx_58 ⟨⟨σ0, hTS0⟩, fun _ _ => Or.inl rfl⟩ (by decide) (lv_sub hl [3, 5, 1, 0] rfl) hv hH hS

def F_X12_draw_x (m139 : Int32) (a0 : Int32) : Int32 × Int32 := ((jrem ((Int32.toUInt32 ((m139 * (1103515245 : Int32)) + (12345 : Int32)) >>> (Int32.toUInt32 (16 : Int32) &&& Int32.toUInt32 31)).toInt32) a0), ((m139 * (1103515245 : Int32)) + (12345 : Int32)))
set_option maxHeartbeats 4000000 in
set_option maxRecDepth 100000 in
theorem c_X12_draw_x (l : Launch) (g : Gx) (Ty : TyM) (G : Gh) (sz : Nat) (h0 : Nat) (a0 : Int32) (k_h0 : Ty h0 = some (22, 0)) (pr0 : rgI (1) (24) a0) : Met l yX12_draw (wsG yX12_draw cX12_draw 2 (some .int)) ({ frames := 0, cells := 0, slots := 0, locals := 0 }) (PcT g Ty G sz [.ref h0, .int a0]) (QwI g Ty sz (fun r u => ((rgI 0 (a0.toInt - 1) r)) ∧ u.1 = Ty ∧ FR [139] [] [] G u.2 ∧ F_X12_draw_x (G.1 139) a0 = (r, (u.2.1 139)))) 0 0 (AF Ty sz) := by
  refine Met.ofW (cc := cX12_draw) (maxL := 2) (ret := (some .int)) (by decide) rfl ?_
  intro p e s m args below meth c s₁ B hml hv
  obtain ⟨rfl, hsz, hK, hH⟩ := hv
  subst hsz
  have hx := B.exec
  have hb := B.bytes
  have hr := B.returns
  have hts := atoms_spec (ws := (wsG yX12_draw cX12_draw 2 (some .int))) B.pre
  have hG : ∀ w ∈ GW, w.before ([.ref h0, .int a0] : List Value).toArray s = true := fun w h => hts w (List.mem_cons_of_mem _ h)
  have hown : s.vm.findClass RX12 = some m.cls := findClass_of_methodNamed B.named
  have hlocks := B.notSynchronized
  have hl := lv_entry [.ref h0, .int a0] (n := 2) (Nat.le_of_ble_eq_true rfl)
  rw [lg_entry_eq]
  generalize (lg_sl [.ref h0, .int a0] ++ List.replicate (2 - (lg_sl [.ref h0, .int a0]).length) Slot.unset).toArray = ls at hl ⊢
  have hl : lv_has ls 2 [(0, .ref h0), (1, .int a0)] := hl
  have hmk : mdK g Ty := mdk_of hH k_h0
  have hv : ((jrem ((Int32.toUInt32 (((G.1 139) * (1103515245 : Int32)) + (12345 : Int32)) >>> (Int32.toUInt32 (16 : Int32) &&& Int32.toUInt32 31)).toInt32) a0), (((G.1 139) * (1103515245 : Int32)) + (12345 : Int32))) = F_X12_draw_x (G.1 139) a0 := rfl
  have hS : va_S (AF Ty s.heap.size) s.heap s.heap [] := va_S.rf
  refine lv_aload_n hx hb dX12_draw_0 rfl (lv_at hl 0 rfl) ?_
  refine lv_aload_n hx hb dX12_draw_1 rfl (lv_at hl 0 rfl) ?_
  obtain ⟨_, ⟨rfl, t_2, hk_3⟩, o_c_1⟩ := hH h0 _ k_h0
  refine hg_get hx hb hG igX12 hown hK o_c_1 rfl 39 (by decide) (hG _ mw_1323) rfl dX12_draw_2 ?_
  refine lv_ldcw (v := 1103515245) hx hb hown (hG _ mw_1865) dX12_draw_5 ?_
  refine lv_imul hx hb dX12_draw_8 ?_
  refine lv_topi (fun x_4 ex_4 => ?_)
  try rw [← ex_4] at hv
  refine lv_sipush (v := 12345) hx hb dX12_draw_9 (by decide) ?_
  refine lv_iadd hx hb dX12_draw_12 ?_
  refine lv_topi (fun x_5 ex_5 => ?_)
  try rw [← ex_5] at hv
  refine hg_put (ty := .int) hx hb hG igX12 tyX12 tyX12_ok nmX12 hown hK hS o_c_1 (AF.of k_h0) rfl 39 (by decide) (hG _ mw_1323) rfl (by decide +kernel) rfl rfl (Nat.le_of_ble_eq_true rfl) dX12_draw_13 (fun H locs o_c_1 hz oq hS => ?_)
  obtain ⟨G_6, eG_6⟩ : ∃ z : Gh, z = gset G 139 x_5 := ⟨_, rfl⟩
  have hH : HT g Ty G_6 H := by rw [eG_6]; exact HT.putN 139 x_5 hH k_h0 ⟨rfl, t_2, hk_3⟩ o_c_1 oq (Or.inr (Or.inr (Or.inr (Or.inr (Or.inr ⟨by decide, t_2⟩)))))
  have fr_7 : FR [139] [] [] G G_6 := FR.n FR.rf eG_6 (by decide)
  have u_8 : G_6.1 139 = x_5 := by rw [eG_6]; exact gs_eq
  clear oq hz
  refine lv_aload_n hx hb dX12_draw_16 rfl (lv_at hl 0 rfl) ?_
  obtain ⟨_, ⟨rfl, t_10, hk_11⟩, o_c_9⟩ := hH h0 _ k_h0
  refine hg_get hx hb hG igX12 hown hK o_c_9 rfl 39 (by decide) (hG _ mw_1323) rfl dX12_draw_17 ?_
  rw [u_8]
  refine lv_bipush (v := 16) hx hb dX12_draw_20 (by decide) ?_
  refine lv_iushr hx hb dX12_draw_22 rfl ?_
  refine lv_topi (fun x_12 ex_12 => ?_)
  try rw [← ex_12] at hv
  refine lv_iload_n hx hb dX12_draw_23 rfl (lv_at hl 1 rfl) ?_
  refine lv_irem hx hb dX12_draw_24 (rg_ne0 pr0 (by decide)) ?_
  refine lv_topi (fun x_13 ex_13 => ?_)
  try rw [← ex_13] at hv
  try rw [show jrem x_12 a0 = x_13 from ex_13.symm] at hv
  exact W.iret hx hb hr (fun t ht hWm => ⟨⟨x_13, (Ty, G_6), rfl, ⟨(dr_r ex_12 ex_13 pr0), ⟨rfl, ⟨fr_7, hv.symm.trans (by rw [u_8])⟩⟩⟩, by show HT g Ty G_6 t.heap; rw [ht]; exact hH⟩, hS.F ht⟩) hS.2.2 dX12_draw_25

def F_X12_years_x_36 : Nat → Int32 → Int32 → (Nat → Int32) → (Nat → Int32) → (Nat → Int32) → (Nat → Int32) → (Nat → Int32) → Int32 → Int32 → Int32 → (Nat → Int32) × (Nat → Int32) × (Nat → Int32) × Int32 × Int32
  | 0, _, _, _, _, yr2, yr3, yr4, _, yn127, yn139 => (yr2, yr3, yr4, yn127, yn139)
  | n + 1, y2, y3, yr0, yr1, yr2, yr3, yr4, yn113, yn127, yn139 => (if y2 ≤ y3 then (yr2, yr3, yr4, yn127, yn139) else (tu2 (F_X12_draw_x yn139 (6 : Int32)) (fun z11 z12 => (tu2 (F_X12_draw_x z12 (24 : Int32)) (fun z13 z14 => (tu2 (F_X12_draw_x z14 (4 : Int32)) (fun z15 z16 => (if (3 : Int32) ≤ z11 then (if z11 = (3 : Int32) then (if (F_X12_refusesMaking yr2 z13 (1 : Int32)) = (0 : Int32) then (tu1 (F_X12_goMake yr2 z13 (1 : Int32)) (fun z63 => (if z11 = (5 : Int32) then (if (F_X12_refusesUnmount z63 z13 z15) = (0 : Int32) then (tu2 (F_X12_goUnmount_x z63 yr1 yn113 z13 z15) (fun z78 z79 => (if z11 = (4 : Int32) then (tu2 (F_X12_draw_x z16 (24 : Int32)) (fun z80 z81 => (if (F_X12_refusesBind_x z79 yr1 yn113 z80 z13 z15) = (0 : Int32) then (tu5 (F_X12_goClone_x z79 yr1 yr3 yr4 yn113 yn127 z80 z13 z15) (fun z82 z83 z84 z85 z86 => (F_X12_years_x_36 n y2 (y3 + (1 : Int32)) yr0 yr1 z83 z84 z85 yn113 z86 z81))) else (F_X12_years_x_36 n y2 (y3 + (1 : Int32)) yr0 yr1 z79 yr3 yr4 yn113 yn127 z81)))) else (F_X12_years_x_36 n y2 (y3 + (1 : Int32)) yr0 yr1 z79 yr3 yr4 yn113 yn127 z16)))) else (if z11 = (4 : Int32) then (tu2 (F_X12_draw_x z16 (24 : Int32)) (fun z71 z72 => (if (F_X12_refusesBind_x z63 yr1 yn113 z71 z13 z15) = (0 : Int32) then (tu5 (F_X12_goClone_x z63 yr1 yr3 yr4 yn113 yn127 z71 z13 z15) (fun z73 z74 z75 z76 z77 => (F_X12_years_x_36 n y2 (y3 + (1 : Int32)) yr0 yr1 z74 z75 z76 yn113 z77 z72))) else (F_X12_years_x_36 n y2 (y3 + (1 : Int32)) yr0 yr1 z63 yr3 yr4 yn113 yn127 z72)))) else (F_X12_years_x_36 n y2 (y3 + (1 : Int32)) yr0 yr1 z63 yr3 yr4 yn113 yn127 z16))) else (if z11 = (4 : Int32) then (tu2 (F_X12_draw_x z16 (24 : Int32)) (fun z64 z65 => (if (F_X12_refusesBind_x z63 yr1 yn113 z64 z13 z15) = (0 : Int32) then (tu5 (F_X12_goClone_x z63 yr1 yr3 yr4 yn113 yn127 z64 z13 z15) (fun z66 z67 z68 z69 z70 => (F_X12_years_x_36 n y2 (y3 + (1 : Int32)) yr0 yr1 z67 z68 z69 yn113 z70 z65))) else (F_X12_years_x_36 n y2 (y3 + (1 : Int32)) yr0 yr1 z63 yr3 yr4 yn113 yn127 z65)))) else (F_X12_years_x_36 n y2 (y3 + (1 : Int32)) yr0 yr1 z63 yr3 yr4 yn113 yn127 z16))))) else (if z11 = (5 : Int32) then (if (F_X12_refusesUnmount yr2 z13 z15) = (0 : Int32) then (tu2 (F_X12_goUnmount_x yr2 yr1 yn113 z13 z15) (fun z54 z55 => (if z11 = (4 : Int32) then (tu2 (F_X12_draw_x z16 (24 : Int32)) (fun z56 z57 => (if (F_X12_refusesBind_x z55 yr1 yn113 z56 z13 z15) = (0 : Int32) then (tu5 (F_X12_goClone_x z55 yr1 yr3 yr4 yn113 yn127 z56 z13 z15) (fun z58 z59 z60 z61 z62 => (F_X12_years_x_36 n y2 (y3 + (1 : Int32)) yr0 yr1 z59 z60 z61 yn113 z62 z57))) else (F_X12_years_x_36 n y2 (y3 + (1 : Int32)) yr0 yr1 z55 yr3 yr4 yn113 yn127 z57)))) else (F_X12_years_x_36 n y2 (y3 + (1 : Int32)) yr0 yr1 z55 yr3 yr4 yn113 yn127 z16)))) else (if z11 = (4 : Int32) then (tu2 (F_X12_draw_x z16 (24 : Int32)) (fun z47 z48 => (if (F_X12_refusesBind_x yr2 yr1 yn113 z47 z13 z15) = (0 : Int32) then (tu5 (F_X12_goClone_x yr2 yr1 yr3 yr4 yn113 yn127 z47 z13 z15) (fun z49 z50 z51 z52 z53 => (F_X12_years_x_36 n y2 (y3 + (1 : Int32)) yr0 yr1 z50 z51 z52 yn113 z53 z48))) else (F_X12_years_x_36 n y2 (y3 + (1 : Int32)) yr0 yr1 yr2 yr3 yr4 yn113 yn127 z48)))) else (F_X12_years_x_36 n y2 (y3 + (1 : Int32)) yr0 yr1 yr2 yr3 yr4 yn113 yn127 z16))) else (if z11 = (4 : Int32) then (tu2 (F_X12_draw_x z16 (24 : Int32)) (fun z40 z41 => (if (F_X12_refusesBind_x yr2 yr1 yn113 z40 z13 z15) = (0 : Int32) then (tu5 (F_X12_goClone_x yr2 yr1 yr3 yr4 yn113 yn127 z40 z13 z15) (fun z42 z43 z44 z45 z46 => (F_X12_years_x_36 n y2 (y3 + (1 : Int32)) yr0 yr1 z43 z44 z45 yn113 z46 z41))) else (F_X12_years_x_36 n y2 (y3 + (1 : Int32)) yr0 yr1 yr2 yr3 yr4 yn113 yn127 z41)))) else (F_X12_years_x_36 n y2 (y3 + (1 : Int32)) yr0 yr1 yr2 yr3 yr4 yn113 yn127 z16)))) else (if z11 = (5 : Int32) then (if (F_X12_refusesUnmount yr2 z13 z15) = (0 : Int32) then (tu2 (F_X12_goUnmount_x yr2 yr1 yn113 z13 z15) (fun z31 z32 => (if z11 = (4 : Int32) then (tu2 (F_X12_draw_x z16 (24 : Int32)) (fun z33 z34 => (if (F_X12_refusesBind_x z32 yr1 yn113 z33 z13 z15) = (0 : Int32) then (tu5 (F_X12_goClone_x z32 yr1 yr3 yr4 yn113 yn127 z33 z13 z15) (fun z35 z36 z37 z38 z39 => (F_X12_years_x_36 n y2 (y3 + (1 : Int32)) yr0 yr1 z36 z37 z38 yn113 z39 z34))) else (F_X12_years_x_36 n y2 (y3 + (1 : Int32)) yr0 yr1 z32 yr3 yr4 yn113 yn127 z34)))) else (F_X12_years_x_36 n y2 (y3 + (1 : Int32)) yr0 yr1 z32 yr3 yr4 yn113 yn127 z16)))) else (if z11 = (4 : Int32) then (tu2 (F_X12_draw_x z16 (24 : Int32)) (fun z24 z25 => (if (F_X12_refusesBind_x yr2 yr1 yn113 z24 z13 z15) = (0 : Int32) then (tu5 (F_X12_goClone_x yr2 yr1 yr3 yr4 yn113 yn127 z24 z13 z15) (fun z26 z27 z28 z29 z30 => (F_X12_years_x_36 n y2 (y3 + (1 : Int32)) yr0 yr1 z27 z28 z29 yn113 z30 z25))) else (F_X12_years_x_36 n y2 (y3 + (1 : Int32)) yr0 yr1 yr2 yr3 yr4 yn113 yn127 z25)))) else (F_X12_years_x_36 n y2 (y3 + (1 : Int32)) yr0 yr1 yr2 yr3 yr4 yn113 yn127 z16))) else (if z11 = (4 : Int32) then (tu2 (F_X12_draw_x z16 (24 : Int32)) (fun z17 z18 => (if (F_X12_refusesBind_x yr2 yr1 yn113 z17 z13 z15) = (0 : Int32) then (tu5 (F_X12_goClone_x yr2 yr1 yr3 yr4 yn113 yn127 z17 z13 z15) (fun z19 z20 z21 z22 z23 => (F_X12_years_x_36 n y2 (y3 + (1 : Int32)) yr0 yr1 z20 z21 z22 yn113 z23 z18))) else (F_X12_years_x_36 n y2 (y3 + (1 : Int32)) yr0 yr1 yr2 yr3 yr4 yn113 yn127 z18)))) else (F_X12_years_x_36 n y2 (y3 + (1 : Int32)) yr0 yr1 yr2 yr3 yr4 yn113 yn127 z16)))) else (if (F_X12_refusesComing_x yr2 yr1 yn113 z13 z15) = (0 : Int32) then (tu5 (F_X12_goClone_x yr2 yr1 yr3 yr4 yn113 yn127 (24 : Int32) z13 z15) (fun z157 z158 z159 z160 z161 => (if z11 = (3 : Int32) then (if (F_X12_refusesMaking z158 z13 (1 : Int32)) = (0 : Int32) then (tu1 (F_X12_goMake z158 z13 (1 : Int32)) (fun z208 => (if z11 = (5 : Int32) then (if (F_X12_refusesUnmount z208 z13 z15) = (0 : Int32) then (tu2 (F_X12_goUnmount_x z208 yr1 yn113 z13 z15) (fun z223 z224 => (if z11 = (4 : Int32) then (tu2 (F_X12_draw_x z16 (24 : Int32)) (fun z225 z226 => (if (F_X12_refusesBind_x z224 yr1 yn113 z225 z13 z15) = (0 : Int32) then (tu5 (F_X12_goClone_x z224 yr1 z159 z160 yn113 z161 z225 z13 z15) (fun z227 z228 z229 z230 z231 => (F_X12_years_x_36 n y2 (y3 + (1 : Int32)) yr0 yr1 z228 z229 z230 yn113 z231 z226))) else (F_X12_years_x_36 n y2 (y3 + (1 : Int32)) yr0 yr1 z224 z159 z160 yn113 z161 z226)))) else (F_X12_years_x_36 n y2 (y3 + (1 : Int32)) yr0 yr1 z224 z159 z160 yn113 z161 z16)))) else (if z11 = (4 : Int32) then (tu2 (F_X12_draw_x z16 (24 : Int32)) (fun z216 z217 => (if (F_X12_refusesBind_x z208 yr1 yn113 z216 z13 z15) = (0 : Int32) then (tu5 (F_X12_goClone_x z208 yr1 z159 z160 yn113 z161 z216 z13 z15) (fun z218 z219 z220 z221 z222 => (F_X12_years_x_36 n y2 (y3 + (1 : Int32)) yr0 yr1 z219 z220 z221 yn113 z222 z217))) else (F_X12_years_x_36 n y2 (y3 + (1 : Int32)) yr0 yr1 z208 z159 z160 yn113 z161 z217)))) else (F_X12_years_x_36 n y2 (y3 + (1 : Int32)) yr0 yr1 z208 z159 z160 yn113 z161 z16))) else (if z11 = (4 : Int32) then (tu2 (F_X12_draw_x z16 (24 : Int32)) (fun z209 z210 => (if (F_X12_refusesBind_x z208 yr1 yn113 z209 z13 z15) = (0 : Int32) then (tu5 (F_X12_goClone_x z208 yr1 z159 z160 yn113 z161 z209 z13 z15) (fun z211 z212 z213 z214 z215 => (F_X12_years_x_36 n y2 (y3 + (1 : Int32)) yr0 yr1 z212 z213 z214 yn113 z215 z210))) else (F_X12_years_x_36 n y2 (y3 + (1 : Int32)) yr0 yr1 z208 z159 z160 yn113 z161 z210)))) else (F_X12_years_x_36 n y2 (y3 + (1 : Int32)) yr0 yr1 z208 z159 z160 yn113 z161 z16))))) else (if z11 = (5 : Int32) then (if (F_X12_refusesUnmount z158 z13 z15) = (0 : Int32) then (tu2 (F_X12_goUnmount_x z158 yr1 yn113 z13 z15) (fun z199 z200 => (if z11 = (4 : Int32) then (tu2 (F_X12_draw_x z16 (24 : Int32)) (fun z201 z202 => (if (F_X12_refusesBind_x z200 yr1 yn113 z201 z13 z15) = (0 : Int32) then (tu5 (F_X12_goClone_x z200 yr1 z159 z160 yn113 z161 z201 z13 z15) (fun z203 z204 z205 z206 z207 => (F_X12_years_x_36 n y2 (y3 + (1 : Int32)) yr0 yr1 z204 z205 z206 yn113 z207 z202))) else (F_X12_years_x_36 n y2 (y3 + (1 : Int32)) yr0 yr1 z200 z159 z160 yn113 z161 z202)))) else (F_X12_years_x_36 n y2 (y3 + (1 : Int32)) yr0 yr1 z200 z159 z160 yn113 z161 z16)))) else (if z11 = (4 : Int32) then (tu2 (F_X12_draw_x z16 (24 : Int32)) (fun z192 z193 => (if (F_X12_refusesBind_x z158 yr1 yn113 z192 z13 z15) = (0 : Int32) then (tu5 (F_X12_goClone_x z158 yr1 z159 z160 yn113 z161 z192 z13 z15) (fun z194 z195 z196 z197 z198 => (F_X12_years_x_36 n y2 (y3 + (1 : Int32)) yr0 yr1 z195 z196 z197 yn113 z198 z193))) else (F_X12_years_x_36 n y2 (y3 + (1 : Int32)) yr0 yr1 z158 z159 z160 yn113 z161 z193)))) else (F_X12_years_x_36 n y2 (y3 + (1 : Int32)) yr0 yr1 z158 z159 z160 yn113 z161 z16))) else (if z11 = (4 : Int32) then (tu2 (F_X12_draw_x z16 (24 : Int32)) (fun z185 z186 => (if (F_X12_refusesBind_x z158 yr1 yn113 z185 z13 z15) = (0 : Int32) then (tu5 (F_X12_goClone_x z158 yr1 z159 z160 yn113 z161 z185 z13 z15) (fun z187 z188 z189 z190 z191 => (F_X12_years_x_36 n y2 (y3 + (1 : Int32)) yr0 yr1 z188 z189 z190 yn113 z191 z186))) else (F_X12_years_x_36 n y2 (y3 + (1 : Int32)) yr0 yr1 z158 z159 z160 yn113 z161 z186)))) else (F_X12_years_x_36 n y2 (y3 + (1 : Int32)) yr0 yr1 z158 z159 z160 yn113 z161 z16)))) else (if z11 = (5 : Int32) then (if (F_X12_refusesUnmount z158 z13 z15) = (0 : Int32) then (tu2 (F_X12_goUnmount_x z158 yr1 yn113 z13 z15) (fun z176 z177 => (if z11 = (4 : Int32) then (tu2 (F_X12_draw_x z16 (24 : Int32)) (fun z178 z179 => (if (F_X12_refusesBind_x z177 yr1 yn113 z178 z13 z15) = (0 : Int32) then (tu5 (F_X12_goClone_x z177 yr1 z159 z160 yn113 z161 z178 z13 z15) (fun z180 z181 z182 z183 z184 => (F_X12_years_x_36 n y2 (y3 + (1 : Int32)) yr0 yr1 z181 z182 z183 yn113 z184 z179))) else (F_X12_years_x_36 n y2 (y3 + (1 : Int32)) yr0 yr1 z177 z159 z160 yn113 z161 z179)))) else (F_X12_years_x_36 n y2 (y3 + (1 : Int32)) yr0 yr1 z177 z159 z160 yn113 z161 z16)))) else (if z11 = (4 : Int32) then (tu2 (F_X12_draw_x z16 (24 : Int32)) (fun z169 z170 => (if (F_X12_refusesBind_x z158 yr1 yn113 z169 z13 z15) = (0 : Int32) then (tu5 (F_X12_goClone_x z158 yr1 z159 z160 yn113 z161 z169 z13 z15) (fun z171 z172 z173 z174 z175 => (F_X12_years_x_36 n y2 (y3 + (1 : Int32)) yr0 yr1 z172 z173 z174 yn113 z175 z170))) else (F_X12_years_x_36 n y2 (y3 + (1 : Int32)) yr0 yr1 z158 z159 z160 yn113 z161 z170)))) else (F_X12_years_x_36 n y2 (y3 + (1 : Int32)) yr0 yr1 z158 z159 z160 yn113 z161 z16))) else (if z11 = (4 : Int32) then (tu2 (F_X12_draw_x z16 (24 : Int32)) (fun z162 z163 => (if (F_X12_refusesBind_x z158 yr1 yn113 z162 z13 z15) = (0 : Int32) then (tu5 (F_X12_goClone_x z158 yr1 z159 z160 yn113 z161 z162 z13 z15) (fun z164 z165 z166 z167 z168 => (F_X12_years_x_36 n y2 (y3 + (1 : Int32)) yr0 yr1 z165 z166 z167 yn113 z168 z163))) else (F_X12_years_x_36 n y2 (y3 + (1 : Int32)) yr0 yr1 z158 z159 z160 yn113 z161 z163)))) else (F_X12_years_x_36 n y2 (y3 + (1 : Int32)) yr0 yr1 z158 z159 z160 yn113 z161 z16)))))) else (if z11 = (3 : Int32) then (if (F_X12_refusesMaking yr2 z13 (1 : Int32)) = (0 : Int32) then (tu1 (F_X12_goMake yr2 z13 (1 : Int32)) (fun z133 => (if z11 = (5 : Int32) then (if (F_X12_refusesUnmount z133 z13 z15) = (0 : Int32) then (tu2 (F_X12_goUnmount_x z133 yr1 yn113 z13 z15) (fun z148 z149 => (if z11 = (4 : Int32) then (tu2 (F_X12_draw_x z16 (24 : Int32)) (fun z150 z151 => (if (F_X12_refusesBind_x z149 yr1 yn113 z150 z13 z15) = (0 : Int32) then (tu5 (F_X12_goClone_x z149 yr1 yr3 yr4 yn113 yn127 z150 z13 z15) (fun z152 z153 z154 z155 z156 => (F_X12_years_x_36 n y2 (y3 + (1 : Int32)) yr0 yr1 z153 z154 z155 yn113 z156 z151))) else (F_X12_years_x_36 n y2 (y3 + (1 : Int32)) yr0 yr1 z149 yr3 yr4 yn113 yn127 z151)))) else (F_X12_years_x_36 n y2 (y3 + (1 : Int32)) yr0 yr1 z149 yr3 yr4 yn113 yn127 z16)))) else (if z11 = (4 : Int32) then (tu2 (F_X12_draw_x z16 (24 : Int32)) (fun z141 z142 => (if (F_X12_refusesBind_x z133 yr1 yn113 z141 z13 z15) = (0 : Int32) then (tu5 (F_X12_goClone_x z133 yr1 yr3 yr4 yn113 yn127 z141 z13 z15) (fun z143 z144 z145 z146 z147 => (F_X12_years_x_36 n y2 (y3 + (1 : Int32)) yr0 yr1 z144 z145 z146 yn113 z147 z142))) else (F_X12_years_x_36 n y2 (y3 + (1 : Int32)) yr0 yr1 z133 yr3 yr4 yn113 yn127 z142)))) else (F_X12_years_x_36 n y2 (y3 + (1 : Int32)) yr0 yr1 z133 yr3 yr4 yn113 yn127 z16))) else (if z11 = (4 : Int32) then (tu2 (F_X12_draw_x z16 (24 : Int32)) (fun z134 z135 => (if (F_X12_refusesBind_x z133 yr1 yn113 z134 z13 z15) = (0 : Int32) then (tu5 (F_X12_goClone_x z133 yr1 yr3 yr4 yn113 yn127 z134 z13 z15) (fun z136 z137 z138 z139 z140 => (F_X12_years_x_36 n y2 (y3 + (1 : Int32)) yr0 yr1 z137 z138 z139 yn113 z140 z135))) else (F_X12_years_x_36 n y2 (y3 + (1 : Int32)) yr0 yr1 z133 yr3 yr4 yn113 yn127 z135)))) else (F_X12_years_x_36 n y2 (y3 + (1 : Int32)) yr0 yr1 z133 yr3 yr4 yn113 yn127 z16))))) else (if z11 = (5 : Int32) then (if (F_X12_refusesUnmount yr2 z13 z15) = (0 : Int32) then (tu2 (F_X12_goUnmount_x yr2 yr1 yn113 z13 z15) (fun z124 z125 => (if z11 = (4 : Int32) then (tu2 (F_X12_draw_x z16 (24 : Int32)) (fun z126 z127 => (if (F_X12_refusesBind_x z125 yr1 yn113 z126 z13 z15) = (0 : Int32) then (tu5 (F_X12_goClone_x z125 yr1 yr3 yr4 yn113 yn127 z126 z13 z15) (fun z128 z129 z130 z131 z132 => (F_X12_years_x_36 n y2 (y3 + (1 : Int32)) yr0 yr1 z129 z130 z131 yn113 z132 z127))) else (F_X12_years_x_36 n y2 (y3 + (1 : Int32)) yr0 yr1 z125 yr3 yr4 yn113 yn127 z127)))) else (F_X12_years_x_36 n y2 (y3 + (1 : Int32)) yr0 yr1 z125 yr3 yr4 yn113 yn127 z16)))) else (if z11 = (4 : Int32) then (tu2 (F_X12_draw_x z16 (24 : Int32)) (fun z117 z118 => (if (F_X12_refusesBind_x yr2 yr1 yn113 z117 z13 z15) = (0 : Int32) then (tu5 (F_X12_goClone_x yr2 yr1 yr3 yr4 yn113 yn127 z117 z13 z15) (fun z119 z120 z121 z122 z123 => (F_X12_years_x_36 n y2 (y3 + (1 : Int32)) yr0 yr1 z120 z121 z122 yn113 z123 z118))) else (F_X12_years_x_36 n y2 (y3 + (1 : Int32)) yr0 yr1 yr2 yr3 yr4 yn113 yn127 z118)))) else (F_X12_years_x_36 n y2 (y3 + (1 : Int32)) yr0 yr1 yr2 yr3 yr4 yn113 yn127 z16))) else (if z11 = (4 : Int32) then (tu2 (F_X12_draw_x z16 (24 : Int32)) (fun z110 z111 => (if (F_X12_refusesBind_x yr2 yr1 yn113 z110 z13 z15) = (0 : Int32) then (tu5 (F_X12_goClone_x yr2 yr1 yr3 yr4 yn113 yn127 z110 z13 z15) (fun z112 z113 z114 z115 z116 => (F_X12_years_x_36 n y2 (y3 + (1 : Int32)) yr0 yr1 z113 z114 z115 yn113 z116 z111))) else (F_X12_years_x_36 n y2 (y3 + (1 : Int32)) yr0 yr1 yr2 yr3 yr4 yn113 yn127 z111)))) else (F_X12_years_x_36 n y2 (y3 + (1 : Int32)) yr0 yr1 yr2 yr3 yr4 yn113 yn127 z16)))) else (if z11 = (5 : Int32) then (if (F_X12_refusesUnmount yr2 z13 z15) = (0 : Int32) then (tu2 (F_X12_goUnmount_x yr2 yr1 yn113 z13 z15) (fun z101 z102 => (if z11 = (4 : Int32) then (tu2 (F_X12_draw_x z16 (24 : Int32)) (fun z103 z104 => (if (F_X12_refusesBind_x z102 yr1 yn113 z103 z13 z15) = (0 : Int32) then (tu5 (F_X12_goClone_x z102 yr1 yr3 yr4 yn113 yn127 z103 z13 z15) (fun z105 z106 z107 z108 z109 => (F_X12_years_x_36 n y2 (y3 + (1 : Int32)) yr0 yr1 z106 z107 z108 yn113 z109 z104))) else (F_X12_years_x_36 n y2 (y3 + (1 : Int32)) yr0 yr1 z102 yr3 yr4 yn113 yn127 z104)))) else (F_X12_years_x_36 n y2 (y3 + (1 : Int32)) yr0 yr1 z102 yr3 yr4 yn113 yn127 z16)))) else (if z11 = (4 : Int32) then (tu2 (F_X12_draw_x z16 (24 : Int32)) (fun z94 z95 => (if (F_X12_refusesBind_x yr2 yr1 yn113 z94 z13 z15) = (0 : Int32) then (tu5 (F_X12_goClone_x yr2 yr1 yr3 yr4 yn113 yn127 z94 z13 z15) (fun z96 z97 z98 z99 z100 => (F_X12_years_x_36 n y2 (y3 + (1 : Int32)) yr0 yr1 z97 z98 z99 yn113 z100 z95))) else (F_X12_years_x_36 n y2 (y3 + (1 : Int32)) yr0 yr1 yr2 yr3 yr4 yn113 yn127 z95)))) else (F_X12_years_x_36 n y2 (y3 + (1 : Int32)) yr0 yr1 yr2 yr3 yr4 yn113 yn127 z16))) else (if z11 = (4 : Int32) then (tu2 (F_X12_draw_x z16 (24 : Int32)) (fun z87 z88 => (if (F_X12_refusesBind_x yr2 yr1 yn113 z87 z13 z15) = (0 : Int32) then (tu5 (F_X12_goClone_x yr2 yr1 yr3 yr4 yn113 yn127 z87 z13 z15) (fun z89 z90 z91 z92 z93 => (F_X12_years_x_36 n y2 (y3 + (1 : Int32)) yr0 yr1 z90 z91 z92 yn113 z93 z88))) else (F_X12_years_x_36 n y2 (y3 + (1 : Int32)) yr0 yr1 yr2 yr3 yr4 yn113 yn127 z88)))) else (F_X12_years_x_36 n y2 (y3 + (1 : Int32)) yr0 yr1 yr2 yr3 yr4 yn113 yn127 z16)))))))))))))
def F_X12_years_x (r0 : Nat → Int32) (r1 : Nat → Int32) (r2 : Nat → Int32) (r3 : Nat → Int32) (r4 : Nat → Int32) (m113 : Int32) (m127 : Int32) (m139 : Int32) (a0 : Int32) (a1 : Int32) : Int32 × (Nat → Int32) × (Nat → Int32) × (Nat → Int32) × Int32 × Int32 := (if (F_X12_in a1 (1 : Int32) (40 : Int32)) = (0 : Int32) then ((-1 : Int32), r2, r3, r4, m127, m139) else (tu5 (F_X12_years_x_36 42 a1 (0 : Int32) r0 r1 (LYF r0 r2 (Int32.toNatClampNeg (0 : Int32))) r3 r4 m113 m127 a0) (fun z232 z233 z234 z235 z236 => ((F_J6_bitCount_0f7a4 (F_X12_thereOf z232)), z232, z233, z234, z235, z236))))
set_option maxHeartbeats 4000000 in
set_option maxRecDepth 100000 in
theorem c_X12_years_x (l : Launch) (g : Gx) (Ty : TyM) (G : Gh) (sz : Nat) (h0 : Nat) (a0 : Int32) (a1 : Int32) (k_h0 : Ty h0 = some (22, 0)) (Bd : Int) (hI : OI g Bd G) (hBd : Bd ≤ 1900000) (hLD : LD g) : Met l yX12_years (wsG yX12_years cX12_years 8 (some .int)) ({ frames := 342, cells := 0, slots := 0, locals := 8018 }) (PcT g Ty G sz [.ref h0, .int a0, .int a1]) (QwI g Ty sz (fun r u => u.1 = Ty ∧ FR [107, 108, 109, 110, 114, 127, 128, 104, 105, 139] [(g.2.2 124), (g.2.2 115), (g.2.2 125), (g.2.2 126)] [106] G u.2 ∧ OI g (Bd + 1000) u.2 ∧ F_X12_years_x (G.2.1 (g.2.2 100)) (G.2.1 (g.2.2 111)) (G.2.1 (g.2.2 124)) (G.2.1 (g.2.2 125)) (G.2.1 (g.2.2 126)) (G.1 113) (G.1 127) (G.1 139) a0 a1 = (r, (u.2.2.1 (g.2.2 124)), (u.2.2.1 (g.2.2 125)), (u.2.2.1 (g.2.2 126)), (u.2.1 127), (u.2.1 139)))) 0 0 (AF Ty sz) := by
  refine Met.ofW (cc := cX12_years) (maxL := 8) (ret := (some .int)) (by decide) rfl ?_
  intro p e s m args below meth c s₁ B hml hv
  obtain ⟨rfl, hsz, hK, hH⟩ := hv
  subst hsz
  have hx := B.exec
  have hb := B.bytes
  have hr := B.returns
  have hts := atoms_spec (ws := (wsG yX12_years cX12_years 8 (some .int))) B.pre
  have hG : ∀ w ∈ GW, w.before ([.ref h0, .int a0, .int a1] : List Value).toArray s = true := fun w h => hts w (List.mem_cons_of_mem _ h)
  have hown : s.vm.findClass RX12 = some m.cls := findClass_of_methodNamed B.named
  have hlocks := B.notSynchronized
  have hl := lv_entry [.ref h0, .int a0, .int a1] (n := 8) (Nat.le_of_ble_eq_true rfl)
  rw [lg_entry_eq]
  generalize (lg_sl [.ref h0, .int a0, .int a1] ++ List.replicate (8 - (lg_sl [.ref h0, .int a0, .int a1]).length) Slot.unset).toArray = ls at hl ⊢
  have hl : lv_has ls 8 [(0, .ref h0), (1, .int a0), (2, .int a1)] := hl
  have hmk : mdK g Ty := mdk_of hH k_h0
  have hv : (if (F_X12_in a1 (1 : Int32) (40 : Int32)) = (0 : Int32) then ((-1 : Int32), (G.2.1 (g.2.2 124)), (G.2.1 (g.2.2 125)), (G.2.1 (g.2.2 126)), (G.1 127), (G.1 139)) else (tu5 (F_X12_years_x_36 42 a1 (0 : Int32) (G.2.1 (g.2.2 100)) (G.2.1 (g.2.2 111)) (LYF (G.2.1 (g.2.2 100)) (G.2.1 (g.2.2 124)) (Int32.toNatClampNeg (0 : Int32))) (G.2.1 (g.2.2 125)) (G.2.1 (g.2.2 126)) (G.1 113) (G.1 127) a0) (fun z6 z7 z8 z9 z10 => ((F_J6_bitCount_0f7a4 (F_X12_thereOf z6)), z6, z7, z8, z9, z10)))) = F_X12_years_x (G.2.1 (g.2.2 100)) (G.2.1 (g.2.2 111)) (G.2.1 (g.2.2 124)) (G.2.1 (g.2.2 125)) (G.2.1 (g.2.2 126)) (G.1 113) (G.1 127) (G.1 139) a0 a1 := rfl
  have hS : va_S (AF Ty s.heap.size) s.heap s.heap [] := va_S.rf
  obtain ⟨⟨σ0, hTS0⟩, h10, hBB0⟩ := id hI.ti
  obtain ⟨ρ, hT⟩ := hTS0.1
  have L_36 : ∀ (n_36 : Nat) (H : Heap) (locs : List Loc) (G_36 : Gh) (fl5_36 : Nat → Int32) (fl6_36 : Nat → Int32) (fl7_36 : Nat → Int32) (nl127_36 : Int32) (nl139_36 : Int32) (y3_36 : Int32) (ls : Array Slot), rgI (0) (32) (G_36.1 104) → FR [107, 108, 109, 110, 114, 127, 128, 104, 105, 139] [(g.2.2 124), (g.2.2 115), (g.2.2 125), (g.2.2 126)] [106] G G_36 → G_36.2.1 (g.2.2 124) = fl5_36 → G_36.2.1 (g.2.2 125) = fl6_36 → G_36.2.1 (g.2.2 126) = fl7_36 → G_36.1 127 = nl127_36 → G_36.1 139 = nl139_36 → rgI (1) (40) a1 → rgI (0) (40) y3_36 → TI (Bd + 25 * (y3_36 : Int32).toInt) fl5_36 → (40 - (y3_36).toInt).toNat < n_36 → lv_has ls 8 [(0, .ref h0), (2, .int a1), (3, .int y3_36)] → (tu5 (F_X12_years_x_36 n_36 a1 y3_36 (G.2.1 (g.2.2 100)) (G.2.1 (g.2.2 111)) fl5_36 fl6_36 fl7_36 (G.1 113) nl127_36 nl139_36) (fun z1 z2 z3 z4 z5 => ((F_J6_bitCount_0f7a4 (F_X12_thereOf z1)), z1, z2, z3, z4, z5))) = F_X12_years_x (G.2.1 (g.2.2 100)) (G.2.1 (g.2.2 111)) (G.2.1 (g.2.2 124)) (G.2.1 (g.2.2 125)) (G.2.1 (g.2.2 126)) (G.1 113) (G.1 127) (G.1 139) a0 a1 → HT g Ty G_36 H → va_S (AF Ty s.heap.size) s.heap H locs → Wm p l e (wsG yX12_years cX12_years 8 (some .int)) ({ frames := 342, cells := 0, slots := 0, locals := 8018 }) s m [.ref h0, .int a0, .int a1] below meth c H locs (0) (0) (QwI g Ty s.heap.size (fun r u => u.1 = Ty ∧ FR [107, 108, 109, 110, 114, 127, 128, 104, 105, 139] [(g.2.2 124), (g.2.2 115), (g.2.2 125), (g.2.2 126)] [106] G u.2 ∧ OI g (Bd + 1000) u.2 ∧ F_X12_years_x (G.2.1 (g.2.2 100)) (G.2.1 (g.2.2 111)) (G.2.1 (g.2.2 124)) (G.2.1 (g.2.2 125)) (G.2.1 (g.2.2 126)) (G.1 113) (G.1 127) (G.1 139) a0 a1 = (r, (u.2.2.1 (g.2.2 124)), (u.2.2.1 (g.2.2 125)), (u.2.2.1 (g.2.2 126)), (u.2.1 127), (u.2.1 139)))) 0 0 (AF Ty s.heap.size) (F0 m 36 ls []) := by
    intro n_36
    induction n_36 with
    | zero => intro H locs G_36 fl5_36 fl6_36 fl7_36 nl127_36 nl139_36 y3_36 ls rg104_36 frL_36 efl5_36 efl6_36 efl7_36 enl127_36 enl139_36 ry2_36 ry3_36 hi0_36 hm; exact absurd hm (Nat.not_lt_zero _)
    | succ n_36 ih_36 =>
      intro H locs G_36 fl5_36 fl6_36 fl7_36 nl127_36 nl139_36 y3_36 ls rg104_36 frL_36 efl5_36 efl6_36 efl7_36 enl127_36 enl139_36 ry2_36 ry3_36 hi0_36 hm_36 hl hv hH hS
      rw [F_X12_years_x_36] at hv
      refine lv_iload_n hx hb dX12_years_36 rfl (lv_at hl 2 rfl) ?_
      refine lv_iload_n hx hb dX12_years_37 rfl (lv_at hl 1 rfl) ?_
      refine lv_icmp_ge (tgt := 217) hx hb dX12_years_38 (by decide) (fun c_1 => ?_) (fun c_1 => ?_)
      · rw [if_pos c_1] at hv
        have r_2 : rgI (1) (40) y3_36 := rg_w (rg_leR ry2_36 ry3_36 c_1) (by decide) (by decide)
        rw [tu5_eq] at hv
        refine lv_aload_n hx hb dX12_years_217 rfl (lv_at hl 0 rfl) ?_
        refine lv_iconst (v := 0) hx hb dX12_years_218 (by decide) ?_
        obtain ⟨_, ⟨rfl, t_4, hk_5⟩, o_c_3⟩ := hH h0 _ k_h0
        refine hg_put (ty := .int) hx hb hG igX12 tyX12 tyX12_ok nmX12 hown hK hS o_c_3 (AF.of k_h0) rfl 4 (by decide) (hG _ mw_1288) rfl (by decide +kernel) rfl rfl (Nat.le_of_ble_eq_true rfl) dX12_years_219 (fun H locs o_c_3 hz oq hS => ?_)
        obtain ⟨G_6, eG_6⟩ : ∃ z : Gh, z = gset G_36 104 0 := ⟨_, rfl⟩
        have hH : HT g Ty G_6 H := by rw [eG_6]; exact HT.putN 104 0 hH k_h0 ⟨rfl, t_4, hk_5⟩ o_c_3 oq (Or.inr (Or.inr (Or.inr (Or.inr (Or.inr ⟨by decide, t_4⟩)))))
        have fr_7 : FR [107, 108, 109, 110, 114, 127, 128, 104, 105, 139] [(g.2.2 124), (g.2.2 115), (g.2.2 125), (g.2.2 126)] [106] G G_6 := FR.n frL_36 eG_6 (by decide)
        have u_8 : G_6.1 102 = (G.1 102) := by rw [eG_6]; exact (gs_ne (by decide)).trans (frL_36.1 102 (by decide))
        have u_9 : G_6.1 113 = (G.1 113) := by rw [eG_6]; exact (gs_ne (by decide)).trans (frL_36.1 113 (by decide))
        have u_10 : G_6.1 122 = (G.1 122) := by rw [eG_6]; exact (gs_ne (by decide)).trans (frL_36.1 122 (by decide))
        have u_11 : G_6.1 133 = (G.1 133) := by rw [eG_6]; exact (gs_ne (by decide)).trans (frL_36.1 133 (by decide))
        have u_12 : G_6.1 137 = (G.1 137) := by rw [eG_6]; exact (gs_ne (by decide)).trans (frL_36.1 137 (by decide))
        have u_13 : G_6.1 127 = nl127_36 := by rw [eG_6]; exact (gs_ne (by decide)).trans enl127_36
        have u_14 : G_6.1 139 = nl139_36 := by rw [eG_6]; exact (gs_ne (by decide)).trans enl139_36
        have u_15 : G_6.1 104 = 0 := by rw [eG_6]; exact gs_eq
        have w_16 : G_6.2.1 (g.2.2 100) = (G.2.1 (g.2.2 100)) := by rw [eG_6]; exact (frL_36.2.1 (g.2.2 100) ⟨(hLD 100 (by decide) 124 (by decide) (by decide)), (ne_kd hmk.1 hmk.2.2.2.1 (by decide)), (ne_kd hmk.1 hmk.2.2.2.2.2.2.2.2.1 (by decide)), (ne_kd hmk.1 hmk.2.2.2.2.2.2.2.2.2.1 (by decide)), trivial⟩)
        have w_17 : G_6.2.1 (g.2.2 121) = (G.2.1 (g.2.2 121)) := by rw [eG_6]; exact (frL_36.2.1 (g.2.2 121) ⟨(ne_kd hmk.2.2.2.2.2.1 hmk.2.2.2.2.2.2.2.1 (by decide)), (ne_kd hmk.2.2.2.2.2.1 hmk.2.2.2.1 (by decide)), (ne_kd hmk.2.2.2.2.2.1 hmk.2.2.2.2.2.2.2.2.1 (by decide)), (ne_kd hmk.2.2.2.2.2.1 hmk.2.2.2.2.2.2.2.2.2.1 (by decide)), trivial⟩)
        have w_18 : G_6.2.1 (g.2.2 140) = (G.2.1 (g.2.2 140)) := by rw [eG_6]; exact (frL_36.2.1 (g.2.2 140) ⟨(ne_kd hmk.2.2.2.2.2.2.2.2.2.2.2.2.2.2.2.2.2.2.1 hmk.2.2.2.2.2.2.2.1 (by decide)), (ne_kd hmk.2.2.2.2.2.2.2.2.2.2.2.2.2.2.2.2.2.2.1 hmk.2.2.2.1 (by decide)), (ne_kd hmk.2.2.2.2.2.2.2.2.2.2.2.2.2.2.2.2.2.2.1 hmk.2.2.2.2.2.2.2.2.1 (by decide)), (ne_kd hmk.2.2.2.2.2.2.2.2.2.2.2.2.2.2.2.2.2.2.1 hmk.2.2.2.2.2.2.2.2.2.1 (by decide)), trivial⟩)
        have w_19 : G_6.2.1 (g.2.2 141) = (G.2.1 (g.2.2 141)) := by rw [eG_6]; exact (frL_36.2.1 (g.2.2 141) ⟨(ne_kd hmk.2.2.2.2.2.2.2.2.2.2.2.2.2.2.2.2.2.2.2.1 hmk.2.2.2.2.2.2.2.1 (by decide)), (ne_kd hmk.2.2.2.2.2.2.2.2.2.2.2.2.2.2.2.2.2.2.2.1 hmk.2.2.2.1 (by decide)), (ne_kd hmk.2.2.2.2.2.2.2.2.2.2.2.2.2.2.2.2.2.2.2.1 hmk.2.2.2.2.2.2.2.2.1 (by decide)), (ne_kd hmk.2.2.2.2.2.2.2.2.2.2.2.2.2.2.2.2.2.2.2.1 hmk.2.2.2.2.2.2.2.2.2.1 (by decide)), trivial⟩)
        have w_20 : G_6.2.1 (g.2.2 111) = (G.2.1 (g.2.2 111)) := by rw [eG_6]; exact (frL_36.2.1 (g.2.2 111) ⟨(ne_kd hmk.2.2.2.2.2.2.2.2.2.2.2.2.2.2.2.2.2.2.2.2.1 hmk.2.2.2.2.2.2.2.1 (by decide)), (ne_kd hmk.2.2.2.2.2.2.2.2.2.2.2.2.2.2.2.2.2.2.2.2.1 hmk.2.2.2.1 (by decide)), (ne_kd hmk.2.2.2.2.2.2.2.2.2.2.2.2.2.2.2.2.2.2.2.2.1 hmk.2.2.2.2.2.2.2.2.1 (by decide)), (ne_kd hmk.2.2.2.2.2.2.2.2.2.2.2.2.2.2.2.2.2.2.2.2.1 hmk.2.2.2.2.2.2.2.2.2.1 (by decide)), trivial⟩)
        have w_21 : G_6.2.1 (g.2.2 124) = fl5_36 := by rw [eG_6]; exact efl5_36
        have w_22 : G_6.2.1 (g.2.2 125) = fl6_36 := by rw [eG_6]; exact efl6_36
        have w_23 : G_6.2.1 (g.2.2 126) = fl7_36 := by rw [eG_6]; exact efl7_36
        have u_24 : G_6.2.2 111 = some (g.2.2 111) := by rw [eG_6]; exact ((frL_36.2.2 111 (by decide)).trans hI.r111)
        have u_25 : G_6.2.2 112 = some (g.2.2 112) := by rw [eG_6]; exact ((frL_36.2.2 112 (by decide)).trans hI.r112)
        clear oq hz
        refine lv_aload_n hx hb dX12_years_222 rfl (lv_at hl 0 rfl) ?_
        refine lv_aload_n hx hb dX12_years_223 rfl (lv_at hl 0 rfl) ?_
        obtain ⟨_, ⟨rfl, t_27, hk_28⟩, o_c_26⟩ := hH h0 _ k_h0
        refine hg_get hx hb hG igX12 hown hK o_c_26 rfl 24 (by decide) (hG _ mw_1308) rfl dX12_years_224 ?_
        refine vp_callSi (W.runS (As := [.ref (g.2.2 124)]) (rest := [.ref h0]) ⟨hx, hb, hml, hown, hts⟩ (c_X12_groupsOf l g Ty G_6 (g.2.2 124) (hk_28.2.2.2.2.2.2.2.1)) (cwSx 1 hts hG (gwC mw_1729) mw_88 mw_1727 mw_1728 rfl rfl rfl hd_X12_groupsOf ⟨Nat.le_of_ble_eq_true rfl, Nat.le_of_ble_eq_true rfl⟩) ⟨PcH_blind, PcH_pre hK hH⟩ rfl rfl hl.1 rfl (lv_room (Nat.le_of_ble_eq_true rfl)) dX12_years_227 ⟨Nat.zero_le _, Nat.zero_le _⟩) (fun x_29 hx_29 => ?_)
        refine lv_i2l hx hb dX12_years_230 rfl ?_
        refine lv_topl (fun u_30 eu_30 => ?_)
        refine va_callv (va_runV (As := [.long u_30]) (rest := []) ⟨hx, hb, hml, hown, hts⟩ (c_X12_tell l g Ty G_6 H.size h0 u_30 k_h0 (by rw [u_15]; exact rg_w rl_0 (by decide) (by decide))) (cwV 1 hts (gwV mw_1510 mw_1512 mw_48 mw_88 mw_1513) rfl rfl rfl hv_X12_tell ⟨Nat.le_of_ble_eq_true rfl, Nat.le_of_ble_eq_true rfl⟩) ⟨PcT_blind, hg_recv hK o_c_26 rfl, PcT_pre hK hH⟩ rfl rfl hl.1 rfl (lv_room (Nat.le_of_ble_eq_true rfl)) dX12_years_231 ⟨Nat.zero_le _, Nat.zero_le _⟩) hS (fun q _ h => AF.mono hS.1 h) (fun q h => AF.mono hS.1 h) (fun ux_31 t H locs ht hvm hx_31 hB hz hk hS => ?_)
        obtain ⟨eTx_31, eGx_31⟩ := hx_31
        obtain ⟨G_32, eG_32⟩ : ∃ z, z = ux_31.2 := ⟨_, rfl⟩
        rw [← eG_32] at eGx_31
        obtain ⟨x_33, ex_33⟩ : ∃ z : Int32, z = 0 + 1 := ⟨_, rfl⟩
        have e_34 : G_32 = gset G_6 104 x_33 := by rw [ex_33, ← u_15]; exact eGx_31
        have rx_33 : rgI (1) (1) x_33 := by rw [ex_33]; exact rg_w (rg_add rl_0 rl_1 (by decide) (by decide)) (by decide) (by decide)
        have fr_35 : FR [107, 108, 109, 110, 114, 127, 128, 104, 105, 139] [(g.2.2 124), (g.2.2 115), (g.2.2 125), (g.2.2 126)] [106] G G_32 := FR.n fr_7 e_34 (by decide)
        have u_36 : G_32.1 102 = (G.1 102) := by rw [e_34]; exact (gs_ne (by decide)).trans u_8
        have u_37 : G_32.1 113 = (G.1 113) := by rw [e_34]; exact (gs_ne (by decide)).trans u_9
        have u_38 : G_32.1 122 = (G.1 122) := by rw [e_34]; exact (gs_ne (by decide)).trans u_10
        have u_39 : G_32.1 133 = (G.1 133) := by rw [e_34]; exact (gs_ne (by decide)).trans u_11
        have u_40 : G_32.1 137 = (G.1 137) := by rw [e_34]; exact (gs_ne (by decide)).trans u_12
        have u_41 : G_32.1 127 = nl127_36 := by rw [e_34]; exact (gs_ne (by decide)).trans u_13
        have u_42 : G_32.1 139 = nl139_36 := by rw [e_34]; exact (gs_ne (by decide)).trans u_14
        have u_43 : G_32.1 104 = x_33 := by rw [e_34]; exact gs_eq
        have w_44 : G_32.2.1 (g.2.2 100) = (G.2.1 (g.2.2 100)) := by rw [e_34]; exact w_16
        have w_45 : G_32.2.1 (g.2.2 121) = (G.2.1 (g.2.2 121)) := by rw [e_34]; exact w_17
        have w_46 : G_32.2.1 (g.2.2 140) = (G.2.1 (g.2.2 140)) := by rw [e_34]; exact w_18
        have w_47 : G_32.2.1 (g.2.2 141) = (G.2.1 (g.2.2 141)) := by rw [e_34]; exact w_19
        have w_48 : G_32.2.1 (g.2.2 111) = (G.2.1 (g.2.2 111)) := by rw [e_34]; exact w_20
        have w_49 : G_32.2.1 (g.2.2 124) = fl5_36 := by rw [e_34]; exact w_21
        have w_50 : G_32.2.1 (g.2.2 125) = fl6_36 := by rw [e_34]; exact w_22
        have w_51 : G_32.2.1 (g.2.2 126) = fl7_36 := by rw [e_34]; exact w_23
        have u_52 : G_32.2.2 111 = some (g.2.2 111) := by rw [e_34]; exact u_24
        have u_53 : G_32.2.2 112 = some (g.2.2 112) := by rw [e_34]; exact u_25
        have hH : HT g Ty G_32 H := by rw [← ht, ← eTx_31, eG_32]; exact hB
        refine lv_aload_n hx hb dX12_years_234 rfl (lv_at hl 0 rfl) ?_
        refine lv_aload_n hx hb dX12_years_235 rfl (lv_at hl 0 rfl) ?_
        obtain ⟨_, ⟨rfl, t_55, hk_56⟩, o_c_54⟩ := hH h0 _ k_h0
        refine hg_get hx hb hG igX12 hown hK o_c_54 rfl 24 (by decide) (hG _ mw_1308) rfl dX12_years_236 ?_
        refine lv_bipush (v := 120) hx hb dX12_years_239 (by decide) ?_
        obtain ⟨_, rfl, o_c_57⟩ := hH (g.2.2 124) _ hk_56.2.2.2.2.2.2.2.1
        have o_c_57 : va_at g.1 vwCl ((g.2.2 124), .inl (g.2.1 1, 122, .inl (G_32.2.1 (g.2.2 124)))) H := o_c_57
        refine hg_iald hx hb hK o_c_57 (rg_in (n := 122) rl_120 (by decide) (by decide)) dX12_years_241 ?_
        rw [w_49]
        refine lv_topi (fun x_58 ex_58 => ?_)
        try rw [← ex_58] at hv
        refine lv_aload_n hx hb dX12_years_242 rfl (lv_at hl 0 rfl) ?_
        refine hg_get hx hb hG igX12 hown hK o_c_54 rfl 0 (by decide) (hG _ mw_1284) rfl dX12_years_243 ?_
        refine lv_bipush (v := 120) hx hb dX12_years_246 (by decide) ?_
        obtain ⟨_, rfl, o_c_59⟩ := hH (g.2.2 100) _ hk_56.1
        have o_c_59 : va_at g.1 vwCl ((g.2.2 100), .inl (g.2.1 1, 122, .inl (G_32.2.1 (g.2.2 100)))) H := o_c_59
        refine hg_iald hx hb hK o_c_59 (rg_in (n := 122) rl_120 (by decide) (by decide)) dX12_years_248 ?_
        rw [w_44]
        refine lv_topi (fun x_60 ex_60 => ?_)
        try rw [← ex_60] at hv
        refine lv_isub hx hb dX12_years_249 ?_
        refine lv_topi (fun x_61 ex_61 => ?_)
        try rw [← ex_61] at hv
        refine lv_i2l hx hb dX12_years_250 rfl ?_
        refine lv_topl (fun u_62 eu_62 => ?_)
        refine va_callv (va_runV (As := [.long u_62]) (rest := []) ⟨hx, hb, hml, hown, hts⟩ (c_X12_tell l g Ty G_32 H.size h0 u_62 k_h0 (by rw [u_43]; exact rg_w rx_33 (by decide) (by decide))) (cwV 1 hts (gwV mw_1510 mw_1512 mw_48 mw_88 mw_1513) rfl rfl rfl hv_X12_tell ⟨Nat.le_of_ble_eq_true rfl, Nat.le_of_ble_eq_true rfl⟩) ⟨PcT_blind, hg_recv hK o_c_54 rfl, PcT_pre hK hH⟩ rfl rfl hl.1 rfl (lv_room (Nat.le_of_ble_eq_true rfl)) dX12_years_251 ⟨Nat.zero_le _, Nat.zero_le _⟩) hS (fun q _ h => AF.mono hS.1 h) (fun q h => AF.mono hS.1 h) (fun ux_63 t H locs ht hvm hx_63 hB hz hk hS => ?_)
        obtain ⟨eTx_63, eGx_63⟩ := hx_63
        obtain ⟨G_64, eG_64⟩ : ∃ z, z = ux_63.2 := ⟨_, rfl⟩
        rw [← eG_64] at eGx_63
        obtain ⟨x_65, ex_65⟩ : ∃ z : Int32, z = x_33 + 1 := ⟨_, rfl⟩
        have e_66 : G_64 = gset G_32 104 x_65 := by rw [ex_65, ← u_43]; exact eGx_63
        have rx_65 : rgI (2) (2) x_65 := by rw [ex_65]; exact rg_w (rg_add rx_33 rl_1 (by decide) (by decide)) (by decide) (by decide)
        have fr_67 : FR [107, 108, 109, 110, 114, 127, 128, 104, 105, 139] [(g.2.2 124), (g.2.2 115), (g.2.2 125), (g.2.2 126)] [106] G G_64 := FR.n fr_35 e_66 (by decide)
        have u_68 : G_64.1 102 = (G.1 102) := by rw [e_66]; exact (gs_ne (by decide)).trans u_36
        have u_69 : G_64.1 113 = (G.1 113) := by rw [e_66]; exact (gs_ne (by decide)).trans u_37
        have u_70 : G_64.1 122 = (G.1 122) := by rw [e_66]; exact (gs_ne (by decide)).trans u_38
        have u_71 : G_64.1 133 = (G.1 133) := by rw [e_66]; exact (gs_ne (by decide)).trans u_39
        have u_72 : G_64.1 137 = (G.1 137) := by rw [e_66]; exact (gs_ne (by decide)).trans u_40
        have u_73 : G_64.1 127 = nl127_36 := by rw [e_66]; exact (gs_ne (by decide)).trans u_41
        have u_74 : G_64.1 139 = nl139_36 := by rw [e_66]; exact (gs_ne (by decide)).trans u_42
        have u_75 : G_64.1 104 = x_65 := by rw [e_66]; exact gs_eq
        have w_76 : G_64.2.1 (g.2.2 100) = (G.2.1 (g.2.2 100)) := by rw [e_66]; exact w_44
        have w_77 : G_64.2.1 (g.2.2 121) = (G.2.1 (g.2.2 121)) := by rw [e_66]; exact w_45
        have w_78 : G_64.2.1 (g.2.2 140) = (G.2.1 (g.2.2 140)) := by rw [e_66]; exact w_46
        have w_79 : G_64.2.1 (g.2.2 141) = (G.2.1 (g.2.2 141)) := by rw [e_66]; exact w_47
        have w_80 : G_64.2.1 (g.2.2 111) = (G.2.1 (g.2.2 111)) := by rw [e_66]; exact w_48
        have w_81 : G_64.2.1 (g.2.2 124) = fl5_36 := by rw [e_66]; exact w_49
        have w_82 : G_64.2.1 (g.2.2 125) = fl6_36 := by rw [e_66]; exact w_50
        have w_83 : G_64.2.1 (g.2.2 126) = fl7_36 := by rw [e_66]; exact w_51
        have u_84 : G_64.2.2 111 = some (g.2.2 111) := by rw [e_66]; exact u_52
        have u_85 : G_64.2.2 112 = some (g.2.2 112) := by rw [e_66]; exact u_53
        have hH : HT g Ty G_64 H := by rw [← ht, ← eTx_63, eG_64]; exact hB
        refine lv_aload_n hx hb dX12_years_254 rfl (lv_at hl 0 rfl) ?_
        obtain ⟨_, ⟨rfl, t_87, hk_88⟩, o_c_86⟩ := hH h0 _ k_h0
        refine hg_get hx hb hG igX12 hown hK o_c_86 rfl 24 (by decide) (hG _ mw_1308) rfl dX12_years_255 ?_
        refine vp_callSi (W.runS (As := [.ref (g.2.2 124)]) (rest := []) ⟨hx, hb, hml, hown, hts⟩ (c_X12_thereOf l g Ty G_64 (g.2.2 124) (hk_88.2.2.2.2.2.2.2.1)) (cwSx 1 hts hG (gwC mw_1552) mw_88 mw_1550 mw_1551 rfl rfl rfl hd_X12_thereOf ⟨Nat.le_of_ble_eq_true rfl, Nat.le_of_ble_eq_true rfl⟩) ⟨PcH_blind, PcH_pre hK hH⟩ rfl rfl hl.1 rfl (lv_room (Nat.le_of_ble_eq_true rfl)) dX12_years_258 ⟨Nat.zero_le _, Nat.zero_le _⟩) (fun x_89 hx_89 => ?_)
        try rw [← hx_89] at hv
        have ex_90 : x_89 = F_X12_thereOf fl5_36 := by rw [← w_81]; exact hx_89
        try rw [← ex_90] at hv
        refine vp_callSi (W.runS (As := [.int x_89]) (rest := []) ⟨hx, hb, hml, hown, hts⟩ (c_J6_bitCount_x l g Ty G_64 x_89 ) (cwSx 1 hts hG (gwC mw_620) mw_99 mw_1553 mw_619 rfl rfl rfl hd_J6_bitCount_0f7a4 ⟨Nat.le_of_ble_eq_true rfl, Nat.le_of_ble_eq_true rfl⟩) ⟨PcH_blind, PcH_pre hK hH⟩ rfl rfl hl.1 rfl (lv_room (Nat.le_of_ble_eq_true rfl)) dX12_years_261 ⟨Nat.zero_le _, Nat.zero_le _⟩) (fun x_91 hx_91 => ?_)
        have rx_91 : rgI (0) (63) x_91 := hx_91.1
        try rw [← hx_91.2] at hv
        try rw [← hx_91.2] at hv
        exact W.iret hx hb hr (fun t ht hWm => ⟨⟨x_91, (Ty, G_64), rfl, ⟨rfl, ⟨fr_67, ⟨⟨(by rw [u_68]; exact (rg_w hI.a102 (by decide) (by decide))), (by rw [u_75]; exact (rg_w rx_65 (by decide) (by decide))), (by rw [u_69]; exact (rg_w hI.a113 (by decide) (by decide))), (by rw [u_70]; exact (rg_w hI.a122 (by decide) (by decide))), (by rw [u_71]; exact (rg_w hI.a133 (by decide) (by decide))), (by rw [u_72]; exact (rg_w hI.a137 (by decide) (by decide))), u_84, u_85, (by rw [w_76]; exact (hI.ti.hi (show Bd ≤ Bd + 1000 by omega))), (hI.un2 (show Bd ≤ Bd + 1000 by omega) w_77 u_70), (hI.ke2 (show Bd ≤ Bd + 1000 by omega) w_78 w_79)⟩, hv.symm.trans (by rw [w_81, w_82, w_83, u_73, u_74])⟩⟩⟩, by show HT g Ty G_64 t.heap; rw [ht]; exact hH⟩, hS.F ht⟩) hS.2.2 dX12_years_264
      · rw [if_neg c_1] at hv
        have r_92 : rgI (0) (39) y3_36 := rg_w (rg_ltL ry3_36 ry2_36 (nle_lt c_1)) (by decide) (by decide)
        refine lv_aload_n hx hb dX12_years_41 rfl (lv_at hl 0 rfl) ?_
        refine lv_bipush (v := 6) hx hb dX12_years_42 (by decide) ?_
        obtain ⟨_, ⟨rfl, t_94, hk_95⟩, o_c_93⟩ := hH h0 _ k_h0
        refine va_calli (va_runV (As := [.int 6]) (rest := []) ⟨hx, hb, hml, hown, hts⟩ (c_X12_draw_x l g Ty G_36 H.size h0 6 k_h0 (rg_w rl_6 (by decide) (by decide))) (cwV 1 hts (gwV mw_1861 mw_1863 mw_73 mw_88 mw_1864) rfl rfl rfl hv_X12_draw ⟨Nat.le_of_ble_eq_true rfl, Nat.le_of_ble_eq_true rfl⟩) ⟨PcT_blind, hg_recv hK o_c_93 rfl, PcT_pre hK hH⟩ rfl rfl hl.1 rfl (lv_room (Nat.le_of_ble_eq_true rfl)) dX12_years_44 ⟨Nat.zero_le _, Nat.zero_le _⟩) hS (fun q _ h => AF.mono hS.1 h) (fun q h => AF.mono hS.1 h) (fun x_96 ux_96 t H locs ht hvm hx_96 hB hz hk hS => ?_)
        obtain ⟨hx_96, fx_96⟩ := hx_96
        obtain ⟨eTx_96, eGx_96⟩ := fx_96
        obtain ⟨G_97, eG_97⟩ : ∃ z, z = ux_96.2 := ⟨_, rfl⟩
        rw [← eG_97] at eGx_96
        obtain ⟨hfr_98, hex_99⟩ := eGx_96
        have fr_100 : FR [107, 108, 109, 110, 114, 127, 128, 104, 105, 139] [(g.2.2 124), (g.2.2 115), (g.2.2 125), (g.2.2 126)] [106] G G_97 := FR.tr frL_36 hfr_98 (by decide) (fun _ _ => trivial) (by decide)
        have u_101 : G_97.1 104 = (G_36.1 104) := (hfr_98.1 104 (by decide))
        have u_102 : G_97.1 102 = (G.1 102) := (hfr_98.1 102 (by decide)).trans (frL_36.1 102 (by decide))
        have u_103 : G_97.1 113 = (G.1 113) := (hfr_98.1 113 (by decide)).trans (frL_36.1 113 (by decide))
        have u_104 : G_97.1 122 = (G.1 122) := (hfr_98.1 122 (by decide)).trans (frL_36.1 122 (by decide))
        have u_105 : G_97.1 133 = (G.1 133) := (hfr_98.1 133 (by decide)).trans (frL_36.1 133 (by decide))
        have u_106 : G_97.1 137 = (G.1 137) := (hfr_98.1 137 (by decide)).trans (frL_36.1 137 (by decide))
        have u_107 : G_97.1 127 = nl127_36 := (hfr_98.1 127 (by decide)).trans enl127_36
        have w_108 : G_97.2.1 (g.2.2 100) = (G.2.1 (g.2.2 100)) := (hfr_98.2.1 (g.2.2 100) trivial).trans (frL_36.2.1 (g.2.2 100) ⟨(hLD 100 (by decide) 124 (by decide) (by decide)), (ne_kd hmk.1 hmk.2.2.2.1 (by decide)), (ne_kd hmk.1 hmk.2.2.2.2.2.2.2.2.1 (by decide)), (ne_kd hmk.1 hmk.2.2.2.2.2.2.2.2.2.1 (by decide)), trivial⟩)
        have w_109 : G_97.2.1 (g.2.2 121) = (G.2.1 (g.2.2 121)) := (hfr_98.2.1 (g.2.2 121) trivial).trans (frL_36.2.1 (g.2.2 121) ⟨(ne_kd hmk.2.2.2.2.2.1 hmk.2.2.2.2.2.2.2.1 (by decide)), (ne_kd hmk.2.2.2.2.2.1 hmk.2.2.2.1 (by decide)), (ne_kd hmk.2.2.2.2.2.1 hmk.2.2.2.2.2.2.2.2.1 (by decide)), (ne_kd hmk.2.2.2.2.2.1 hmk.2.2.2.2.2.2.2.2.2.1 (by decide)), trivial⟩)
        have w_110 : G_97.2.1 (g.2.2 140) = (G.2.1 (g.2.2 140)) := (hfr_98.2.1 (g.2.2 140) trivial).trans (frL_36.2.1 (g.2.2 140) ⟨(ne_kd hmk.2.2.2.2.2.2.2.2.2.2.2.2.2.2.2.2.2.2.1 hmk.2.2.2.2.2.2.2.1 (by decide)), (ne_kd hmk.2.2.2.2.2.2.2.2.2.2.2.2.2.2.2.2.2.2.1 hmk.2.2.2.1 (by decide)), (ne_kd hmk.2.2.2.2.2.2.2.2.2.2.2.2.2.2.2.2.2.2.1 hmk.2.2.2.2.2.2.2.2.1 (by decide)), (ne_kd hmk.2.2.2.2.2.2.2.2.2.2.2.2.2.2.2.2.2.2.1 hmk.2.2.2.2.2.2.2.2.2.1 (by decide)), trivial⟩)
        have w_111 : G_97.2.1 (g.2.2 141) = (G.2.1 (g.2.2 141)) := (hfr_98.2.1 (g.2.2 141) trivial).trans (frL_36.2.1 (g.2.2 141) ⟨(ne_kd hmk.2.2.2.2.2.2.2.2.2.2.2.2.2.2.2.2.2.2.2.1 hmk.2.2.2.2.2.2.2.1 (by decide)), (ne_kd hmk.2.2.2.2.2.2.2.2.2.2.2.2.2.2.2.2.2.2.2.1 hmk.2.2.2.1 (by decide)), (ne_kd hmk.2.2.2.2.2.2.2.2.2.2.2.2.2.2.2.2.2.2.2.1 hmk.2.2.2.2.2.2.2.2.1 (by decide)), (ne_kd hmk.2.2.2.2.2.2.2.2.2.2.2.2.2.2.2.2.2.2.2.1 hmk.2.2.2.2.2.2.2.2.2.1 (by decide)), trivial⟩)
        have w_112 : G_97.2.1 (g.2.2 111) = (G.2.1 (g.2.2 111)) := (hfr_98.2.1 (g.2.2 111) trivial).trans (frL_36.2.1 (g.2.2 111) ⟨(ne_kd hmk.2.2.2.2.2.2.2.2.2.2.2.2.2.2.2.2.2.2.2.2.1 hmk.2.2.2.2.2.2.2.1 (by decide)), (ne_kd hmk.2.2.2.2.2.2.2.2.2.2.2.2.2.2.2.2.2.2.2.2.1 hmk.2.2.2.1 (by decide)), (ne_kd hmk.2.2.2.2.2.2.2.2.2.2.2.2.2.2.2.2.2.2.2.2.1 hmk.2.2.2.2.2.2.2.2.1 (by decide)), (ne_kd hmk.2.2.2.2.2.2.2.2.2.2.2.2.2.2.2.2.2.2.2.2.1 hmk.2.2.2.2.2.2.2.2.2.1 (by decide)), trivial⟩)
        have w_113 : G_97.2.1 (g.2.2 124) = fl5_36 := (hfr_98.2.1 (g.2.2 124) trivial).trans efl5_36
        have w_114 : G_97.2.1 (g.2.2 125) = fl6_36 := (hfr_98.2.1 (g.2.2 125) trivial).trans efl6_36
        have w_115 : G_97.2.1 (g.2.2 126) = fl7_36 := (hfr_98.2.1 (g.2.2 126) trivial).trans efl7_36
        have u_116 : G_97.2.2 111 = some (g.2.2 111) := (hfr_98.2.2 111 (by decide)).trans ((frL_36.2.2 111 (by decide)).trans hI.r111)
        have u_117 : G_97.2.2 112 = some (g.2.2 112) := (hfr_98.2.2 112 (by decide)).trans ((frL_36.2.2 112 (by decide)).trans hI.r112)
        obtain ⟨n_118, en_118⟩ : ∃ z : Int32, G_97.1 139 = z := ⟨_, rfl⟩
        have hq_119 : F_X12_draw_x nl139_36 6 = (x_96, n_118) := by have q := hex_99; rw [enl139_36, en_118] at q; exact q
        rw [hq_119, tu2_eq] at hv
        have hH : HT g Ty G_97 H := by rw [← ht, ← eTx_96, eG_97]; exact hB
        have rdx_96 : rgI 0 5 x_96 := hx_96
        refine lv_istore (lv' := [(4, .int x_96), (0, .ref h0), (2, .int a1), (3, .int y3_36)]) hx hb dX12_years_47 hl (by decide) rfl (fun ls hl => ?_)
        refine lv_aload_n hx hb dX12_years_49 rfl (lv_at hl 1 rfl) ?_
        refine lv_bipush (v := 24) hx hb dX12_years_50 (by decide) ?_
        obtain ⟨_, ⟨rfl, t_121, hk_122⟩, o_c_120⟩ := hH h0 _ k_h0
        refine va_calli (va_runV (As := [.int 24]) (rest := []) ⟨hx, hb, hml, hown, hts⟩ (c_X12_draw_x l g Ty G_97 H.size h0 24 k_h0 (rg_w rl_24 (by decide) (by decide))) (cwV 1 hts (gwV mw_1861 mw_1863 mw_73 mw_88 mw_1864) rfl rfl rfl hv_X12_draw ⟨Nat.le_of_ble_eq_true rfl, Nat.le_of_ble_eq_true rfl⟩) ⟨PcT_blind, hg_recv hK o_c_120 rfl, PcT_pre hK hH⟩ rfl rfl hl.1 rfl (lv_room (Nat.le_of_ble_eq_true rfl)) dX12_years_52 ⟨Nat.zero_le _, Nat.zero_le _⟩) hS (fun q _ h => AF.mono hS.1 h) (fun q h => AF.mono hS.1 h) (fun x_123 ux_123 t H locs ht hvm hx_123 hB hz hk hS => ?_)
        obtain ⟨hx_123, fx_123⟩ := hx_123
        obtain ⟨eTx_123, eGx_123⟩ := fx_123
        obtain ⟨G_124, eG_124⟩ : ∃ z, z = ux_123.2 := ⟨_, rfl⟩
        rw [← eG_124] at eGx_123
        obtain ⟨hfr_125, hex_126⟩ := eGx_123
        have fr_127 : FR [107, 108, 109, 110, 114, 127, 128, 104, 105, 139] [(g.2.2 124), (g.2.2 115), (g.2.2 125), (g.2.2 126)] [106] G G_124 := FR.tr fr_100 hfr_125 (by decide) (fun _ _ => trivial) (by decide)
        have u_128 : G_124.1 104 = (G_36.1 104) := (hfr_125.1 104 (by decide)).trans u_101
        have u_129 : G_124.1 102 = (G.1 102) := (hfr_125.1 102 (by decide)).trans u_102
        have u_130 : G_124.1 113 = (G.1 113) := (hfr_125.1 113 (by decide)).trans u_103
        have u_131 : G_124.1 122 = (G.1 122) := (hfr_125.1 122 (by decide)).trans u_104
        have u_132 : G_124.1 133 = (G.1 133) := (hfr_125.1 133 (by decide)).trans u_105
        have u_133 : G_124.1 137 = (G.1 137) := (hfr_125.1 137 (by decide)).trans u_106
        have u_134 : G_124.1 127 = nl127_36 := (hfr_125.1 127 (by decide)).trans u_107
        have w_135 : G_124.2.1 (g.2.2 100) = (G.2.1 (g.2.2 100)) := (hfr_125.2.1 (g.2.2 100) trivial).trans w_108
        have w_136 : G_124.2.1 (g.2.2 121) = (G.2.1 (g.2.2 121)) := (hfr_125.2.1 (g.2.2 121) trivial).trans w_109
        have w_137 : G_124.2.1 (g.2.2 140) = (G.2.1 (g.2.2 140)) := (hfr_125.2.1 (g.2.2 140) trivial).trans w_110
        have w_138 : G_124.2.1 (g.2.2 141) = (G.2.1 (g.2.2 141)) := (hfr_125.2.1 (g.2.2 141) trivial).trans w_111
        have w_139 : G_124.2.1 (g.2.2 111) = (G.2.1 (g.2.2 111)) := (hfr_125.2.1 (g.2.2 111) trivial).trans w_112
        have w_140 : G_124.2.1 (g.2.2 124) = fl5_36 := (hfr_125.2.1 (g.2.2 124) trivial).trans w_113
        have w_141 : G_124.2.1 (g.2.2 125) = fl6_36 := (hfr_125.2.1 (g.2.2 125) trivial).trans w_114
        have w_142 : G_124.2.1 (g.2.2 126) = fl7_36 := (hfr_125.2.1 (g.2.2 126) trivial).trans w_115
        have u_143 : G_124.2.2 111 = some (g.2.2 111) := (hfr_125.2.2 111 (by decide)).trans u_116
        have u_144 : G_124.2.2 112 = some (g.2.2 112) := (hfr_125.2.2 112 (by decide)).trans u_117
        obtain ⟨n_145, en_145⟩ : ∃ z : Int32, G_124.1 139 = z := ⟨_, rfl⟩
        have hq_146 : F_X12_draw_x n_118 24 = (x_123, n_145) := by have q := hex_126; rw [en_118, en_145] at q; exact q
        rw [hq_146, tu2_eq] at hv
        have hH : HT g Ty G_124 H := by rw [← ht, ← eTx_123, eG_124]; exact hB
        have rdx_123 : rgI 0 23 x_123 := hx_123
        refine lv_istore (lv' := [(5, .int x_123), (4, .int x_96), (0, .ref h0), (2, .int a1), (3, .int y3_36)]) hx hb dX12_years_55 hl (by decide) rfl (fun ls hl => ?_)
        refine lv_aload_n hx hb dX12_years_57 rfl (lv_at hl 2 rfl) ?_
        refine lv_iconst (v := 4) hx hb dX12_years_58 (by decide) ?_
        obtain ⟨_, ⟨rfl, t_148, hk_149⟩, o_c_147⟩ := hH h0 _ k_h0
        refine va_calli (va_runV (As := [.int 4]) (rest := []) ⟨hx, hb, hml, hown, hts⟩ (c_X12_draw_x l g Ty G_124 H.size h0 4 k_h0 (rg_w rl_4 (by decide) (by decide))) (cwV 1 hts (gwV mw_1861 mw_1863 mw_73 mw_88 mw_1864) rfl rfl rfl hv_X12_draw ⟨Nat.le_of_ble_eq_true rfl, Nat.le_of_ble_eq_true rfl⟩) ⟨PcT_blind, hg_recv hK o_c_147 rfl, PcT_pre hK hH⟩ rfl rfl hl.1 rfl (lv_room (Nat.le_of_ble_eq_true rfl)) dX12_years_59 ⟨Nat.zero_le _, Nat.zero_le _⟩) hS (fun q _ h => AF.mono hS.1 h) (fun q h => AF.mono hS.1 h) (fun x_150 ux_150 t H locs ht hvm hx_150 hB hz hk hS => ?_)
        obtain ⟨hx_150, fx_150⟩ := hx_150
        obtain ⟨eTx_150, eGx_150⟩ := fx_150
        obtain ⟨G_151, eG_151⟩ : ∃ z, z = ux_150.2 := ⟨_, rfl⟩
        rw [← eG_151] at eGx_150
        obtain ⟨hfr_152, hex_153⟩ := eGx_150
        have fr_154 : FR [107, 108, 109, 110, 114, 127, 128, 104, 105, 139] [(g.2.2 124), (g.2.2 115), (g.2.2 125), (g.2.2 126)] [106] G G_151 := FR.tr fr_127 hfr_152 (by decide) (fun _ _ => trivial) (by decide)
        have u_155 : G_151.1 104 = (G_36.1 104) := (hfr_152.1 104 (by decide)).trans u_128
        have u_156 : G_151.1 102 = (G.1 102) := (hfr_152.1 102 (by decide)).trans u_129
        have u_157 : G_151.1 113 = (G.1 113) := (hfr_152.1 113 (by decide)).trans u_130
        have u_158 : G_151.1 122 = (G.1 122) := (hfr_152.1 122 (by decide)).trans u_131
        have u_159 : G_151.1 133 = (G.1 133) := (hfr_152.1 133 (by decide)).trans u_132
        have u_160 : G_151.1 137 = (G.1 137) := (hfr_152.1 137 (by decide)).trans u_133
        have u_161 : G_151.1 127 = nl127_36 := (hfr_152.1 127 (by decide)).trans u_134
        have w_162 : G_151.2.1 (g.2.2 100) = (G.2.1 (g.2.2 100)) := (hfr_152.2.1 (g.2.2 100) trivial).trans w_135
        have w_163 : G_151.2.1 (g.2.2 121) = (G.2.1 (g.2.2 121)) := (hfr_152.2.1 (g.2.2 121) trivial).trans w_136
        have w_164 : G_151.2.1 (g.2.2 140) = (G.2.1 (g.2.2 140)) := (hfr_152.2.1 (g.2.2 140) trivial).trans w_137
        have w_165 : G_151.2.1 (g.2.2 141) = (G.2.1 (g.2.2 141)) := (hfr_152.2.1 (g.2.2 141) trivial).trans w_138
        have w_166 : G_151.2.1 (g.2.2 111) = (G.2.1 (g.2.2 111)) := (hfr_152.2.1 (g.2.2 111) trivial).trans w_139
        have w_167 : G_151.2.1 (g.2.2 124) = fl5_36 := (hfr_152.2.1 (g.2.2 124) trivial).trans w_140
        have w_168 : G_151.2.1 (g.2.2 125) = fl6_36 := (hfr_152.2.1 (g.2.2 125) trivial).trans w_141
        have w_169 : G_151.2.1 (g.2.2 126) = fl7_36 := (hfr_152.2.1 (g.2.2 126) trivial).trans w_142
        have u_170 : G_151.2.2 111 = some (g.2.2 111) := (hfr_152.2.2 111 (by decide)).trans u_143
        have u_171 : G_151.2.2 112 = some (g.2.2 112) := (hfr_152.2.2 112 (by decide)).trans u_144
        obtain ⟨n_172, en_172⟩ : ∃ z : Int32, G_151.1 139 = z := ⟨_, rfl⟩
        have hq_173 : F_X12_draw_x n_145 4 = (x_150, n_172) := by have q := hex_153; rw [en_145, en_172] at q; exact q
        rw [hq_173, tu2_eq] at hv
        have hH : HT g Ty G_151 H := by rw [← ht, ← eTx_150, eG_151]; exact hB
        have rdx_150 : rgI 0 3 x_150 := hx_150
        refine lv_istore (lv' := [(6, .int x_150), (5, .int x_123), (4, .int x_96), (0, .ref h0), (2, .int a1), (3, .int y3_36)]) hx hb dX12_years_62 hl (by decide) rfl (fun ls hl => ?_)
        obtain ⟨⟨σ_174, hts_175⟩, h1_176, hb_177⟩ := id hi0_36
        obtain ⟨ρ_178, hT_179⟩ := hts_175.1
        refine lv_iload hx hb dX12_years_64 (lv_at hl 2 rfl) ?_
        refine lv_iconst (v := 3) hx hb dX12_years_66 (by decide) ?_
        refine lv_icmp_ge (tgt := 100) hx hb dX12_years_67 (by decide) (fun c_180 => ?_) (fun c_180 => ?_)
        · rw [if_pos c_180] at hv
          have r_181 : rgI (3) (5) x_96 := rg_w (rg_leR rl_3 rdx_96 c_180) (by decide) (by decide)
          refine lv_iload hx hb dX12_years_100 (lv_at hl 2 rfl) ?_
          refine lv_iconst (v := 3) hx hb dX12_years_102 (by decide) ?_
          refine lv_icmp_ne (tgt := 129) hx hb dX12_years_103 (by decide) (fun c_182 => ?_) (fun c_182 => ?_)
          · rw [if_neg c_182] at hv
            have r_183 : rgI (4) (5) x_96 := rg_w (rg_neL r_181 rl_3 c_182) (by decide) (by decide)
            refine lv_iload hx hb dX12_years_129 (lv_at hl 2 rfl) ?_
            refine lv_iconst (v := 5) hx hb dX12_years_131 (by decide) ?_
            refine lv_icmp_ne (tgt := 162) hx hb dX12_years_132 (by decide) (fun c_184 => ?_) (fun c_184 => ?_)
            · rw [if_neg c_184] at hv
              have r_185 : rgI (4) (4) x_96 := rg_w (rg_neR r_183 rl_5 c_184) (by decide) (by decide)
              refine lv_iload hx hb dX12_years_162 (lv_at hl 2 rfl) ?_
              refine lv_iconst (v := 4) hx hb dX12_years_164 (by decide) ?_
              refine lv_icmp_eq (tgt := 171) hx hb dX12_years_165 (by decide) (fun c_186 => ?_) (fun c_186 => ?_)
              · rw [if_pos c_186] at hv
                refine lv_aload_n hx hb dX12_years_171 rfl (lv_at hl 3 rfl) ?_
                refine lv_bipush (v := 24) hx hb dX12_years_172 (by decide) ?_
                obtain ⟨_, ⟨rfl, t_188, hk_189⟩, o_c_187⟩ := hH h0 _ k_h0
                refine va_calli (va_runV (As := [.int 24]) (rest := []) ⟨hx, hb, hml, hown, hts⟩ (c_X12_draw_x l g Ty G_151 H.size h0 24 k_h0 (rg_w rl_24 (by decide) (by decide))) (cwV 1 hts (gwV mw_1861 mw_1863 mw_73 mw_88 mw_1864) rfl rfl rfl hv_X12_draw ⟨Nat.le_of_ble_eq_true rfl, Nat.le_of_ble_eq_true rfl⟩) ⟨PcT_blind, hg_recv hK o_c_187 rfl, PcT_pre hK hH⟩ rfl rfl hl.1 rfl (lv_room (Nat.le_of_ble_eq_true rfl)) dX12_years_174 ⟨Nat.zero_le _, Nat.zero_le _⟩) hS (fun q _ h => AF.mono hS.1 h) (fun q h => AF.mono hS.1 h) (fun x_190 ux_190 t H locs ht hvm hx_190 hB hz hk hS => ?_)
                obtain ⟨hx_190, fx_190⟩ := hx_190
                obtain ⟨eTx_190, eGx_190⟩ := fx_190
                obtain ⟨G_191, eG_191⟩ : ∃ z, z = ux_190.2 := ⟨_, rfl⟩
                rw [← eG_191] at eGx_190
                obtain ⟨hfr_192, hex_193⟩ := eGx_190
                have fr_194 : FR [107, 108, 109, 110, 114, 127, 128, 104, 105, 139] [(g.2.2 124), (g.2.2 115), (g.2.2 125), (g.2.2 126)] [106] G G_191 := FR.tr fr_154 hfr_192 (by decide) (fun _ _ => trivial) (by decide)
                have u_195 : G_191.1 104 = (G_36.1 104) := (hfr_192.1 104 (by decide)).trans u_155
                have u_196 : G_191.1 102 = (G.1 102) := (hfr_192.1 102 (by decide)).trans u_156
                have u_197 : G_191.1 113 = (G.1 113) := (hfr_192.1 113 (by decide)).trans u_157
                have u_198 : G_191.1 122 = (G.1 122) := (hfr_192.1 122 (by decide)).trans u_158
                have u_199 : G_191.1 133 = (G.1 133) := (hfr_192.1 133 (by decide)).trans u_159
                have u_200 : G_191.1 137 = (G.1 137) := (hfr_192.1 137 (by decide)).trans u_160
                have u_201 : G_191.1 127 = nl127_36 := (hfr_192.1 127 (by decide)).trans u_161
                have w_202 : G_191.2.1 (g.2.2 100) = (G.2.1 (g.2.2 100)) := (hfr_192.2.1 (g.2.2 100) trivial).trans w_162
                have w_203 : G_191.2.1 (g.2.2 121) = (G.2.1 (g.2.2 121)) := (hfr_192.2.1 (g.2.2 121) trivial).trans w_163
                have w_204 : G_191.2.1 (g.2.2 140) = (G.2.1 (g.2.2 140)) := (hfr_192.2.1 (g.2.2 140) trivial).trans w_164
                have w_205 : G_191.2.1 (g.2.2 141) = (G.2.1 (g.2.2 141)) := (hfr_192.2.1 (g.2.2 141) trivial).trans w_165
                have w_206 : G_191.2.1 (g.2.2 111) = (G.2.1 (g.2.2 111)) := (hfr_192.2.1 (g.2.2 111) trivial).trans w_166
                have w_207 : G_191.2.1 (g.2.2 124) = fl5_36 := (hfr_192.2.1 (g.2.2 124) trivial).trans w_167
                have w_208 : G_191.2.1 (g.2.2 125) = fl6_36 := (hfr_192.2.1 (g.2.2 125) trivial).trans w_168
                have w_209 : G_191.2.1 (g.2.2 126) = fl7_36 := (hfr_192.2.1 (g.2.2 126) trivial).trans w_169
                have u_210 : G_191.2.2 111 = some (g.2.2 111) := (hfr_192.2.2 111 (by decide)).trans u_170
                have u_211 : G_191.2.2 112 = some (g.2.2 112) := (hfr_192.2.2 112 (by decide)).trans u_171
                obtain ⟨n_212, en_212⟩ : ∃ z : Int32, G_191.1 139 = z := ⟨_, rfl⟩
                have hq_213 : F_X12_draw_x n_172 24 = (x_190, n_212) := by have q := hex_193; rw [en_172, en_212] at q; exact q
                rw [hq_213, tu2_eq] at hv
                have hH : HT g Ty G_191 H := by rw [← ht, ← eTx_190, eG_191]; exact hB
                have rdx_190 : rgI 0 23 x_190 := hx_190
                refine lv_istore (lv' := [(7, .int x_190), (6, .int x_150), (5, .int x_123), (4, .int x_96), (0, .ref h0), (2, .int a1), (3, .int y3_36)]) hx hb dX12_years_177 hl (by decide) rfl (fun ls hl => ?_)
                refine lv_aload_n hx hb dX12_years_179 rfl (lv_at hl 4 rfl) ?_
                refine lv_aload_n hx hb dX12_years_180 rfl (lv_at hl 4 rfl) ?_
                obtain ⟨_, ⟨rfl, t_215, hk_216⟩, o_c_214⟩ := hH h0 _ k_h0
                refine hg_get hx hb hG igX12 hown hK o_c_214 rfl 24 (by decide) (hG _ mw_1308) rfl dX12_years_181 ?_
                refine lv_iload hx hb dX12_years_184 (lv_at hl 0 rfl) ?_
                refine lv_iload hx hb dX12_years_186 (lv_at hl 2 rfl) ?_
                refine lv_iload hx hb dX12_years_188 (lv_at hl 1 rfl) ?_
                refine va_calli (va_runV (As := [.ref (g.2.2 124), .int x_190, .int x_123, .int x_150]) (rest := []) ⟨hx, hb, hml, hown, hts⟩ (c_X12_refusesBind_x l g Ty G_191 H.size h0 (g.2.2 124) x_190 x_123 x_150 k_h0 (hk_216.2.2.2.2.2.2.2.1) ρ_178 (by rw [w_207]; exact hT_179) (g.2.2 111) hmk.2.2.2.2.2.2.2.2.2.2.2.2.2.2.2.2.2.2.2.2.1 u_210 (by rw [u_197]; exact hI.a113)) (cwV 4 hts (gwV mw_1613 mw_1615 mw_58 mw_88 mw_1616) rfl rfl rfl hv_X12_refusesBind ⟨Nat.le_of_ble_eq_true rfl, Nat.le_of_ble_eq_true rfl⟩) ⟨PcT_blind, hg_recv hK o_c_214 rfl, PcT_pre hK hH⟩ rfl rfl hl.1 rfl (lv_room (Nat.le_of_ble_eq_true rfl)) dX12_years_190 ⟨Nat.zero_le _, Nat.zero_le _⟩) hS (fun q _ h => AF.mono hS.1 h) (fun q h => AF.mono hS.1 h) (fun x_217 ux_217 t H locs ht hvm hx_217 hB hz hk hS => ?_)
                obtain ⟨hx_217, fx_217⟩ := hx_217
                obtain ⟨eTx_217, eGx_217⟩ := fx_217
                obtain ⟨G_218, eG_218⟩ : ∃ z, z = ux_217.2 := ⟨_, rfl⟩
                rw [← eG_218] at eGx_217
                obtain ⟨hfr_219, hex_220⟩ := eGx_217
                have fr_221 : FR [107, 108, 109, 110, 114, 127, 128, 104, 105, 139] [(g.2.2 124), (g.2.2 115), (g.2.2 125), (g.2.2 126)] [106] G G_218 := FR.tr fr_194 hfr_219 (by decide) (fun b h => ⟨h.2.1, trivial⟩) (by decide)
                have u_222 : G_218.1 104 = (G_36.1 104) := (hfr_219.1 104 (by decide)).trans u_195
                have u_223 : G_218.1 102 = (G.1 102) := (hfr_219.1 102 (by decide)).trans u_196
                have u_224 : G_218.1 113 = (G.1 113) := (hfr_219.1 113 (by decide)).trans u_197
                have u_225 : G_218.1 122 = (G.1 122) := (hfr_219.1 122 (by decide)).trans u_198
                have u_226 : G_218.1 133 = (G.1 133) := (hfr_219.1 133 (by decide)).trans u_199
                have u_227 : G_218.1 137 = (G.1 137) := (hfr_219.1 137 (by decide)).trans u_200
                have u_228 : G_218.1 127 = nl127_36 := (hfr_219.1 127 (by decide)).trans u_201
                have u_229 : G_218.1 139 = n_212 := (hfr_219.1 139 (by decide)).trans en_212
                have w_230 : G_218.2.1 (g.2.2 100) = (G.2.1 (g.2.2 100)) := (hfr_219.2.1 (g.2.2 100) ⟨(ne_kd hmk.1 hmk.2.2.2.1 (by decide)), trivial⟩).trans w_202
                have w_231 : G_218.2.1 (g.2.2 121) = (G.2.1 (g.2.2 121)) := (hfr_219.2.1 (g.2.2 121) ⟨(ne_kd hmk.2.2.2.2.2.1 hmk.2.2.2.1 (by decide)), trivial⟩).trans w_203
                have w_232 : G_218.2.1 (g.2.2 140) = (G.2.1 (g.2.2 140)) := (hfr_219.2.1 (g.2.2 140) ⟨(ne_kd hmk.2.2.2.2.2.2.2.2.2.2.2.2.2.2.2.2.2.2.1 hmk.2.2.2.1 (by decide)), trivial⟩).trans w_204
                have w_233 : G_218.2.1 (g.2.2 141) = (G.2.1 (g.2.2 141)) := (hfr_219.2.1 (g.2.2 141) ⟨(ne_kd hmk.2.2.2.2.2.2.2.2.2.2.2.2.2.2.2.2.2.2.2.1 hmk.2.2.2.1 (by decide)), trivial⟩).trans w_205
                have w_234 : G_218.2.1 (g.2.2 111) = (G.2.1 (g.2.2 111)) := (hfr_219.2.1 (g.2.2 111) ⟨(ne_kd hmk.2.2.2.2.2.2.2.2.2.2.2.2.2.2.2.2.2.2.2.2.1 hmk.2.2.2.1 (by decide)), trivial⟩).trans w_206
                have w_235 : G_218.2.1 (g.2.2 124) = fl5_36 := (hfr_219.2.1 (g.2.2 124) ⟨(ne_kd hmk.2.2.2.2.2.2.2.1 hmk.2.2.2.1 (by decide)), trivial⟩).trans w_207
                have w_236 : G_218.2.1 (g.2.2 125) = fl6_36 := (hfr_219.2.1 (g.2.2 125) ⟨(ne_kd hmk.2.2.2.2.2.2.2.2.1 hmk.2.2.2.1 (by decide)), trivial⟩).trans w_208
                have w_237 : G_218.2.1 (g.2.2 126) = fl7_36 := (hfr_219.2.1 (g.2.2 126) ⟨(ne_kd hmk.2.2.2.2.2.2.2.2.2.1 hmk.2.2.2.1 (by decide)), trivial⟩).trans w_209
                have u_238 : G_218.2.2 111 = some (g.2.2 111) := (hfr_219.2.2 111 (by decide)).trans u_210
                have u_239 : G_218.2.2 112 = some (g.2.2 112) := (hfr_219.2.2 112 (by decide)).trans u_211
                have hq_240 : F_X12_refusesBind_x fl5_36 (G.2.1 (g.2.2 111)) (G.1 113) x_190 x_123 x_150 = x_217 := by have q := hex_220; rw [w_207, w_206, u_197] at q; exact q
                try rw [hq_240] at hv
                have hH : HT g Ty G_218 H := by rw [← ht, ← eTx_217, eG_218]; exact hB
                have rx_217 : rgI (-9) (0) x_217 := hx_217.1
                have tx_241 := hx_217.2
                try rw [w_207] at tx_241
                try rw [w_206] at tx_241
                try rw [u_197] at tx_241
                try rw [w_202] at tx_241
                refine lv_if_ne (tgt := 211) hx hb dX12_years_193 (by decide) (fun c_242 => ?_) (fun c_242 => ?_)
                · rw [if_neg c_242] at hv
                  have r_243 : rgI (-9) (-1) x_217 := rg_w (rg_neR rx_217 rl_0 c_242) (by decide) (by decide)
                  obtain ⟨x_244, ex_244⟩ : ∃ y : Int32, y = y3_36 + 1 := ⟨_, rfl⟩
                  try rw [← ex_244] at hv
                  have rx_244 : rgI (1) (40) x_244 := by rw [ex_244]; exact rg_w (rg_add r_92 rl_1 (by decide) (by decide)) (by decide) (by decide)
                  have qx_244 : x_244.toInt = (y3_36 : Int32).toInt + 1 := by rw [ex_244]; exact rg_addE r_92 rl_1 (by decide) (by decide)
                  refine lv_iinc (v := x_244) (lv' := [(3, .int x_244), (7, .int x_190), (6, .int x_150), (5, .int x_123), (4, .int x_96), (0, .ref h0), (2, .int a1)]) hx hb dX12_years_211 hl (k := 6) rfl (by rw [ex_244]; rfl) (by decide) rfl (fun ls hl => ?_)
                  refine lv_goto (tgt := 36) hx hb dX12_years_214 (by decide) ?_
                  exact ih_36 H locs G_218 fl5_36 fl6_36 fl7_36 nl127_36 n_212 x_244 ls (by rw [u_222]; exact rg_w rg104_36 (by decide) (by decide)) fr_221 w_235 w_236 w_237 u_228 u_229 ry2_36 (rg_w rx_244 (by decide) (by decide)) (TI.hi hi0_36 (by have q := qx_244; omega)) (by have h1 := qx_244; have h2 := r_92.1; have h3 := r_92.2; have h4 := hm_36; omega) (lv_sub hl [5, 6, 0] rfl) hv hH hS
                · rw [if_pos c_242] at hv
                  have r_245 : rgI (0) (0) x_217 := rg_w (rg_eq rl_0 c_242) (by decide) (by decide)
                  have c0_246 := tx_241 c_242
                  refine lv_aload_n hx hb dX12_years_196 rfl (lv_at hl 4 rfl) ?_
                  refine lv_aload_n hx hb dX12_years_197 rfl (lv_at hl 4 rfl) ?_
                  obtain ⟨_, ⟨rfl, t_248, hk_249⟩, o_c_247⟩ := hH h0 _ k_h0
                  refine hg_get hx hb hG igX12 hown hK o_c_247 rfl 24 (by decide) (hG _ mw_1308) rfl dX12_years_198 ?_
                  refine lv_iload hx hb dX12_years_201 (lv_at hl 0 rfl) ?_
                  refine lv_iload hx hb dX12_years_203 (lv_at hl 2 rfl) ?_
                  refine lv_iload hx hb dX12_years_205 (lv_at hl 1 rfl) ?_
                  refine va_calli (va_runV (As := [.ref (g.2.2 124), .int x_190, .int x_123, .int x_150]) (rest := []) ⟨hx, hb, hml, hown, hts⟩ (c_X12_goClone_x l g Ty G_218 H.size h0 (g.2.2 124) x_190 x_123 x_150 k_h0 (hk_249.2.2.2.2.2.2.2.1) (rg_w rdx_190 (by decide) (by decide)) (rg_w rdx_123 (by decide) (by decide)) (rg_w rdx_150 (by decide) (by decide)) (g.2.2 111) hmk.2.2.2.2.2.2.2.2.2.2.2.2.2.2.2.2.2.2.2.2.1 u_238 (by rw [u_224]; exact hI.a113) hLD σ_174 (by rw [w_235]; exact hts_175) (by rw [w_235]; exact h1_176) (Bd + 25 * (y3_36 : Int32).toInt) (by rw [w_235]; exact hb_177) (by rw [w_235]; exact (Int.le_trans hb_177 (by have q := (r_92).2; omega))) (by rw [w_235]; exact (Or.inr c0_246.1)) (by rw [w_235, w_234, u_224]; exact c0_246.2)) (cwV 4 hts (gwV mw_1584 mw_1586 mw_54 mw_88 mw_1587) rfl rfl rfl hv_X12_goClone ⟨Nat.le_of_ble_eq_true rfl, Nat.le_of_ble_eq_true rfl⟩) ⟨PcT_blind, hg_recv hK o_c_247 rfl, PcT_pre hK hH⟩ rfl rfl hl.1 rfl (lv_room (Nat.le_of_ble_eq_true rfl)) dX12_years_207 ⟨Nat.zero_le _, Nat.zero_le _⟩) hS (fun q _ h => AF.mono hS.1 h) (fun q h => AF.mono hS.1 h) (fun x_250 ux_250 t H locs ht hvm hx_250 hB hz hk hS => ?_)
                  obtain ⟨eTx_250, eGx_250⟩ := hx_250
                  obtain ⟨G_251, eG_251⟩ : ∃ z, z = ux_250.2 := ⟨_, rfl⟩
                  rw [← eG_251] at eGx_250
                  obtain ⟨hfr_252, hex_253⟩ := eGx_250
                  have fr_254 : FR [107, 108, 109, 110, 114, 127, 128, 104, 105, 139] [(g.2.2 124), (g.2.2 115), (g.2.2 125), (g.2.2 126)] [106] G G_251 := FR.tr fr_221 hfr_252 (by decide) (fun b h => ⟨h.1, h.2.1, h.2.2.1, h.2.2.2.1, trivial⟩) (by decide)
                  have u_255 : G_251.1 104 = (G_36.1 104) := (hfr_252.1 104 (by decide)).trans u_222
                  have u_256 : G_251.1 102 = (G.1 102) := (hfr_252.1 102 (by decide)).trans u_223
                  have u_257 : G_251.1 113 = (G.1 113) := (hfr_252.1 113 (by decide)).trans u_224
                  have u_258 : G_251.1 122 = (G.1 122) := (hfr_252.1 122 (by decide)).trans u_225
                  have u_259 : G_251.1 133 = (G.1 133) := (hfr_252.1 133 (by decide)).trans u_226
                  have u_260 : G_251.1 137 = (G.1 137) := (hfr_252.1 137 (by decide)).trans u_227
                  have u_261 : G_251.1 139 = n_212 := (hfr_252.1 139 (by decide)).trans u_229
                  have w_262 : G_251.2.1 (g.2.2 100) = (G.2.1 (g.2.2 100)) := (hfr_252.2.1 (g.2.2 100) ⟨(hLD 100 (by decide) 124 (by decide) (by decide)), (ne_kd hmk.1 hmk.2.2.2.1 (by decide)), (ne_kd hmk.1 hmk.2.2.2.2.2.2.2.2.1 (by decide)), (ne_kd hmk.1 hmk.2.2.2.2.2.2.2.2.2.1 (by decide)), trivial⟩).trans w_230
                  have w_263 : G_251.2.1 (g.2.2 121) = (G.2.1 (g.2.2 121)) := (hfr_252.2.1 (g.2.2 121) ⟨(ne_kd hmk.2.2.2.2.2.1 hmk.2.2.2.2.2.2.2.1 (by decide)), (ne_kd hmk.2.2.2.2.2.1 hmk.2.2.2.1 (by decide)), (ne_kd hmk.2.2.2.2.2.1 hmk.2.2.2.2.2.2.2.2.1 (by decide)), (ne_kd hmk.2.2.2.2.2.1 hmk.2.2.2.2.2.2.2.2.2.1 (by decide)), trivial⟩).trans w_231
                  have w_264 : G_251.2.1 (g.2.2 140) = (G.2.1 (g.2.2 140)) := (hfr_252.2.1 (g.2.2 140) ⟨(ne_kd hmk.2.2.2.2.2.2.2.2.2.2.2.2.2.2.2.2.2.2.1 hmk.2.2.2.2.2.2.2.1 (by decide)), (ne_kd hmk.2.2.2.2.2.2.2.2.2.2.2.2.2.2.2.2.2.2.1 hmk.2.2.2.1 (by decide)), (ne_kd hmk.2.2.2.2.2.2.2.2.2.2.2.2.2.2.2.2.2.2.1 hmk.2.2.2.2.2.2.2.2.1 (by decide)), (ne_kd hmk.2.2.2.2.2.2.2.2.2.2.2.2.2.2.2.2.2.2.1 hmk.2.2.2.2.2.2.2.2.2.1 (by decide)), trivial⟩).trans w_232
                  have w_265 : G_251.2.1 (g.2.2 141) = (G.2.1 (g.2.2 141)) := (hfr_252.2.1 (g.2.2 141) ⟨(ne_kd hmk.2.2.2.2.2.2.2.2.2.2.2.2.2.2.2.2.2.2.2.1 hmk.2.2.2.2.2.2.2.1 (by decide)), (ne_kd hmk.2.2.2.2.2.2.2.2.2.2.2.2.2.2.2.2.2.2.2.1 hmk.2.2.2.1 (by decide)), (ne_kd hmk.2.2.2.2.2.2.2.2.2.2.2.2.2.2.2.2.2.2.2.1 hmk.2.2.2.2.2.2.2.2.1 (by decide)), (ne_kd hmk.2.2.2.2.2.2.2.2.2.2.2.2.2.2.2.2.2.2.2.1 hmk.2.2.2.2.2.2.2.2.2.1 (by decide)), trivial⟩).trans w_233
                  have w_266 : G_251.2.1 (g.2.2 111) = (G.2.1 (g.2.2 111)) := (hfr_252.2.1 (g.2.2 111) ⟨(ne_kd hmk.2.2.2.2.2.2.2.2.2.2.2.2.2.2.2.2.2.2.2.2.1 hmk.2.2.2.2.2.2.2.1 (by decide)), (ne_kd hmk.2.2.2.2.2.2.2.2.2.2.2.2.2.2.2.2.2.2.2.2.1 hmk.2.2.2.1 (by decide)), (ne_kd hmk.2.2.2.2.2.2.2.2.2.2.2.2.2.2.2.2.2.2.2.2.1 hmk.2.2.2.2.2.2.2.2.1 (by decide)), (ne_kd hmk.2.2.2.2.2.2.2.2.2.2.2.2.2.2.2.2.2.2.2.2.1 hmk.2.2.2.2.2.2.2.2.2.1 (by decide)), trivial⟩).trans w_234
                  have u_267 : G_251.2.2 111 = some (g.2.2 111) := (hfr_252.2.2 111 (by decide)).trans u_238
                  have u_268 : G_251.2.2 112 = some (g.2.2 112) := (hfr_252.2.2 112 (by decide)).trans u_239
                  obtain ⟨xa_269, xb_270⟩ := hex_253
                  obtain ⟨f_271, ef_271⟩ : ∃ z : Nat → Int32, G_251.2.1 (g.2.2 124) = z := ⟨_, rfl⟩
                  obtain ⟨f_272, ef_272⟩ : ∃ z : Nat → Int32, G_251.2.1 (g.2.2 125) = z := ⟨_, rfl⟩
                  obtain ⟨f_273, ef_273⟩ : ∃ z : Nat → Int32, G_251.2.1 (g.2.2 126) = z := ⟨_, rfl⟩
                  obtain ⟨n_274, en_274⟩ : ∃ z : Int32, G_251.1 127 = z := ⟨_, rfl⟩
                  have hq_275 : F_X12_goClone_x fl5_36 (G.2.1 (g.2.2 111)) fl6_36 fl7_36 (G.1 113) nl127_36 x_190 x_123 x_150 = (x_250, f_271, f_272, f_273, n_274) := by have q := xb_270; rw [w_235, w_234, w_236, w_237, u_224, u_228, ef_271, ef_272, ef_273, en_274] at q; exact q
                  rw [hq_275, tu5_eq] at hv
                  obtain ⟨f_276, ef_276⟩ : ∃ z : Nat → Int32, G_251.2.1 (g.2.2 124) = z := ⟨_, rfl⟩
                  have gc_277 := xa_269
                  rw [ef_276, w_235, w_234, u_224] at gc_277
                  try rw [(ef_271).symm.trans (ef_276)] at hv
                  have hH : HT g Ty G_251 H := by rw [← ht, ← eTx_250, eG_251]; exact hB
                  refine lv_pop hx hb dX12_years_210 rfl ?_
                  obtain ⟨x_278, ex_278⟩ : ∃ y : Int32, y = y3_36 + 1 := ⟨_, rfl⟩
                  try rw [← ex_278] at hv
                  have rx_278 : rgI (1) (40) x_278 := by rw [ex_278]; exact rg_w (rg_add r_92 rl_1 (by decide) (by decide)) (by decide) (by decide)
                  have qx_278 : x_278.toInt = (y3_36 : Int32).toInt + 1 := by rw [ex_278]; exact rg_addE r_92 rl_1 (by decide) (by decide)
                  refine lv_iinc (v := x_278) (lv' := [(3, .int x_278), (7, .int x_190), (6, .int x_150), (5, .int x_123), (4, .int x_96), (0, .ref h0), (2, .int a1)]) hx hb dX12_years_211 hl (k := 6) rfl (by rw [ex_278]; rfl) (by decide) rfl (fun ls hl => ?_)
                  refine lv_goto (tgt := 36) hx hb dX12_years_214 (by decide) ?_
                  exact ih_36 H locs G_251 f_276 f_272 f_273 n_274 n_212 x_278 ls (by rw [u_255]; exact rg_w rg104_36 (by decide) (by decide)) fr_254 ef_276 ef_272 ef_273 en_274 u_261 ry2_36 (rg_w rx_278 (by decide) (by decide)) (TI.hi gc_277.1 (by have q := qx_278; omega)) (by have h1 := qx_278; have h2 := r_92.1; have h3 := r_92.2; have h4 := hm_36; omega) (lv_sub hl [5, 6, 0] rfl) hv hH hS
              · rw [if_neg c_186] at hv
                exact absurd (rg_one r_185 rl_4) c_186
            · rw [if_pos c_184] at hv
              have r_279 : rgI (5) (5) x_96 := rg_w (rg_eq rl_5 c_184) (by decide) (by decide)
              refine lv_aload_n hx hb dX12_years_135 rfl (lv_at hl 3 rfl) ?_
              obtain ⟨_, ⟨rfl, t_281, hk_282⟩, o_c_280⟩ := hH h0 _ k_h0
              refine hg_get hx hb hG igX12 hown hK o_c_280 rfl 24 (by decide) (hG _ mw_1308) rfl dX12_years_136 ?_
              refine lv_iload hx hb dX12_years_139 (lv_at hl 1 rfl) ?_
              refine lv_iload hx hb dX12_years_141 (lv_at hl 0 rfl) ?_
              refine vp_callSi (W.runS (As := [.ref (g.2.2 124), .int x_123, .int x_150]) (rest := []) ⟨hx, hb, hml, hown, hts⟩ (c_X12_refusesUnmount l g Ty G_151 (g.2.2 124) x_123 x_150 (hk_282.2.2.2.2.2.2.2.1)) (cwSx 3 hts hG (gwC mw_1655) mw_88 mw_1653 mw_1654 rfl rfl rfl hd_X12_refusesUnmount ⟨Nat.le_of_ble_eq_true rfl, Nat.le_of_ble_eq_true rfl⟩) ⟨PcH_blind, PcH_pre hK hH⟩ rfl rfl hl.1 rfl (lv_room (Nat.le_of_ble_eq_true rfl)) dX12_years_143 ⟨Nat.zero_le _, Nat.zero_le _⟩) (fun x_283 hx_283 => ?_)
              have rx_283 : rgI (-3) (0) x_283 := hx_283.1
              try rw [← hx_283.2] at hv
              have ex_284 : x_283 = F_X12_refusesUnmount fl5_36 x_123 x_150 := by rw [← w_167]; exact hx_283.2
              try rw [← ex_284] at hv
              refine lv_if_ne (tgt := 162) hx hb dX12_years_146 (by decide) (fun c_285 => ?_) (fun c_285 => ?_)
              · rw [if_neg c_285] at hv
                have r_286 : rgI (-3) (-1) x_283 := rg_w (rg_neR rx_283 rl_0 c_285) (by decide) (by decide)
                refine lv_iload hx hb dX12_years_162 (lv_at hl 2 rfl) ?_
                refine lv_iconst (v := 4) hx hb dX12_years_164 (by decide) ?_
                refine lv_icmp_eq (tgt := 171) hx hb dX12_years_165 (by decide) (fun c_287 => ?_) (fun c_287 => ?_)
                · rw [if_pos c_287] at hv
                  exact rg_noE r_279 rl_4 c_287 (by decide)
                · rw [if_neg c_287] at hv
                  refine lv_goto (tgt := 211) hx hb dX12_years_168 (by decide) ?_
                  obtain ⟨x_288, ex_288⟩ : ∃ y : Int32, y = y3_36 + 1 := ⟨_, rfl⟩
                  try rw [← ex_288] at hv
                  have rx_288 : rgI (1) (40) x_288 := by rw [ex_288]; exact rg_w (rg_add r_92 rl_1 (by decide) (by decide)) (by decide) (by decide)
                  have qx_288 : x_288.toInt = (y3_36 : Int32).toInt + 1 := by rw [ex_288]; exact rg_addE r_92 rl_1 (by decide) (by decide)
                  refine lv_iinc (v := x_288) (lv' := [(3, .int x_288), (6, .int x_150), (5, .int x_123), (4, .int x_96), (0, .ref h0), (2, .int a1)]) hx hb dX12_years_211 hl (k := 5) rfl (by rw [ex_288]; rfl) (by decide) rfl (fun ls hl => ?_)
                  refine lv_goto (tgt := 36) hx hb dX12_years_214 (by decide) ?_
                  exact ih_36 H locs G_151 fl5_36 fl6_36 fl7_36 nl127_36 n_172 x_288 ls (by rw [u_155]; exact rg_w rg104_36 (by decide) (by decide)) fr_154 w_167 w_168 w_169 u_161 en_172 ry2_36 (rg_w rx_288 (by decide) (by decide)) (TI.hi hi0_36 (by have q := qx_288; omega)) (by have h1 := qx_288; have h2 := r_92.1; have h3 := r_92.2; have h4 := hm_36; omega) (lv_sub hl [4, 5, 0] rfl) hv hH hS
              · rw [if_pos c_285] at hv
                have r_289 : rgI (0) (0) x_283 := rg_w (rg_eq rl_0 c_285) (by decide) (by decide)
                have th_290 : thr fl5_36 x_123 := ru_z ex_284 c_285
                refine lv_aload_n hx hb dX12_years_149 rfl (lv_at hl 3 rfl) ?_
                refine lv_aload_n hx hb dX12_years_150 rfl (lv_at hl 3 rfl) ?_
                refine hg_get hx hb hG igX12 hown hK o_c_280 rfl 24 (by decide) (hG _ mw_1308) rfl dX12_years_151 ?_
                refine lv_iload hx hb dX12_years_154 (lv_at hl 1 rfl) ?_
                refine lv_iload hx hb dX12_years_156 (lv_at hl 0 rfl) ?_
                refine va_calli (va_runV (As := [.ref (g.2.2 124), .int x_123, .int x_150]) (rest := []) ⟨hx, hb, hml, hown, hts⟩ (c_X12_goUnmount_x l g Ty G_151 H.size h0 (g.2.2 124) x_123 x_150 k_h0 (hk_282.2.2.2.2.2.2.2.1) (rg_w rdx_123 (by decide) (by decide)) (Bd + 25 * (y3_36 : Int32).toInt) (by rw [w_167]; exact hi0_36) (by rw [w_167]; exact th_290) (g.2.2 111) hmk.2.2.2.2.2.2.2.2.2.2.2.2.2.2.2.2.2.2.2.2.1 u_170 (by rw [u_157]; exact hI.a113)) (cwV 3 hts (gwV mw_1656 mw_1658 mw_62 mw_88 mw_1659) rfl rfl rfl hv_X12_goUnmount ⟨Nat.le_of_ble_eq_true rfl, Nat.le_of_ble_eq_true rfl⟩) ⟨PcT_blind, hg_recv hK o_c_280 rfl, PcT_pre hK hH⟩ rfl rfl hl.1 rfl (lv_room (Nat.le_of_ble_eq_true rfl)) dX12_years_158 ⟨Nat.zero_le _, Nat.zero_le _⟩) hS (fun q _ h => AF.mono hS.1 h) (fun q h => AF.mono hS.1 h) (fun x_291 ux_291 t H locs ht hvm hx_291 hB hz hk hS => ?_)
                obtain ⟨eTx_291, eGx_291⟩ := hx_291
                obtain ⟨G_292, eG_292⟩ : ∃ z, z = ux_291.2 := ⟨_, rfl⟩
                rw [← eG_292] at eGx_291
                obtain ⟨hfr_293, hex_294⟩ := eGx_291
                have fr_295 : FR [107, 108, 109, 110, 114, 127, 128, 104, 105, 139] [(g.2.2 124), (g.2.2 115), (g.2.2 125), (g.2.2 126)] [106] G G_292 := FR.tr fr_154 hfr_293 (by decide) (fun b h => ⟨h.1, h.2.1, trivial⟩) (by decide)
                have u_296 : G_292.1 104 = (G_36.1 104) := (hfr_293.1 104 (by decide)).trans u_155
                have u_297 : G_292.1 102 = (G.1 102) := (hfr_293.1 102 (by decide)).trans u_156
                have u_298 : G_292.1 113 = (G.1 113) := (hfr_293.1 113 (by decide)).trans u_157
                have u_299 : G_292.1 122 = (G.1 122) := (hfr_293.1 122 (by decide)).trans u_158
                have u_300 : G_292.1 133 = (G.1 133) := (hfr_293.1 133 (by decide)).trans u_159
                have u_301 : G_292.1 137 = (G.1 137) := (hfr_293.1 137 (by decide)).trans u_160
                have u_302 : G_292.1 127 = nl127_36 := (hfr_293.1 127 (by decide)).trans u_161
                have u_303 : G_292.1 139 = n_172 := (hfr_293.1 139 (by decide)).trans en_172
                have w_304 : G_292.2.1 (g.2.2 100) = (G.2.1 (g.2.2 100)) := (hfr_293.2.1 (g.2.2 100) ⟨(hLD 100 (by decide) 124 (by decide) (by decide)), (ne_kd hmk.1 hmk.2.2.2.1 (by decide)), trivial⟩).trans w_162
                have w_305 : G_292.2.1 (g.2.2 121) = (G.2.1 (g.2.2 121)) := (hfr_293.2.1 (g.2.2 121) ⟨(ne_kd hmk.2.2.2.2.2.1 hmk.2.2.2.2.2.2.2.1 (by decide)), (ne_kd hmk.2.2.2.2.2.1 hmk.2.2.2.1 (by decide)), trivial⟩).trans w_163
                have w_306 : G_292.2.1 (g.2.2 140) = (G.2.1 (g.2.2 140)) := (hfr_293.2.1 (g.2.2 140) ⟨(ne_kd hmk.2.2.2.2.2.2.2.2.2.2.2.2.2.2.2.2.2.2.1 hmk.2.2.2.2.2.2.2.1 (by decide)), (ne_kd hmk.2.2.2.2.2.2.2.2.2.2.2.2.2.2.2.2.2.2.1 hmk.2.2.2.1 (by decide)), trivial⟩).trans w_164
                have w_307 : G_292.2.1 (g.2.2 141) = (G.2.1 (g.2.2 141)) := (hfr_293.2.1 (g.2.2 141) ⟨(ne_kd hmk.2.2.2.2.2.2.2.2.2.2.2.2.2.2.2.2.2.2.2.1 hmk.2.2.2.2.2.2.2.1 (by decide)), (ne_kd hmk.2.2.2.2.2.2.2.2.2.2.2.2.2.2.2.2.2.2.2.1 hmk.2.2.2.1 (by decide)), trivial⟩).trans w_165
                have w_308 : G_292.2.1 (g.2.2 111) = (G.2.1 (g.2.2 111)) := (hfr_293.2.1 (g.2.2 111) ⟨(ne_kd hmk.2.2.2.2.2.2.2.2.2.2.2.2.2.2.2.2.2.2.2.2.1 hmk.2.2.2.2.2.2.2.1 (by decide)), (ne_kd hmk.2.2.2.2.2.2.2.2.2.2.2.2.2.2.2.2.2.2.2.2.1 hmk.2.2.2.1 (by decide)), trivial⟩).trans w_166
                have w_309 : G_292.2.1 (g.2.2 125) = fl6_36 := (hfr_293.2.1 (g.2.2 125) ⟨(ne_kd hmk.2.2.2.2.2.2.2.2.1 hmk.2.2.2.2.2.2.2.1 (by decide)), (ne_kd hmk.2.2.2.2.2.2.2.2.1 hmk.2.2.2.1 (by decide)), trivial⟩).trans w_168
                have w_310 : G_292.2.1 (g.2.2 126) = fl7_36 := (hfr_293.2.1 (g.2.2 126) ⟨(ne_kd hmk.2.2.2.2.2.2.2.2.2.1 hmk.2.2.2.2.2.2.2.1 (by decide)), (ne_kd hmk.2.2.2.2.2.2.2.2.2.1 hmk.2.2.2.1 (by decide)), trivial⟩).trans w_169
                have u_311 : G_292.2.2 111 = some (g.2.2 111) := (hfr_293.2.2 111 (by decide)).trans u_170
                have u_312 : G_292.2.2 112 = some (g.2.2 112) := (hfr_293.2.2 112 (by decide)).trans u_171
                obtain ⟨xa_313, xb_314⟩ := hex_294
                obtain ⟨f_315, ef_315⟩ : ∃ z : Nat → Int32, G_292.2.1 (g.2.2 124) = z := ⟨_, rfl⟩
                have hq_316 : F_X12_goUnmount_x fl5_36 (G.2.1 (g.2.2 111)) (G.1 113) x_123 x_150 = (x_291, f_315) := by have q := xb_314; rw [w_167, w_166, u_157, ef_315] at q; exact q
                rw [hq_316, tu2_eq] at hv
                obtain ⟨f_317, ef_317⟩ : ∃ z : Nat → Int32, G_292.2.1 (g.2.2 124) = z := ⟨_, rfl⟩
                have ti_318 := xa_313
                rw [ef_317] at ti_318
                try rw [(ef_315).symm.trans (ef_317)] at hv
                have hH : HT g Ty G_292 H := by rw [← ht, ← eTx_291, eG_292]; exact hB
                refine lv_pop hx hb dX12_years_161 rfl ?_
                refine lv_iload hx hb dX12_years_162 (lv_at hl 2 rfl) ?_
                refine lv_iconst (v := 4) hx hb dX12_years_164 (by decide) ?_
                refine lv_icmp_eq (tgt := 171) hx hb dX12_years_165 (by decide) (fun c_319 => ?_) (fun c_319 => ?_)
                · rw [if_pos c_319] at hv
                  exact rg_noE r_279 rl_4 c_319 (by decide)
                · rw [if_neg c_319] at hv
                  refine lv_goto (tgt := 211) hx hb dX12_years_168 (by decide) ?_
                  obtain ⟨x_320, ex_320⟩ : ∃ y : Int32, y = y3_36 + 1 := ⟨_, rfl⟩
                  try rw [← ex_320] at hv
                  have rx_320 : rgI (1) (40) x_320 := by rw [ex_320]; exact rg_w (rg_add r_92 rl_1 (by decide) (by decide)) (by decide) (by decide)
                  have qx_320 : x_320.toInt = (y3_36 : Int32).toInt + 1 := by rw [ex_320]; exact rg_addE r_92 rl_1 (by decide) (by decide)
                  refine lv_iinc (v := x_320) (lv' := [(3, .int x_320), (6, .int x_150), (5, .int x_123), (4, .int x_96), (0, .ref h0), (2, .int a1)]) hx hb dX12_years_211 hl (k := 5) rfl (by rw [ex_320]; rfl) (by decide) rfl (fun ls hl => ?_)
                  refine lv_goto (tgt := 36) hx hb dX12_years_214 (by decide) ?_
                  exact ih_36 H locs G_292 f_317 fl6_36 fl7_36 nl127_36 n_172 x_320 ls (by rw [u_296]; exact rg_w rg104_36 (by decide) (by decide)) fr_295 ef_317 w_309 w_310 u_302 u_303 ry2_36 (rg_w rx_320 (by decide) (by decide)) (TI.hi ti_318 (by have q := qx_320; omega)) (by have h1 := qx_320; have h2 := r_92.1; have h3 := r_92.2; have h4 := hm_36; omega) (lv_sub hl [4, 5, 0] rfl) hv hH hS
          · rw [if_pos c_182] at hv
            have r_321 : rgI (3) (3) x_96 := rg_w (rg_eq rl_3 c_182) (by decide) (by decide)
            refine lv_aload_n hx hb dX12_years_106 rfl (lv_at hl 3 rfl) ?_
            obtain ⟨_, ⟨rfl, t_323, hk_324⟩, o_c_322⟩ := hH h0 _ k_h0
            refine hg_get hx hb hG igX12 hown hK o_c_322 rfl 24 (by decide) (hG _ mw_1308) rfl dX12_years_107 ?_
            refine lv_iload hx hb dX12_years_110 (lv_at hl 1 rfl) ?_
            refine lv_iconst (v := 1) hx hb dX12_years_112 (by decide) ?_
            refine vp_callSi (W.runS (As := [.ref (g.2.2 124), .int x_123, .int 1]) (rest := []) ⟨hx, hb, hml, hown, hts⟩ (c_X12_refusesMaking l g Ty G_151 (g.2.2 124) x_123 1 (hk_324.2.2.2.2.2.2.2.1)) (cwSx 3 hts hG (gwC mw_1642) mw_88 mw_1640 mw_1641 rfl rfl rfl hd_X12_refusesMaking ⟨Nat.le_of_ble_eq_true rfl, Nat.le_of_ble_eq_true rfl⟩) ⟨PcH_blind, PcH_pre hK hH⟩ rfl rfl hl.1 rfl (lv_room (Nat.le_of_ble_eq_true rfl)) dX12_years_113 ⟨Nat.zero_le _, Nat.zero_le _⟩) (fun x_325 hx_325 => ?_)
            have rx_325 : rgI (-2) (0) x_325 := hx_325.1
            try rw [← hx_325.2] at hv
            have ex_326 : x_325 = F_X12_refusesMaking fl5_36 x_123 1 := by rw [← w_167]; exact hx_325.2
            try rw [← ex_326] at hv
            refine lv_if_ne (tgt := 129) hx hb dX12_years_116 (by decide) (fun c_327 => ?_) (fun c_327 => ?_)
            · rw [if_neg c_327] at hv
              have r_328 : rgI (-2) (-1) x_325 := rg_w (rg_neR rx_325 rl_0 c_327) (by decide) (by decide)
              refine lv_iload hx hb dX12_years_129 (lv_at hl 2 rfl) ?_
              refine lv_iconst (v := 5) hx hb dX12_years_131 (by decide) ?_
              refine lv_icmp_ne (tgt := 162) hx hb dX12_years_132 (by decide) (fun c_329 => ?_) (fun c_329 => ?_)
              · rw [if_neg c_329] at hv
                refine lv_iload hx hb dX12_years_162 (lv_at hl 2 rfl) ?_
                refine lv_iconst (v := 4) hx hb dX12_years_164 (by decide) ?_
                refine lv_icmp_eq (tgt := 171) hx hb dX12_years_165 (by decide) (fun c_330 => ?_) (fun c_330 => ?_)
                · rw [if_pos c_330] at hv
                  exact rg_noE r_321 rl_4 c_330 (by decide)
                · rw [if_neg c_330] at hv
                  refine lv_goto (tgt := 211) hx hb dX12_years_168 (by decide) ?_
                  obtain ⟨x_331, ex_331⟩ : ∃ y : Int32, y = y3_36 + 1 := ⟨_, rfl⟩
                  try rw [← ex_331] at hv
                  have rx_331 : rgI (1) (40) x_331 := by rw [ex_331]; exact rg_w (rg_add r_92 rl_1 (by decide) (by decide)) (by decide) (by decide)
                  have qx_331 : x_331.toInt = (y3_36 : Int32).toInt + 1 := by rw [ex_331]; exact rg_addE r_92 rl_1 (by decide) (by decide)
                  refine lv_iinc (v := x_331) (lv' := [(3, .int x_331), (6, .int x_150), (5, .int x_123), (4, .int x_96), (0, .ref h0), (2, .int a1)]) hx hb dX12_years_211 hl (k := 5) rfl (by rw [ex_331]; rfl) (by decide) rfl (fun ls hl => ?_)
                  refine lv_goto (tgt := 36) hx hb dX12_years_214 (by decide) ?_
                  exact ih_36 H locs G_151 fl5_36 fl6_36 fl7_36 nl127_36 n_172 x_331 ls (by rw [u_155]; exact rg_w rg104_36 (by decide) (by decide)) fr_154 w_167 w_168 w_169 u_161 en_172 ry2_36 (rg_w rx_331 (by decide) (by decide)) (TI.hi hi0_36 (by have q := qx_331; omega)) (by have h1 := qx_331; have h2 := r_92.1; have h3 := r_92.2; have h4 := hm_36; omega) (lv_sub hl [4, 5, 0] rfl) hv hH hS
              · rw [if_pos c_329] at hv
                exact rg_noE r_321 rl_5 c_329 (by decide)
            · rw [if_pos c_327] at hv
              have r_332 : rgI (0) (0) x_325 := rg_w (rg_eq rl_0 c_327) (by decide) (by decide)
              have th_333 : thr fl5_36 x_123 := rk_z ex_326 c_327
              refine lv_aload_n hx hb dX12_years_119 rfl (lv_at hl 3 rfl) ?_
              refine hg_get hx hb hG igX12 hown hK o_c_322 rfl 24 (by decide) (hG _ mw_1308) rfl dX12_years_120 ?_
              refine lv_iload hx hb dX12_years_123 (lv_at hl 1 rfl) ?_
              refine lv_iconst (v := 1) hx hb dX12_years_125 (by decide) ?_
              refine va_callv (va_runS (As := [.ref (g.2.2 124), .int x_123, .int 1]) (rest := []) ⟨hx, hb, hml, hown, hts⟩ (c_X12_goMake l g Ty G_151 H.size (g.2.2 124) x_123 1 (hk_324.2.2.2.2.2.2.2.1) (rg_w rdx_123 (by decide) (by decide))) (cwSx 3 hts hG (gwC mw_1645) mw_88 mw_1643 mw_1644 rfl rfl rfl hd_X12_goMake ⟨Nat.le_of_ble_eq_true rfl, Nat.le_of_ble_eq_true rfl⟩) ⟨PcT_blind, PcT_pre hK hH⟩ rfl rfl hl.1 rfl (lv_room (Nat.le_of_ble_eq_true rfl)) dX12_years_126 ⟨Nat.zero_le _, Nat.zero_le _⟩) hS (fun q _ h => AF.mono hS.1 h) (fun q h => AF.mono hS.1 h) (fun ux_334 t H locs ht hvm hx_334 hB hz hk hS => ?_)
              obtain ⟨eTx_334, eGx_334⟩ := hx_334
              obtain ⟨G_335, eG_335⟩ : ∃ z, z = ux_334.2 := ⟨_, rfl⟩
              rw [← eG_335] at eGx_334
              have hg_337 := eGx_334
              rw [w_167] at hg_337
              obtain ⟨f_336, ef_336⟩ : ∃ z : Nat → Int32, z = F_X12_goMake fl5_36 x_123 1 := ⟨_, rfl⟩
              rw [← ef_336] at hg_337
              have fr_338 : FR [107, 108, 109, 110, 114, 127, 128, 104, 105, 139] [(g.2.2 124), (g.2.2 115), (g.2.2 125), (g.2.2 126)] [106] G G_335 := FR.a fr_154 hg_337 (fun b h => h.1)
              have u_339 : G_335.1 104 = (G_36.1 104) := by rw [hg_337]; exact u_155
              have u_340 : G_335.1 102 = (G.1 102) := by rw [hg_337]; exact u_156
              have u_341 : G_335.1 113 = (G.1 113) := by rw [hg_337]; exact u_157
              have u_342 : G_335.1 122 = (G.1 122) := by rw [hg_337]; exact u_158
              have u_343 : G_335.1 133 = (G.1 133) := by rw [hg_337]; exact u_159
              have u_344 : G_335.1 137 = (G.1 137) := by rw [hg_337]; exact u_160
              have u_345 : G_335.1 127 = nl127_36 := by rw [hg_337]; exact u_161
              have u_346 : G_335.1 139 = n_172 := by rw [hg_337]; exact en_172
              have w_347 : G_335.2.1 (g.2.2 100) = (G.2.1 (g.2.2 100)) := by rw [hg_337]; exact (aset_ne (hLD 100 (by decide) 124 (by decide) (by decide))).trans w_162
              have w_348 : G_335.2.1 (g.2.2 121) = (G.2.1 (g.2.2 121)) := by rw [hg_337]; exact (aset_ne (ne_kd hmk.2.2.2.2.2.1 hmk.2.2.2.2.2.2.2.1 (by decide))).trans w_163
              have w_349 : G_335.2.1 (g.2.2 140) = (G.2.1 (g.2.2 140)) := by rw [hg_337]; exact (aset_ne (ne_kd hmk.2.2.2.2.2.2.2.2.2.2.2.2.2.2.2.2.2.2.1 hmk.2.2.2.2.2.2.2.1 (by decide))).trans w_164
              have w_350 : G_335.2.1 (g.2.2 141) = (G.2.1 (g.2.2 141)) := by rw [hg_337]; exact (aset_ne (ne_kd hmk.2.2.2.2.2.2.2.2.2.2.2.2.2.2.2.2.2.2.2.1 hmk.2.2.2.2.2.2.2.1 (by decide))).trans w_165
              have w_351 : G_335.2.1 (g.2.2 111) = (G.2.1 (g.2.2 111)) := by rw [hg_337]; exact (aset_ne (ne_kd hmk.2.2.2.2.2.2.2.2.2.2.2.2.2.2.2.2.2.2.2.2.1 hmk.2.2.2.2.2.2.2.1 (by decide))).trans w_166
              have w_352 : G_335.2.1 (g.2.2 124) = f_336 := by rw [hg_337]; exact aset_eq
              have w_353 : G_335.2.1 (g.2.2 125) = fl6_36 := by rw [hg_337]; exact (aset_ne (ne_kd hmk.2.2.2.2.2.2.2.2.1 hmk.2.2.2.2.2.2.2.1 (by decide))).trans w_168
              have w_354 : G_335.2.1 (g.2.2 126) = fl7_36 := by rw [hg_337]; exact (aset_ne (ne_kd hmk.2.2.2.2.2.2.2.2.2.1 hmk.2.2.2.2.2.2.2.1 (by decide))).trans w_169
              have u_355 : G_335.2.2 111 = some (g.2.2 111) := by rw [hg_337]; exact u_170
              have u_356 : G_335.2.2 112 = some (g.2.2 112) := by rw [hg_337]; exact u_171
              rw [← ef_336, tu1_eq] at hv
              have hH : HT g Ty G_335 H := by rw [← ht, ← eTx_334, eG_335]; exact hB
              have tm_357 : TI ((Bd + 25 * (y3_36 : Int32).toInt) + 25) f_336 := by rw [ef_336]; exact (TI_make hi0_36 (by have q := (r_92).2; omega) th_333).1
              refine lv_iload hx hb dX12_years_129 (lv_at hl 2 rfl) ?_
              refine lv_iconst (v := 5) hx hb dX12_years_131 (by decide) ?_
              refine lv_icmp_ne (tgt := 162) hx hb dX12_years_132 (by decide) (fun c_358 => ?_) (fun c_358 => ?_)
              · rw [if_neg c_358] at hv
                refine lv_iload hx hb dX12_years_162 (lv_at hl 2 rfl) ?_
                refine lv_iconst (v := 4) hx hb dX12_years_164 (by decide) ?_
                refine lv_icmp_eq (tgt := 171) hx hb dX12_years_165 (by decide) (fun c_359 => ?_) (fun c_359 => ?_)
                · rw [if_pos c_359] at hv
                  exact rg_noE r_321 rl_4 c_359 (by decide)
                · rw [if_neg c_359] at hv
                  refine lv_goto (tgt := 211) hx hb dX12_years_168 (by decide) ?_
                  obtain ⟨x_360, ex_360⟩ : ∃ y : Int32, y = y3_36 + 1 := ⟨_, rfl⟩
                  try rw [← ex_360] at hv
                  have rx_360 : rgI (1) (40) x_360 := by rw [ex_360]; exact rg_w (rg_add r_92 rl_1 (by decide) (by decide)) (by decide) (by decide)
                  have qx_360 : x_360.toInt = (y3_36 : Int32).toInt + 1 := by rw [ex_360]; exact rg_addE r_92 rl_1 (by decide) (by decide)
                  refine lv_iinc (v := x_360) (lv' := [(3, .int x_360), (6, .int x_150), (5, .int x_123), (4, .int x_96), (0, .ref h0), (2, .int a1)]) hx hb dX12_years_211 hl (k := 5) rfl (by rw [ex_360]; rfl) (by decide) rfl (fun ls hl => ?_)
                  refine lv_goto (tgt := 36) hx hb dX12_years_214 (by decide) ?_
                  exact ih_36 H locs G_335 f_336 fl6_36 fl7_36 nl127_36 n_172 x_360 ls (by rw [u_339]; exact rg_w rg104_36 (by decide) (by decide)) fr_338 w_352 w_353 w_354 u_345 u_346 ry2_36 (rg_w rx_360 (by decide) (by decide)) (TI.hi tm_357 (by have q := qx_360; omega)) (by have h1 := qx_360; have h2 := r_92.1; have h3 := r_92.2; have h4 := hm_36; omega) (lv_sub hl [4, 5, 0] rfl) hv hH hS
              · rw [if_pos c_358] at hv
                exact rg_noE r_321 rl_5 c_358 (by decide)
        · rw [if_neg c_180] at hv
          have r_361 : rgI (0) (2) x_96 := rg_w (rg_ltL rdx_96 rl_3 (nle_lt c_180)) (by decide) (by decide)
          refine lv_aload_n hx hb dX12_years_70 rfl (lv_at hl 3 rfl) ?_
          refine lv_aload_n hx hb dX12_years_71 rfl (lv_at hl 3 rfl) ?_
          obtain ⟨_, ⟨rfl, t_363, hk_364⟩, o_c_362⟩ := hH h0 _ k_h0
          refine hg_get hx hb hG igX12 hown hK o_c_362 rfl 24 (by decide) (hG _ mw_1308) rfl dX12_years_72 ?_
          refine lv_iload hx hb dX12_years_75 (lv_at hl 1 rfl) ?_
          refine lv_iload hx hb dX12_years_77 (lv_at hl 0 rfl) ?_
          refine va_calli (va_runV (As := [.ref (g.2.2 124), .int x_123, .int x_150]) (rest := []) ⟨hx, hb, hml, hown, hts⟩ (c_X12_refusesComing_x l g Ty G_151 H.size h0 (g.2.2 124) x_123 x_150 k_h0 (hk_364.2.2.2.2.2.2.2.1) ρ_178 (by rw [w_167]; exact hT_179) (g.2.2 111) hmk.2.2.2.2.2.2.2.2.2.2.2.2.2.2.2.2.2.2.2.2.1 u_170 (by rw [u_157]; exact hI.a113)) (cwV 3 hts (gwV mw_1546 mw_1548 mw_50 mw_88 mw_1549) rfl rfl rfl hv_X12_refusesComing ⟨Nat.le_of_ble_eq_true rfl, Nat.le_of_ble_eq_true rfl⟩) ⟨PcT_blind, hg_recv hK o_c_362 rfl, PcT_pre hK hH⟩ rfl rfl hl.1 rfl (lv_room (Nat.le_of_ble_eq_true rfl)) dX12_years_79 ⟨Nat.zero_le _, Nat.zero_le _⟩) hS (fun q _ h => AF.mono hS.1 h) (fun q h => AF.mono hS.1 h) (fun x_365 ux_365 t H locs ht hvm hx_365 hB hz hk hS => ?_)
          obtain ⟨hx_365, fx_365⟩ := hx_365
          obtain ⟨eTx_365, eGx_365⟩ := fx_365
          obtain ⟨G_366, eG_366⟩ : ∃ z, z = ux_365.2 := ⟨_, rfl⟩
          rw [← eG_366] at eGx_365
          obtain ⟨hfr_367, hex_368⟩ := eGx_365
          have fr_369 : FR [107, 108, 109, 110, 114, 127, 128, 104, 105, 139] [(g.2.2 124), (g.2.2 115), (g.2.2 125), (g.2.2 126)] [106] G G_366 := FR.tr fr_154 hfr_367 (by decide) (fun b h => ⟨h.2.1, trivial⟩) (by decide)
          have u_370 : G_366.1 104 = (G_36.1 104) := (hfr_367.1 104 (by decide)).trans u_155
          have u_371 : G_366.1 102 = (G.1 102) := (hfr_367.1 102 (by decide)).trans u_156
          have u_372 : G_366.1 113 = (G.1 113) := (hfr_367.1 113 (by decide)).trans u_157
          have u_373 : G_366.1 122 = (G.1 122) := (hfr_367.1 122 (by decide)).trans u_158
          have u_374 : G_366.1 133 = (G.1 133) := (hfr_367.1 133 (by decide)).trans u_159
          have u_375 : G_366.1 137 = (G.1 137) := (hfr_367.1 137 (by decide)).trans u_160
          have u_376 : G_366.1 127 = nl127_36 := (hfr_367.1 127 (by decide)).trans u_161
          have u_377 : G_366.1 139 = n_172 := (hfr_367.1 139 (by decide)).trans en_172
          have w_378 : G_366.2.1 (g.2.2 100) = (G.2.1 (g.2.2 100)) := (hfr_367.2.1 (g.2.2 100) ⟨(ne_kd hmk.1 hmk.2.2.2.1 (by decide)), trivial⟩).trans w_162
          have w_379 : G_366.2.1 (g.2.2 121) = (G.2.1 (g.2.2 121)) := (hfr_367.2.1 (g.2.2 121) ⟨(ne_kd hmk.2.2.2.2.2.1 hmk.2.2.2.1 (by decide)), trivial⟩).trans w_163
          have w_380 : G_366.2.1 (g.2.2 140) = (G.2.1 (g.2.2 140)) := (hfr_367.2.1 (g.2.2 140) ⟨(ne_kd hmk.2.2.2.2.2.2.2.2.2.2.2.2.2.2.2.2.2.2.1 hmk.2.2.2.1 (by decide)), trivial⟩).trans w_164
          have w_381 : G_366.2.1 (g.2.2 141) = (G.2.1 (g.2.2 141)) := (hfr_367.2.1 (g.2.2 141) ⟨(ne_kd hmk.2.2.2.2.2.2.2.2.2.2.2.2.2.2.2.2.2.2.2.1 hmk.2.2.2.1 (by decide)), trivial⟩).trans w_165
          have w_382 : G_366.2.1 (g.2.2 111) = (G.2.1 (g.2.2 111)) := (hfr_367.2.1 (g.2.2 111) ⟨(ne_kd hmk.2.2.2.2.2.2.2.2.2.2.2.2.2.2.2.2.2.2.2.2.1 hmk.2.2.2.1 (by decide)), trivial⟩).trans w_166
          have w_383 : G_366.2.1 (g.2.2 124) = fl5_36 := (hfr_367.2.1 (g.2.2 124) ⟨(ne_kd hmk.2.2.2.2.2.2.2.1 hmk.2.2.2.1 (by decide)), trivial⟩).trans w_167
          have w_384 : G_366.2.1 (g.2.2 125) = fl6_36 := (hfr_367.2.1 (g.2.2 125) ⟨(ne_kd hmk.2.2.2.2.2.2.2.2.1 hmk.2.2.2.1 (by decide)), trivial⟩).trans w_168
          have w_385 : G_366.2.1 (g.2.2 126) = fl7_36 := (hfr_367.2.1 (g.2.2 126) ⟨(ne_kd hmk.2.2.2.2.2.2.2.2.2.1 hmk.2.2.2.1 (by decide)), trivial⟩).trans w_169
          have u_386 : G_366.2.2 111 = some (g.2.2 111) := (hfr_367.2.2 111 (by decide)).trans u_170
          have u_387 : G_366.2.2 112 = some (g.2.2 112) := (hfr_367.2.2 112 (by decide)).trans u_171
          have hq_388 : F_X12_refusesComing_x fl5_36 (G.2.1 (g.2.2 111)) (G.1 113) x_123 x_150 = x_365 := by have q := hex_368; rw [w_167, w_166, u_157] at q; exact q
          try rw [hq_388] at hv
          have hH : HT g Ty G_366 H := by rw [← ht, ← eTx_365, eG_366]; exact hB
          have rx_365 : rgI (-9) (0) x_365 := hx_365.1
          have tx_389 := hx_365.2
          try rw [w_167] at tx_389
          try rw [w_166] at tx_389
          try rw [u_157] at tx_389
          try rw [w_162] at tx_389
          refine lv_if_ne (tgt := 100) hx hb dX12_years_82 (by decide) (fun c_390 => ?_) (fun c_390 => ?_)
          · rw [if_neg c_390] at hv
            have r_391 : rgI (-9) (-1) x_365 := rg_w (rg_neR rx_365 rl_0 c_390) (by decide) (by decide)
            refine lv_iload hx hb dX12_years_100 (lv_at hl 2 rfl) ?_
            refine lv_iconst (v := 3) hx hb dX12_years_102 (by decide) ?_
            refine lv_icmp_ne (tgt := 129) hx hb dX12_years_103 (by decide) (fun c_392 => ?_) (fun c_392 => ?_)
            · rw [if_neg c_392] at hv
              refine lv_iload hx hb dX12_years_129 (lv_at hl 2 rfl) ?_
              refine lv_iconst (v := 5) hx hb dX12_years_131 (by decide) ?_
              refine lv_icmp_ne (tgt := 162) hx hb dX12_years_132 (by decide) (fun c_393 => ?_) (fun c_393 => ?_)
              · rw [if_neg c_393] at hv
                refine lv_iload hx hb dX12_years_162 (lv_at hl 2 rfl) ?_
                refine lv_iconst (v := 4) hx hb dX12_years_164 (by decide) ?_
                refine lv_icmp_eq (tgt := 171) hx hb dX12_years_165 (by decide) (fun c_394 => ?_) (fun c_394 => ?_)
                · rw [if_pos c_394] at hv
                  exact rg_noE r_361 rl_4 c_394 (by decide)
                · rw [if_neg c_394] at hv
                  refine lv_goto (tgt := 211) hx hb dX12_years_168 (by decide) ?_
                  obtain ⟨x_395, ex_395⟩ : ∃ y : Int32, y = y3_36 + 1 := ⟨_, rfl⟩
                  try rw [← ex_395] at hv
                  have rx_395 : rgI (1) (40) x_395 := by rw [ex_395]; exact rg_w (rg_add r_92 rl_1 (by decide) (by decide)) (by decide) (by decide)
                  have qx_395 : x_395.toInt = (y3_36 : Int32).toInt + 1 := by rw [ex_395]; exact rg_addE r_92 rl_1 (by decide) (by decide)
                  refine lv_iinc (v := x_395) (lv' := [(3, .int x_395), (6, .int x_150), (5, .int x_123), (4, .int x_96), (0, .ref h0), (2, .int a1)]) hx hb dX12_years_211 hl (k := 5) rfl (by rw [ex_395]; rfl) (by decide) rfl (fun ls hl => ?_)
                  refine lv_goto (tgt := 36) hx hb dX12_years_214 (by decide) ?_
                  exact ih_36 H locs G_366 fl5_36 fl6_36 fl7_36 nl127_36 n_172 x_395 ls (by rw [u_370]; exact rg_w rg104_36 (by decide) (by decide)) fr_369 w_383 w_384 w_385 u_376 u_377 ry2_36 (rg_w rx_395 (by decide) (by decide)) (TI.hi hi0_36 (by have q := qx_395; omega)) (by have h1 := qx_395; have h2 := r_92.1; have h3 := r_92.2; have h4 := hm_36; omega) (lv_sub hl [4, 5, 0] rfl) hv hH hS
              · rw [if_pos c_393] at hv
                exact rg_noE r_361 rl_5 c_393 (by decide)
            · rw [if_pos c_392] at hv
              exact rg_noE r_361 rl_3 c_392 (by decide)
          · rw [if_pos c_390] at hv
            have r_396 : rgI (0) (0) x_365 := rg_w (rg_eq rl_0 c_390) (by decide) (by decide)
            have c0_397 := tx_389 c_390
            refine lv_aload_n hx hb dX12_years_85 rfl (lv_at hl 3 rfl) ?_
            refine lv_aload_n hx hb dX12_years_86 rfl (lv_at hl 3 rfl) ?_
            obtain ⟨_, ⟨rfl, t_399, hk_400⟩, o_c_398⟩ := hH h0 _ k_h0
            refine hg_get hx hb hG igX12 hown hK o_c_398 rfl 24 (by decide) (hG _ mw_1308) rfl dX12_years_87 ?_
            refine lv_bipush (v := 24) hx hb dX12_years_90 (by decide) ?_
            refine lv_iload hx hb dX12_years_92 (lv_at hl 1 rfl) ?_
            refine lv_iload hx hb dX12_years_94 (lv_at hl 0 rfl) ?_
            refine va_calli (va_runV (As := [.ref (g.2.2 124), .int 24, .int x_123, .int x_150]) (rest := []) ⟨hx, hb, hml, hown, hts⟩ (c_X12_goClone_x l g Ty G_366 H.size h0 (g.2.2 124) 24 x_123 x_150 k_h0 (hk_400.2.2.2.2.2.2.2.1) (rg_w rl_24 (by decide) (by decide)) (rg_w rdx_123 (by decide) (by decide)) (rg_w rdx_150 (by decide) (by decide)) (g.2.2 111) hmk.2.2.2.2.2.2.2.2.2.2.2.2.2.2.2.2.2.2.2.2.1 u_386 (by rw [u_372]; exact hI.a113) hLD σ_174 (by rw [w_383]; exact hts_175) (by rw [w_383]; exact h1_176) (Bd + 25 * (y3_36 : Int32).toInt) (by rw [w_383]; exact hb_177) (by rw [w_383]; exact (Int.le_trans hb_177 (by have q := (r_92).2; omega))) (Or.inl rfl) (by rw [w_383, w_382, u_372]; exact c0_397)) (cwV 4 hts (gwV mw_1584 mw_1586 mw_54 mw_88 mw_1587) rfl rfl rfl hv_X12_goClone ⟨Nat.le_of_ble_eq_true rfl, Nat.le_of_ble_eq_true rfl⟩) ⟨PcT_blind, hg_recv hK o_c_398 rfl, PcT_pre hK hH⟩ rfl rfl hl.1 rfl (lv_room (Nat.le_of_ble_eq_true rfl)) dX12_years_96 ⟨Nat.zero_le _, Nat.zero_le _⟩) hS (fun q _ h => AF.mono hS.1 h) (fun q h => AF.mono hS.1 h) (fun x_401 ux_401 t H locs ht hvm hx_401 hB hz hk hS => ?_)
            obtain ⟨eTx_401, eGx_401⟩ := hx_401
            obtain ⟨G_402, eG_402⟩ : ∃ z, z = ux_401.2 := ⟨_, rfl⟩
            rw [← eG_402] at eGx_401
            obtain ⟨hfr_403, hex_404⟩ := eGx_401
            have fr_405 : FR [107, 108, 109, 110, 114, 127, 128, 104, 105, 139] [(g.2.2 124), (g.2.2 115), (g.2.2 125), (g.2.2 126)] [106] G G_402 := FR.tr fr_369 hfr_403 (by decide) (fun b h => ⟨h.1, h.2.1, h.2.2.1, h.2.2.2.1, trivial⟩) (by decide)
            have u_406 : G_402.1 104 = (G_36.1 104) := (hfr_403.1 104 (by decide)).trans u_370
            have u_407 : G_402.1 102 = (G.1 102) := (hfr_403.1 102 (by decide)).trans u_371
            have u_408 : G_402.1 113 = (G.1 113) := (hfr_403.1 113 (by decide)).trans u_372
            have u_409 : G_402.1 122 = (G.1 122) := (hfr_403.1 122 (by decide)).trans u_373
            have u_410 : G_402.1 133 = (G.1 133) := (hfr_403.1 133 (by decide)).trans u_374
            have u_411 : G_402.1 137 = (G.1 137) := (hfr_403.1 137 (by decide)).trans u_375
            have u_412 : G_402.1 139 = n_172 := (hfr_403.1 139 (by decide)).trans u_377
            have w_413 : G_402.2.1 (g.2.2 100) = (G.2.1 (g.2.2 100)) := (hfr_403.2.1 (g.2.2 100) ⟨(hLD 100 (by decide) 124 (by decide) (by decide)), (ne_kd hmk.1 hmk.2.2.2.1 (by decide)), (ne_kd hmk.1 hmk.2.2.2.2.2.2.2.2.1 (by decide)), (ne_kd hmk.1 hmk.2.2.2.2.2.2.2.2.2.1 (by decide)), trivial⟩).trans w_378
            have w_414 : G_402.2.1 (g.2.2 121) = (G.2.1 (g.2.2 121)) := (hfr_403.2.1 (g.2.2 121) ⟨(ne_kd hmk.2.2.2.2.2.1 hmk.2.2.2.2.2.2.2.1 (by decide)), (ne_kd hmk.2.2.2.2.2.1 hmk.2.2.2.1 (by decide)), (ne_kd hmk.2.2.2.2.2.1 hmk.2.2.2.2.2.2.2.2.1 (by decide)), (ne_kd hmk.2.2.2.2.2.1 hmk.2.2.2.2.2.2.2.2.2.1 (by decide)), trivial⟩).trans w_379
            have w_415 : G_402.2.1 (g.2.2 140) = (G.2.1 (g.2.2 140)) := (hfr_403.2.1 (g.2.2 140) ⟨(ne_kd hmk.2.2.2.2.2.2.2.2.2.2.2.2.2.2.2.2.2.2.1 hmk.2.2.2.2.2.2.2.1 (by decide)), (ne_kd hmk.2.2.2.2.2.2.2.2.2.2.2.2.2.2.2.2.2.2.1 hmk.2.2.2.1 (by decide)), (ne_kd hmk.2.2.2.2.2.2.2.2.2.2.2.2.2.2.2.2.2.2.1 hmk.2.2.2.2.2.2.2.2.1 (by decide)), (ne_kd hmk.2.2.2.2.2.2.2.2.2.2.2.2.2.2.2.2.2.2.1 hmk.2.2.2.2.2.2.2.2.2.1 (by decide)), trivial⟩).trans w_380
            have w_416 : G_402.2.1 (g.2.2 141) = (G.2.1 (g.2.2 141)) := (hfr_403.2.1 (g.2.2 141) ⟨(ne_kd hmk.2.2.2.2.2.2.2.2.2.2.2.2.2.2.2.2.2.2.2.1 hmk.2.2.2.2.2.2.2.1 (by decide)), (ne_kd hmk.2.2.2.2.2.2.2.2.2.2.2.2.2.2.2.2.2.2.2.1 hmk.2.2.2.1 (by decide)), (ne_kd hmk.2.2.2.2.2.2.2.2.2.2.2.2.2.2.2.2.2.2.2.1 hmk.2.2.2.2.2.2.2.2.1 (by decide)), (ne_kd hmk.2.2.2.2.2.2.2.2.2.2.2.2.2.2.2.2.2.2.2.1 hmk.2.2.2.2.2.2.2.2.2.1 (by decide)), trivial⟩).trans w_381
            have w_417 : G_402.2.1 (g.2.2 111) = (G.2.1 (g.2.2 111)) := (hfr_403.2.1 (g.2.2 111) ⟨(ne_kd hmk.2.2.2.2.2.2.2.2.2.2.2.2.2.2.2.2.2.2.2.2.1 hmk.2.2.2.2.2.2.2.1 (by decide)), (ne_kd hmk.2.2.2.2.2.2.2.2.2.2.2.2.2.2.2.2.2.2.2.2.1 hmk.2.2.2.1 (by decide)), (ne_kd hmk.2.2.2.2.2.2.2.2.2.2.2.2.2.2.2.2.2.2.2.2.1 hmk.2.2.2.2.2.2.2.2.1 (by decide)), (ne_kd hmk.2.2.2.2.2.2.2.2.2.2.2.2.2.2.2.2.2.2.2.2.1 hmk.2.2.2.2.2.2.2.2.2.1 (by decide)), trivial⟩).trans w_382
            have u_418 : G_402.2.2 111 = some (g.2.2 111) := (hfr_403.2.2 111 (by decide)).trans u_386
            have u_419 : G_402.2.2 112 = some (g.2.2 112) := (hfr_403.2.2 112 (by decide)).trans u_387
            obtain ⟨xa_420, xb_421⟩ := hex_404
            obtain ⟨f_422, ef_422⟩ : ∃ z : Nat → Int32, G_402.2.1 (g.2.2 124) = z := ⟨_, rfl⟩
            obtain ⟨f_423, ef_423⟩ : ∃ z : Nat → Int32, G_402.2.1 (g.2.2 125) = z := ⟨_, rfl⟩
            obtain ⟨f_424, ef_424⟩ : ∃ z : Nat → Int32, G_402.2.1 (g.2.2 126) = z := ⟨_, rfl⟩
            obtain ⟨n_425, en_425⟩ : ∃ z : Int32, G_402.1 127 = z := ⟨_, rfl⟩
            have hq_426 : F_X12_goClone_x fl5_36 (G.2.1 (g.2.2 111)) fl6_36 fl7_36 (G.1 113) nl127_36 24 x_123 x_150 = (x_401, f_422, f_423, f_424, n_425) := by have q := xb_421; rw [w_383, w_382, w_384, w_385, u_372, u_376, ef_422, ef_423, ef_424, en_425] at q; exact q
            rw [hq_426, tu5_eq] at hv
            obtain ⟨f_427, ef_427⟩ : ∃ z : Nat → Int32, G_402.2.1 (g.2.2 124) = z := ⟨_, rfl⟩
            have gc_428 := xa_420
            rw [ef_427, w_383, w_382, u_372] at gc_428
            try rw [(ef_422).symm.trans (ef_427)] at hv
            have hH : HT g Ty G_402 H := by rw [← ht, ← eTx_401, eG_402]; exact hB
            refine lv_pop hx hb dX12_years_99 rfl ?_
            refine lv_iload hx hb dX12_years_100 (lv_at hl 2 rfl) ?_
            refine lv_iconst (v := 3) hx hb dX12_years_102 (by decide) ?_
            refine lv_icmp_ne (tgt := 129) hx hb dX12_years_103 (by decide) (fun c_429 => ?_) (fun c_429 => ?_)
            · rw [if_neg c_429] at hv
              refine lv_iload hx hb dX12_years_129 (lv_at hl 2 rfl) ?_
              refine lv_iconst (v := 5) hx hb dX12_years_131 (by decide) ?_
              refine lv_icmp_ne (tgt := 162) hx hb dX12_years_132 (by decide) (fun c_430 => ?_) (fun c_430 => ?_)
              · rw [if_neg c_430] at hv
                refine lv_iload hx hb dX12_years_162 (lv_at hl 2 rfl) ?_
                refine lv_iconst (v := 4) hx hb dX12_years_164 (by decide) ?_
                refine lv_icmp_eq (tgt := 171) hx hb dX12_years_165 (by decide) (fun c_431 => ?_) (fun c_431 => ?_)
                · rw [if_pos c_431] at hv
                  exact rg_noE r_361 rl_4 c_431 (by decide)
                · rw [if_neg c_431] at hv
                  refine lv_goto (tgt := 211) hx hb dX12_years_168 (by decide) ?_
                  obtain ⟨x_432, ex_432⟩ : ∃ y : Int32, y = y3_36 + 1 := ⟨_, rfl⟩
                  try rw [← ex_432] at hv
                  have rx_432 : rgI (1) (40) x_432 := by rw [ex_432]; exact rg_w (rg_add r_92 rl_1 (by decide) (by decide)) (by decide) (by decide)
                  have qx_432 : x_432.toInt = (y3_36 : Int32).toInt + 1 := by rw [ex_432]; exact rg_addE r_92 rl_1 (by decide) (by decide)
                  refine lv_iinc (v := x_432) (lv' := [(3, .int x_432), (6, .int x_150), (5, .int x_123), (4, .int x_96), (0, .ref h0), (2, .int a1)]) hx hb dX12_years_211 hl (k := 5) rfl (by rw [ex_432]; rfl) (by decide) rfl (fun ls hl => ?_)
                  refine lv_goto (tgt := 36) hx hb dX12_years_214 (by decide) ?_
                  exact ih_36 H locs G_402 f_427 f_423 f_424 n_425 n_172 x_432 ls (by rw [u_406]; exact rg_w rg104_36 (by decide) (by decide)) fr_405 ef_427 ef_423 ef_424 en_425 u_412 ry2_36 (rg_w rx_432 (by decide) (by decide)) (TI.hi gc_428.1 (by have q := qx_432; omega)) (by have h1 := qx_432; have h2 := r_92.1; have h3 := r_92.2; have h4 := hm_36; omega) (lv_sub hl [4, 5, 0] rfl) hv hH hS
              · rw [if_pos c_430] at hv
                exact rg_noE r_361 rl_5 c_430 (by decide)
            · rw [if_pos c_429] at hv
              exact rg_noE r_361 rl_3 c_429 (by decide)
  refine lv_aload_n hx hb dX12_years_0 rfl (lv_at hl 0 rfl) ?_
  refine lv_iconst (v := 0) hx hb dX12_years_1 (by decide) ?_
  obtain ⟨_, ⟨rfl, t_434, hk_435⟩, o_c_433⟩ := hH h0 _ k_h0
  refine hg_put (ty := .int) hx hb hG igX12 tyX12 tyX12_ok nmX12 hown hK hS o_c_433 (AF.of k_h0) rfl 5 (by decide) (hG _ mw_1289) rfl (by decide +kernel) rfl rfl (Nat.le_of_ble_eq_true rfl) dX12_years_2 (fun H locs o_c_433 hz oq hS => ?_)
  obtain ⟨G_436, eG_436⟩ : ∃ z : Gh, z = gset G 105 0 := ⟨_, rfl⟩
  have hH : HT g Ty G_436 H := by rw [eG_436]; exact HT.putN 105 0 hH k_h0 ⟨rfl, t_434, hk_435⟩ o_c_433 oq (Or.inr (Or.inr (Or.inr (Or.inr (Or.inr ⟨by decide, t_434⟩)))))
  have fr_437 : FR [107, 108, 109, 110, 114, 127, 128, 104, 105, 139] [(g.2.2 124), (g.2.2 115), (g.2.2 125), (g.2.2 126)] [106] G G_436 := FR.n FR.rf eG_436 (by decide)
  have u_438 : G_436.1 102 = (G.1 102) := by rw [eG_436]; exact (gs_ne (by decide))
  have u_439 : G_436.1 104 = (G.1 104) := by rw [eG_436]; exact (gs_ne (by decide))
  have u_440 : G_436.1 113 = (G.1 113) := by rw [eG_436]; exact (gs_ne (by decide))
  have u_441 : G_436.1 122 = (G.1 122) := by rw [eG_436]; exact (gs_ne (by decide))
  have u_442 : G_436.1 133 = (G.1 133) := by rw [eG_436]; exact (gs_ne (by decide))
  have u_443 : G_436.1 137 = (G.1 137) := by rw [eG_436]; exact (gs_ne (by decide))
  have u_444 : G_436.1 127 = (G.1 127) := by rw [eG_436]; exact (gs_ne (by decide))
  have u_445 : G_436.1 139 = (G.1 139) := by rw [eG_436]; exact (gs_ne (by decide))
  have u_446 : G_436.1 105 = 0 := by rw [eG_436]; exact gs_eq
  have w_447 : G_436.2.1 (g.2.2 100) = (G.2.1 (g.2.2 100)) := by rw [eG_436]; exact rfl
  have w_448 : G_436.2.1 (g.2.2 121) = (G.2.1 (g.2.2 121)) := by rw [eG_436]; exact rfl
  have w_449 : G_436.2.1 (g.2.2 140) = (G.2.1 (g.2.2 140)) := by rw [eG_436]; exact rfl
  have w_450 : G_436.2.1 (g.2.2 141) = (G.2.1 (g.2.2 141)) := by rw [eG_436]; exact rfl
  have w_451 : G_436.2.1 (g.2.2 111) = (G.2.1 (g.2.2 111)) := by rw [eG_436]; exact rfl
  have w_452 : G_436.2.1 (g.2.2 124) = (G.2.1 (g.2.2 124)) := by rw [eG_436]; exact rfl
  have w_453 : G_436.2.1 (g.2.2 125) = (G.2.1 (g.2.2 125)) := by rw [eG_436]; exact rfl
  have w_454 : G_436.2.1 (g.2.2 126) = (G.2.1 (g.2.2 126)) := by rw [eG_436]; exact rfl
  have u_455 : G_436.2.2 111 = some (g.2.2 111) := by rw [eG_436]; exact hI.r111
  have u_456 : G_436.2.2 112 = some (g.2.2 112) := by rw [eG_436]; exact hI.r112
  clear oq hz
  refine lv_iload_n hx hb dX12_years_5 rfl (lv_at hl 2 rfl) ?_
  refine lv_iconst (v := 1) hx hb dX12_years_6 (by decide) ?_
  refine lv_bipush (v := 40) hx hb dX12_years_7 (by decide) ?_
  refine vp_callSi (W.runS (As := [.int a1, .int 1, .int 40]) (rest := []) ⟨hx, hb, hml, hown, hts⟩ (c_X12_in l g Ty G_436 a1 1 40 ) (cwSx 3 hts hG (gwC mw_1426) mw_88 mw_1424 mw_1425 rfl rfl rfl hd_X12_in ⟨Nat.le_of_ble_eq_true rfl, Nat.le_of_ble_eq_true rfl⟩) ⟨PcH_blind, PcH_pre hK hH⟩ rfl rfl hl.1 rfl (lv_room (Nat.le_of_ble_eq_true rfl)) dX12_years_9 ⟨Nat.zero_le _, Nat.zero_le _⟩) (fun x_457 hx_457 => ?_)
  have rx_457 : rgI (0) (1) x_457 := hx_457.1
  try rw [← hx_457.2.2] at hv
  try rw [← hx_457.2.2] at hv
  refine lv_if_ne (tgt := 17) hx hb dX12_years_12 (by decide) (fun c_458 => ?_) (fun c_458 => ?_)
  · rw [if_neg c_458] at hv
    have r_459 : rgI (1) (1) x_457 := rg_w (rg_neL rx_457 rl_0 c_458) (by decide) (by decide)
    have r_460 : rgI (1) (40) a1 := rg_w (in_rng hx_457.2.1 c_458 rl_1 rl_40) (by decide) (by decide)
    refine lv_aload_n hx hb dX12_years_17 rfl (lv_at hl 0 rfl) ?_
    refine lv_iload_n hx hb dX12_years_18 rfl (lv_at hl 1 rfl) ?_
    obtain ⟨_, ⟨rfl, t_462, hk_463⟩, o_c_461⟩ := hH h0 _ k_h0
    refine hg_put (ty := .int) hx hb hG igX12 tyX12 tyX12_ok nmX12 hown hK hS o_c_461 (AF.of k_h0) rfl 39 (by decide) (hG _ mw_1323) rfl (by decide +kernel) rfl rfl (Nat.le_of_ble_eq_true rfl) dX12_years_19 (fun H locs o_c_461 hz oq hS => ?_)
    obtain ⟨G_464, eG_464⟩ : ∃ z : Gh, z = gset G_436 139 a0 := ⟨_, rfl⟩
    have hH : HT g Ty G_464 H := by rw [eG_464]; exact HT.putN 139 a0 hH k_h0 ⟨rfl, t_462, hk_463⟩ o_c_461 oq (Or.inr (Or.inr (Or.inr (Or.inr (Or.inr ⟨by decide, t_462⟩)))))
    have fr_465 : FR [107, 108, 109, 110, 114, 127, 128, 104, 105, 139] [(g.2.2 124), (g.2.2 115), (g.2.2 125), (g.2.2 126)] [106] G G_464 := FR.n fr_437 eG_464 (by decide)
    have u_466 : G_464.1 102 = (G.1 102) := by rw [eG_464]; exact (gs_ne (by decide)).trans u_438
    have u_467 : G_464.1 104 = (G.1 104) := by rw [eG_464]; exact (gs_ne (by decide)).trans u_439
    have u_468 : G_464.1 113 = (G.1 113) := by rw [eG_464]; exact (gs_ne (by decide)).trans u_440
    have u_469 : G_464.1 122 = (G.1 122) := by rw [eG_464]; exact (gs_ne (by decide)).trans u_441
    have u_470 : G_464.1 133 = (G.1 133) := by rw [eG_464]; exact (gs_ne (by decide)).trans u_442
    have u_471 : G_464.1 137 = (G.1 137) := by rw [eG_464]; exact (gs_ne (by decide)).trans u_443
    have u_472 : G_464.1 127 = (G.1 127) := by rw [eG_464]; exact (gs_ne (by decide)).trans u_444
    have u_473 : G_464.1 105 = 0 := by rw [eG_464]; exact (gs_ne (by decide)).trans u_446
    have u_474 : G_464.1 139 = a0 := by rw [eG_464]; exact gs_eq
    have w_475 : G_464.2.1 (g.2.2 100) = (G.2.1 (g.2.2 100)) := by rw [eG_464]; exact w_447
    have w_476 : G_464.2.1 (g.2.2 121) = (G.2.1 (g.2.2 121)) := by rw [eG_464]; exact w_448
    have w_477 : G_464.2.1 (g.2.2 140) = (G.2.1 (g.2.2 140)) := by rw [eG_464]; exact w_449
    have w_478 : G_464.2.1 (g.2.2 141) = (G.2.1 (g.2.2 141)) := by rw [eG_464]; exact w_450
    have w_479 : G_464.2.1 (g.2.2 111) = (G.2.1 (g.2.2 111)) := by rw [eG_464]; exact w_451
    have w_480 : G_464.2.1 (g.2.2 124) = (G.2.1 (g.2.2 124)) := by rw [eG_464]; exact w_452
    have w_481 : G_464.2.1 (g.2.2 125) = (G.2.1 (g.2.2 125)) := by rw [eG_464]; exact w_453
    have w_482 : G_464.2.1 (g.2.2 126) = (G.2.1 (g.2.2 126)) := by rw [eG_464]; exact w_454
    have u_483 : G_464.2.2 111 = some (g.2.2 111) := by rw [eG_464]; exact u_455
    have u_484 : G_464.2.2 112 = some (g.2.2 112) := by rw [eG_464]; exact u_456
    clear oq hz
    refine lv_aload_n hx hb dX12_years_22 rfl (lv_at hl 0 rfl) ?_
    obtain ⟨_, ⟨rfl, t_486, hk_487⟩, o_c_485⟩ := hH h0 _ k_h0
    refine hg_get hx hb hG igX12 hown hK o_c_485 rfl 0 (by decide) (hG _ mw_1284) rfl dX12_years_23 ?_
    refine lv_aload_n hx hb dX12_years_26 rfl (lv_at hl 0 rfl) ?_
    refine hg_get hx hb hG igX12 hown hK o_c_485 rfl 24 (by decide) (hG _ mw_1308) rfl dX12_years_27 ?_
    refine lv_iconst (v := 0) hx hb dX12_years_30 (by decide) ?_
    refine va_callv (va_runS (As := [.ref (g.2.2 100), .ref (g.2.2 124), .int 0]) (rest := []) ⟨hx, hb, hml, hown, hts⟩ (c_X12_lay_a l g Ty G_464 H.size (g.2.2 100) (g.2.2 124) 0 (hk_487.1) (hk_487.2.2.2.2.2.2.2.1) (rg_w rl_0 (by decide) (by decide)) (hLD 100 (by decide) 124 (by decide) (by decide))) (cwSx 3 hts hG (gwC mw_1583) mw_88 mw_1581 mw_1582 rfl rfl rfl hd_X12_lay ⟨Nat.le_of_ble_eq_true rfl, Nat.le_of_ble_eq_true rfl⟩) ⟨PcT_blind, PcT_pre hK hH⟩ rfl rfl hl.1 rfl (lv_room (Nat.le_of_ble_eq_true rfl)) dX12_years_31 ⟨Nat.zero_le _, Nat.zero_le _⟩) hS (fun q _ h => AF.mono hS.1 h) (fun q h => AF.mono hS.1 h) (fun ux_488 t H locs ht hvm hx_488 hB hz hk hS => ?_)
    obtain ⟨eTx_488, eGx_488⟩ := hx_488
    obtain ⟨G_489, eG_489⟩ : ∃ z, z = ux_488.2 := ⟨_, rfl⟩
    rw [← eG_489] at eGx_488
    obtain ⟨hfr_490, hex_491⟩ := eGx_488
    have fr_492 : FR [107, 108, 109, 110, 114, 127, 128, 104, 105, 139] [(g.2.2 124), (g.2.2 115), (g.2.2 125), (g.2.2 126)] [106] G G_489 := FR.tr fr_465 hfr_490 (by decide) (fun b h => ⟨h.1, trivial⟩) (by decide)
    have u_493 : G_489.1 102 = (G.1 102) := (hfr_490.1 102 (by decide)).trans u_466
    have u_494 : G_489.1 104 = (G.1 104) := (hfr_490.1 104 (by decide)).trans u_467
    have u_495 : G_489.1 113 = (G.1 113) := (hfr_490.1 113 (by decide)).trans u_468
    have u_496 : G_489.1 122 = (G.1 122) := (hfr_490.1 122 (by decide)).trans u_469
    have u_497 : G_489.1 133 = (G.1 133) := (hfr_490.1 133 (by decide)).trans u_470
    have u_498 : G_489.1 137 = (G.1 137) := (hfr_490.1 137 (by decide)).trans u_471
    have u_499 : G_489.1 127 = (G.1 127) := (hfr_490.1 127 (by decide)).trans u_472
    have u_500 : G_489.1 105 = 0 := (hfr_490.1 105 (by decide)).trans u_473
    have u_501 : G_489.1 139 = a0 := (hfr_490.1 139 (by decide)).trans u_474
    have w_502 : G_489.2.1 (g.2.2 100) = (G.2.1 (g.2.2 100)) := (hfr_490.2.1 (g.2.2 100) ⟨(hLD 100 (by decide) 124 (by decide) (by decide)), trivial⟩).trans w_475
    have w_503 : G_489.2.1 (g.2.2 121) = (G.2.1 (g.2.2 121)) := (hfr_490.2.1 (g.2.2 121) ⟨(ne_kd hmk.2.2.2.2.2.1 hmk.2.2.2.2.2.2.2.1 (by decide)), trivial⟩).trans w_476
    have w_504 : G_489.2.1 (g.2.2 140) = (G.2.1 (g.2.2 140)) := (hfr_490.2.1 (g.2.2 140) ⟨(ne_kd hmk.2.2.2.2.2.2.2.2.2.2.2.2.2.2.2.2.2.2.1 hmk.2.2.2.2.2.2.2.1 (by decide)), trivial⟩).trans w_477
    have w_505 : G_489.2.1 (g.2.2 141) = (G.2.1 (g.2.2 141)) := (hfr_490.2.1 (g.2.2 141) ⟨(ne_kd hmk.2.2.2.2.2.2.2.2.2.2.2.2.2.2.2.2.2.2.2.1 hmk.2.2.2.2.2.2.2.1 (by decide)), trivial⟩).trans w_478
    have w_506 : G_489.2.1 (g.2.2 111) = (G.2.1 (g.2.2 111)) := (hfr_490.2.1 (g.2.2 111) ⟨(ne_kd hmk.2.2.2.2.2.2.2.2.2.2.2.2.2.2.2.2.2.2.2.2.1 hmk.2.2.2.2.2.2.2.1 (by decide)), trivial⟩).trans w_479
    have w_507 : G_489.2.1 (g.2.2 125) = (G.2.1 (g.2.2 125)) := (hfr_490.2.1 (g.2.2 125) ⟨(ne_kd hmk.2.2.2.2.2.2.2.2.1 hmk.2.2.2.2.2.2.2.1 (by decide)), trivial⟩).trans w_481
    have w_508 : G_489.2.1 (g.2.2 126) = (G.2.1 (g.2.2 126)) := (hfr_490.2.1 (g.2.2 126) ⟨(ne_kd hmk.2.2.2.2.2.2.2.2.2.1 hmk.2.2.2.2.2.2.2.1 (by decide)), trivial⟩).trans w_482
    have u_509 : G_489.2.2 111 = some (g.2.2 111) := (hfr_490.2.2 111 (by decide)).trans u_483
    have u_510 : G_489.2.2 112 = some (g.2.2 112) := (hfr_490.2.2 112 (by decide)).trans u_484
    obtain ⟨f_511, ef_511⟩ : ∃ z : Nat → Int32, G_489.2.1 (g.2.2 124) = z := ⟨_, rfl⟩
    have ly_512 := hex_491
    rw [ef_511, w_475, w_480] at ly_512
    have lq_513 : LYF (G.2.1 (g.2.2 100)) (G.2.1 (g.2.2 124)) (Int32.toNatClampNeg 0) = f_511 := (LYF_eq ly_512).symm
    rw [lq_513] at hv
    have hH : HT g Ty G_489 H := by rw [← ht, ← eTx_488, eG_489]; exact hB
    have sr_514 : SR (G.2.1 (g.2.2 100)) f_511 := LY_sr ly_512
    refine lv_iconst (v := 0) hx hb dX12_years_34 (by decide) ?_
    refine lv_istore_n (lv' := [(3, .int 0), (0, .ref h0), (1, .int a0), (2, .int a1)]) hx hb dX12_years_35 rfl hl (by decide) rfl (fun ls hl => ?_)
    exact L_36 42 H locs G_489 f_511 (G.2.1 (g.2.2 125)) (G.2.1 (g.2.2 126)) (G.1 127) a0 0 ls (by rw [u_494]; exact rg_w hI.a104 (by decide) (by decide)) fr_492 ef_511 w_507 w_508 u_499 u_501 r_460 (rg_w rl_0 (by decide) (by decide)) (TI.hi (SR_ti sr_514 hI.ti) (by show _ ≤ _ + 25 * (0 : Int); omega)) (by decide) (lv_sub hl [1, 3, 0] rfl) hv hH hS
  · rw [if_pos c_458] at hv
    have r_515 : rgI (0) (0) x_457 := rg_w (rg_eq rl_0 c_458) (by decide) (by decide)
    refine lv_iconst (v := (-1)) hx hb dX12_years_15 (by decide) ?_
    exact W.iret hx hb hr (fun t ht hWm => ⟨⟨(-1), (Ty, G_436), rfl, ⟨rfl, ⟨fr_437, ⟨⟨(by rw [u_438]; exact (rg_w hI.a102 (by decide) (by decide))), (by rw [u_439]; exact (rg_w hI.a104 (by decide) (by decide))), (by rw [u_440]; exact (rg_w hI.a113 (by decide) (by decide))), (by rw [u_441]; exact (rg_w hI.a122 (by decide) (by decide))), (by rw [u_442]; exact (rg_w hI.a133 (by decide) (by decide))), (by rw [u_443]; exact (rg_w hI.a137 (by decide) (by decide))), u_455, u_456, (by rw [w_447]; exact (hI.ti.hi (show Bd ≤ Bd + 1000 by omega))), (hI.un2 (show Bd ≤ Bd + 1000 by omega) w_448 u_441), (hI.ke2 (show Bd ≤ Bd + 1000 by omega) w_449 w_450)⟩, hv.symm.trans (by rw [w_452, w_453, w_454, u_444, u_445])⟩⟩⟩, by show HT g Ty G_436 t.heap; rw [ht]; exact hH⟩, hS.F ht⟩) hS.2.2 dX12_years_16
