set_option maxHeartbeats 4000000 in
set_option maxRecDepth 100000 in
theorem c_X11_years (l : Launch) (g : Gx) (Ty : TyM) (G : Gh) (sz : Nat) (h0 : Nat) (a0 : Int32) (a1 : Int32) (k_h0 : Ty h0 = some (21, 0)) : Met l yX11_years (wsG yX11_years cX11_years 9 (some .int)) ({ frames := 7, cells := 160, slots := 3160, locals := 170 }) (PcT g Ty G sz [.ref h0, .int a0, .int a1]) (QwI g Ty sz (fun r u => Ext sz Ty u.1 ∧ u.2 = G)) 160 3160 (AF Ty sz) := by
  refine Met.ofW (cc := cX11_years) (maxL := 9) (ret := (some .int)) (by decide) rfl ?_
  intro p e s m args below meth c s₁ B hml hv
  obtain ⟨rfl, hsz, hK, hH⟩ := hv
  subst hsz
  have hx := B.exec
  have hb := B.bytes
  have hr := B.returns
  have hts := atoms_spec (ws := (wsG yX11_years cX11_years 9 (some .int))) B.pre
  have hG : ∀ w ∈ GW, w.before ([.ref h0, .int a0, .int a1] : List Value).toArray s = true := fun w h => hts w (List.mem_cons_of_mem _ h)
  have hown : s.vm.findClass RX11 = some m.cls := findClass_of_methodNamed B.named
  have hlocks := B.notSynchronized
  have hl := lv_entry [.ref h0, .int a0, .int a1] (n := 9) (Nat.le_of_ble_eq_true rfl)
  rw [lg_entry_eq]
  generalize (lg_sl [.ref h0, .int a0, .int a1] ++ List.replicate (9 - (lg_sl [.ref h0, .int a0, .int a1]).length) Slot.unset).toArray = ls at hl ⊢
  have hl : lv_has ls 9 [(0, .ref h0), (1, .int a0), (2, .int a1)] := hl
  have hS : va_S (AF Ty s.heap.size) s.heap s.heap [] := va_S.rf
  have L_23 : ∀ (n : Nat) (H : Heap) (locs : List Loc) (Ty_23 : TyM) (y3_23 : Int32) (y4_23 : Int32) (nc_23 : Nat) (ns_23 : Nat) (ls : Array Slot), Ext s.heap.size Ty Ty_23 → Ty_23 h0 = some (21, 0) → rgI (1) (40) a1 → rgI (0) (40) y4_23 → (nc_23 : Int) ≤ 4 * y4_23.toInt → (ns_23 : Int) ≤ 79 * y4_23.toInt → (40 - (y4_23).toInt).toNat < n → lv_has ls 9 [(0, .ref h0), (2, .int a1), (3, .int y3_23), (4, .int y4_23)] → HT g Ty_23 G H → va_S (AF Ty s.heap.size) s.heap H locs → Wm p l e (wsG yX11_years cX11_years 9 (some .int)) ({ frames := 7, cells := 160, slots := 3160, locals := 170 }) s m [.ref h0, .int a0, .int a1] below meth c H locs (nc_23) (ns_23) (QwI g Ty s.heap.size (fun r u => Ext s.heap.size Ty u.1 ∧ u.2 = G)) 160 3160 (AF Ty s.heap.size) (F0 m 23 ls []) := by
    intro n
    induction n with
    | zero => intro H locs Ty_23 y3_23 y4_23 nc_23 ns_23 ls hE_23 ky0_23 ry2_23 ry4_23 hnc_23 hns_23 hm; exact absurd hm (Nat.not_lt_zero _)
    | succ n ih_23 =>
      intro H locs Ty_23 y3_23 y4_23 nc_23 ns_23 ls hE_23 ky0_23 ry2_23 ry4_23 hnc_23 hns_23 hm_23 hl hH hS
      have L_135 : ∀ (H : Heap) (locs : List Loc) (Ty_135 : TyM) (z0_135 : Int32) (ls : Array Slot), Ext s.heap.size Ty Ty_135 → Ty_135 h0 = some (21, 0) → rgI (1) (40) a1 → rgI (0) (39) y4_23 → rgI (0) (1) z0_135 → lv_has ls 9 [(0, .ref h0), (2, .int a1), (4, .int y4_23)] → HT g Ty_135 G H → va_S (AF Ty s.heap.size) s.heap H locs → Wm p l e (wsG yX11_years cX11_years 9 (some .int)) ({ frames := 7, cells := 160, slots := 3160, locals := 170 }) s m [.ref h0, .int a0, .int a1] below meth c H locs (nc_23 + 4) (ns_23 + 79) (QwI g Ty s.heap.size (fun r u => Ext s.heap.size Ty u.1 ∧ u.2 = G)) 160 3160 (AF Ty s.heap.size) (F0 m 135 ls [.int z0_135, .int y3_23]) := by
        intro H locs Ty_135 z0_135 ls hE_135 ky0_135 ry2_135 ry4_135 rz0_135 hl hH hS
        refine lv_iadd hx hb dX11_years_135 ?_
        refine lv_topi (fun x_1 ex_1 => ?_)
        refine lv_istore_n (lv' := [(3, .int x_1), (0, .ref h0), (2, .int a1), (4, .int y4_23)]) hx hb dX11_years_136 rfl hl (by decide) rfl (fun ls hl => ?_)
        obtain ⟨x_2, ex_2⟩ : ∃ y : Int32, y = y4_23 + 1 := ⟨_, rfl⟩
        have rx_2 : rgI (1) (40) x_2 := by rw [ex_2]; exact rg_w (rg_add ry4_135 rl_1 (by decide) (by decide)) (by decide) (by decide)
        have qx_2 : x_2.toInt = (y4_23 : Int32).toInt + 1 := by rw [ex_2]; exact rg_addE ry4_135 rl_1 (by decide) (by decide)
        refine lv_iinc (v := x_2) (lv' := [(4, .int x_2), (3, .int x_1), (0, .ref h0), (2, .int a1)]) hx hb dX11_years_137 hl (k := 3) rfl (by rw [ex_2]; rfl) (by decide) rfl (fun ls hl => ?_)
        refine lv_goto (tgt := 23) hx hb dX11_years_140 (by decide) ?_
        exact ih_23 H locs Ty_135 x_1 x_2 (nc_23 + 4) (ns_23 + 79) ls hE_135 ky0_135 ry2_135 (rg_w rx_2 (by decide) (by decide)) (by have q1 := hnc_23; have q2 := qx_2; show ((nc_23 + 4 : Nat) : Int) ≤ 4 * (x_2 : Int32).toInt; omega) (by have q1 := hns_23; have q2 := qx_2; show ((ns_23 + 79 : Nat) : Int) ≤ 79 * (x_2 : Int32).toInt; omega) (by have h1 := qx_2; have h2 := ry4_135.1; have h3 := ry4_135.2; have h4 := hm_23; omega) (lv_sub hl [2, 3, 1, 0] rfl) hH hS
      have L_124 : ∀ (H : Heap) (locs : List Loc) (Ty_124 : TyM) (y8_124 : Int32) (ls : Array Slot), Ext s.heap.size Ty Ty_124 → Ty_124 h0 = some (21, 0) → rgI (1) (40) a1 → rgI (0) (39) y4_23 → lv_has ls 9 [(0, .ref h0), (2, .int a1), (3, .int y3_23), (4, .int y4_23), (8, .int y8_124)] → HT g Ty_124 G H → va_S (AF Ty s.heap.size) s.heap H locs → Wm p l e (wsG yX11_years cX11_years 9 (some .int)) ({ frames := 7, cells := 160, slots := 3160, locals := 170 }) s m [.ref h0, .int a0, .int a1] below meth c H locs (nc_23 + 4) (ns_23 + 79) (QwI g Ty s.heap.size (fun r u => Ext s.heap.size Ty u.1 ∧ u.2 = G)) 160 3160 (AF Ty s.heap.size) (F0 m 124 ls []) := by
        intro H locs Ty_124 y8_124 ls hE_124 ky0_124 ry2_124 ry4_124 hl hH hS
        refine lv_iload_n hx hb dX11_years_124 rfl (lv_at hl 2 rfl) ?_
        refine lv_iload hx hb dX11_years_125 (lv_at hl 4 rfl) ?_
        refine lv_if_lt (tgt := 134) hx hb dX11_years_127 (by decide) (fun c_3 => ?_) (fun c_3 => ?_)
        · have r_4 : rgI (-2147483648) (-1) y8_124 := rg_w (rg_ltL (rg_top y8_124) rl_0 c_3) (by decide) (by decide)
          refine lv_iconst (v := 0) hx hb dX11_years_134 (by decide) ?_
          exact L_135 H locs Ty_124 0 ls hE_124 ky0_124 ry2_124 ry4_124 (rg_w rl_0 (by decide) (by decide)) (lv_sub hl [0, 1, 3] rfl) hH hS
        · have r_5 : rgI (0) (2147483647) y8_124 := rg_w (rg_leR rl_0 (rg_top y8_124) (nlt_le c_3)) (by decide) (by decide)
          refine lv_iconst (v := 1) hx hb dX11_years_130 (by decide) ?_
          refine lv_goto (tgt := 135) hx hb dX11_years_131 (by decide) ?_
          exact L_135 H locs Ty_124 1 ls hE_124 ky0_124 ry2_124 ry4_124 (rg_w rl_1 (by decide) (by decide)) (lv_sub hl [0, 1, 3] rfl) hH hS
      refine lv_iload hx hb dX11_years_23 (lv_at hl 3 rfl) ?_
      refine lv_iload_n hx hb dX11_years_25 rfl (lv_at hl 1 rfl) ?_
      refine lv_icmp_ge (tgt := 143) hx hb dX11_years_26 (by decide) (fun c_6 => ?_) (fun c_6 => ?_)
      · have r_7 : rgI (1) (40) y4_23 := rg_w (rg_leR ry2_23 ry4_23 c_6) (by decide) (by decide)
        refine lv_aload_n hx hb dX11_years_143 rfl (lv_at hl 0 rfl) ?_
        obtain ⟨_, ⟨q_23, rfl, kq_9, kq_10, kq_11, kq_12, kq_13, kq_14, kq_15, kq_16, kq_17, kq_18, kq_19, kq_20, kq_21, kq_22⟩, o_c_8⟩ := hH h0 _ ky0_23
        refine hg_get hx hb hG igX11 hown hK o_c_8 rfl 5 (by decide) (hG _ mw_362) rfl dX11_years_144 ?_
        refine lv_aload_n hx hb dX11_years_147 rfl (lv_at hl 0 rfl) ?_
        refine hg_get hx hb hG igX11 hown hK o_c_8 rfl 0 (by decide) (hG _ mw_357) rfl dX11_years_148 ?_
        obtain ⟨_, ⟨q_25, q_26, q_27, q_28, q_29, q_30, q_31, rfl, kq_25, kq_26, kq_27⟩, o_c_24⟩ := hH (g.2.2 0) _ kq_9
        refine vp_callSi (W.runV (As := []) (rest := [.ref (g.2.2 5)]) ⟨hx, hb, hml, hown, hts⟩ (c_X10_groupCount l g Ty_23 G (g.2.2 0) kq_9) (cwV 0 hts (gwV mw_944 mw_945 mw_946 mw_77 mw_947) rfl rfl rfl hv_X10_groupCount ⟨Nat.le_of_ble_eq_true rfl, Nat.le_of_ble_eq_true rfl⟩) ⟨PcH_blind, hg_recv hK o_c_24 rfl, PcH_pre hK hH⟩ rfl rfl hl.1 rfl (lv_room (Nat.le_of_ble_eq_true rfl)) dX11_years_151 ⟨by have q1 := hnc_23; have q2 := (r_7).2; show nc_23 + 0 ≤ 160; omega, by have q1 := hns_23; have q2 := (r_7).2; show ns_23 + 0 ≤ 3160; omega⟩) (fun x_32 hx_32 => ?_)
        refine lv_i2l hx hb dX11_years_154 rfl ?_
        refine lv_topl (fun u_33 eu_33 => ?_)
        refine lv_iload_n hx hb dX11_years_155 rfl (lv_at hl 2 rfl) ?_
        refine lv_i2l hx hb dX11_years_156 rfl ?_
        refine lv_topl (fun u_34 eu_34 => ?_)
        obtain ⟨_, ⟨q_36, q_37, rfl, kq_36, rq_37⟩, o_c_35⟩ := hH (g.2.2 5) _ kq_14
        refine va_callv (va_runV (As := [.long u_33, .long u_34]) (rest := []) ⟨hx, hb, hml, hown, hts⟩ (c_X7_tellTwo l g Ty_23 G H.size (g.2.2 5) u_33 u_34 kq_14) (cwV 2 hts (gwV mw_753 mw_754 mw_755 mw_80 mw_756) rfl rfl rfl hv_X7_tellTwo ⟨Nat.le_of_ble_eq_true rfl, Nat.le_of_ble_eq_true rfl⟩) ⟨PcT_blind, hg_recv hK o_c_35 rfl, PcT_pre hK hH⟩ rfl rfl hl.1 rfl (lv_room (Nat.le_of_ble_eq_true rfl)) dX11_years_157 ⟨by have q1 := hnc_23; have q2 := (r_7).2; show nc_23 + 0 ≤ 160; omega, by have q1 := hns_23; have q2 := (r_7).2; show ns_23 + 0 ≤ 3160; omega⟩) hS (fun q _ h => AF.back hE_23 hS.1 h) (fun q h => AF.back hE_23 hS.1 h) (fun ux_38 t H locs ht hvm hx_38 hB hz hk hS => ?_)
        have hH : HT g Ty_23 G H := by rw [← ht]; rw [hx_38] at hB; exact hB
        refine lv_aload_n hx hb dX11_years_160 rfl (lv_at hl 0 rfl) ?_
        obtain ⟨_, ⟨q_54, rfl, kq_40, kq_41, kq_42, kq_43, kq_44, kq_45, kq_46, kq_47, kq_48, kq_49, kq_50, kq_51, kq_52, kq_53⟩, o_c_39⟩ := hH h0 _ ky0_23
        refine hg_get hx hb hG igX11 hown hK o_c_39 rfl 0 (by decide) (hG _ mw_357) rfl dX11_years_161 ?_
        obtain ⟨_, ⟨q_56, q_57, q_58, q_59, q_60, q_61, q_62, rfl, kq_56, kq_57, kq_58⟩, o_c_55⟩ := hH (g.2.2 0) _ kq_40
        refine vp_callSi (W.runV (As := []) (rest := []) ⟨hx, hb, hml, hown, hts⟩ (c_X10_size l g Ty_23 G (g.2.2 0) kq_40) (cwV 0 hts (gwV mw_901 mw_709 mw_710 mw_77 mw_711) rfl rfl rfl hv_X10_size ⟨Nat.le_of_ble_eq_true rfl, Nat.le_of_ble_eq_true rfl⟩) ⟨PcH_blind, hg_recv hK o_c_55 rfl, PcH_pre hK hH⟩ rfl rfl hl.1 rfl (lv_room (Nat.le_of_ble_eq_true rfl)) dX11_years_164 ⟨by have q1 := hnc_23; have q2 := (r_7).2; show nc_23 + 0 ≤ 160; omega, by have q1 := hns_23; have q2 := (r_7).2; show ns_23 + 0 ≤ 3160; omega⟩) (fun x_63 hx_63 => ?_)
        refine W.widen (k := 160) (n := 3160) (by have q1 := hnc_23; have q2 := (r_7).2; omega) (by have q1 := hns_23; have q2 := (r_7).2; omega) ?_
        exact W.iret hx hb hr (fun t ht hWm => ⟨⟨x_63, (Ty_23, G), rfl, ⟨hE_23, rfl⟩, by show HT g Ty_23 G t.heap; rw [ht]; exact hH⟩, hS.F ht⟩) hS.2.2 dX11_years_167
      · have r_64 : rgI (0) (39) y4_23 := rg_w (rg_ltL ry4_23 ry2_23 (nle_lt c_6)) (by decide) (by decide)
        refine lv_aload_n hx hb dX11_years_29 rfl (lv_at hl 0 rfl) ?_
        refine lv_bipush (v := 6) hx hb dX11_years_30 (by decide) ?_
        obtain ⟨_, ⟨q_80, rfl, kq_66, kq_67, kq_68, kq_69, kq_70, kq_71, kq_72, kq_73, kq_74, kq_75, kq_76, kq_77, kq_78, kq_79⟩, o_c_65⟩ := hH h0 _ ky0_23
        refine va_calli (va_runV (As := [.int 6]) (rest := []) ⟨hx, hb, hml, hown, hts⟩ (c_X11_draw l g Ty_23 G H.size h0 6 ky0_23) (cwV 1 hts (gwV mw_1154 mw_1156 mw_29 mw_76 mw_1157) rfl rfl rfl hv_X11_draw ⟨Nat.le_of_ble_eq_true rfl, Nat.le_of_ble_eq_true rfl⟩) ⟨PcT_blind, hg_recv hK o_c_65 rfl, PcT_pre hK hH⟩ rfl rfl hl.1 rfl (lv_room (Nat.le_of_ble_eq_true rfl)) dX11_years_32 ⟨by have q1 := hnc_23; have q2 := (r_64).2; show nc_23 + 0 ≤ 160; omega, by have q1 := hns_23; have q2 := (r_64).2; show ns_23 + 0 ≤ 3160; omega⟩) hS (fun q _ h => AF.back hE_23 hS.1 h) (fun q h => AF.back hE_23 hS.1 h) (fun x_81 ux_81 t H locs ht hvm hx_81 hB hz hk hS => ?_)
        have hH : HT g Ty_23 G H := by rw [← ht]; rw [hx_81] at hB; exact hB
        refine lv_istore (lv' := [(5, .int x_81), (0, .ref h0), (2, .int a1), (3, .int y3_23), (4, .int y4_23)]) hx hb dX11_years_35 hl (by decide) rfl (fun ls hl => ?_)
        refine lv_aload_n hx hb dX11_years_37 rfl (lv_at hl 1 rfl) ?_
        refine lv_bipush (v := 24) hx hb dX11_years_38 (by decide) ?_
        obtain ⟨_, ⟨q_97, rfl, kq_83, kq_84, kq_85, kq_86, kq_87, kq_88, kq_89, kq_90, kq_91, kq_92, kq_93, kq_94, kq_95, kq_96⟩, o_c_82⟩ := hH h0 _ ky0_23
        refine va_calli (va_runV (As := [.int 24]) (rest := []) ⟨hx, hb, hml, hown, hts⟩ (c_X11_draw l g Ty_23 G H.size h0 24 ky0_23) (cwV 1 hts (gwV mw_1154 mw_1156 mw_29 mw_76 mw_1157) rfl rfl rfl hv_X11_draw ⟨Nat.le_of_ble_eq_true rfl, Nat.le_of_ble_eq_true rfl⟩) ⟨PcT_blind, hg_recv hK o_c_82 rfl, PcT_pre hK hH⟩ rfl rfl hl.1 rfl (lv_room (Nat.le_of_ble_eq_true rfl)) dX11_years_40 ⟨by have q1 := hnc_23; have q2 := (r_64).2; show nc_23 + 0 ≤ 160; omega, by have q1 := hns_23; have q2 := (r_64).2; show ns_23 + 0 ≤ 3160; omega⟩) hS (fun q _ h => AF.back hE_23 hS.1 h) (fun q h => AF.back hE_23 hS.1 h) (fun x_98 ux_98 t H locs ht hvm hx_98 hB hz hk hS => ?_)
        have hH : HT g Ty_23 G H := by rw [← ht]; rw [hx_98] at hB; exact hB
        refine lv_istore (lv' := [(6, .int x_98), (5, .int x_81), (0, .ref h0), (2, .int a1), (3, .int y3_23), (4, .int y4_23)]) hx hb dX11_years_43 hl (by decide) rfl (fun ls hl => ?_)
        refine lv_aload_n hx hb dX11_years_45 rfl (lv_at hl 2 rfl) ?_
        refine lv_iconst (v := 4) hx hb dX11_years_46 (by decide) ?_
        obtain ⟨_, ⟨q_114, rfl, kq_100, kq_101, kq_102, kq_103, kq_104, kq_105, kq_106, kq_107, kq_108, kq_109, kq_110, kq_111, kq_112, kq_113⟩, o_c_99⟩ := hH h0 _ ky0_23
        refine va_calli (va_runV (As := [.int 4]) (rest := []) ⟨hx, hb, hml, hown, hts⟩ (c_X11_draw l g Ty_23 G H.size h0 4 ky0_23) (cwV 1 hts (gwV mw_1154 mw_1156 mw_29 mw_76 mw_1157) rfl rfl rfl hv_X11_draw ⟨Nat.le_of_ble_eq_true rfl, Nat.le_of_ble_eq_true rfl⟩) ⟨PcT_blind, hg_recv hK o_c_99 rfl, PcT_pre hK hH⟩ rfl rfl hl.1 rfl (lv_room (Nat.le_of_ble_eq_true rfl)) dX11_years_47 ⟨by have q1 := hnc_23; have q2 := (r_64).2; show nc_23 + 0 ≤ 160; omega, by have q1 := hns_23; have q2 := (r_64).2; show ns_23 + 0 ≤ 3160; omega⟩) hS (fun q _ h => AF.back hE_23 hS.1 h) (fun q h => AF.back hE_23 hS.1 h) (fun x_115 ux_115 t H locs ht hvm hx_115 hB hz hk hS => ?_)
        have hH : HT g Ty_23 G H := by rw [← ht]; rw [hx_115] at hB; exact hB
        refine lv_istore (lv' := [(7, .int x_115), (6, .int x_98), (5, .int x_81), (0, .ref h0), (2, .int a1), (3, .int y3_23), (4, .int y4_23)]) hx hb dX11_years_50 hl (by decide) rfl (fun ls hl => ?_)
        refine lv_iload hx hb dX11_years_52 (lv_at hl 2 rfl) ?_
        refine lv_iconst (v := 3) hx hb dX11_years_54 (by decide) ?_
        refine lv_icmp_ge (tgt := 71) hx hb dX11_years_55 (by decide) (fun c_116 => ?_) (fun c_116 => ?_)
        · have r_117 : rgI (3) (2147483647) x_81 := rg_w (rg_leR rl_3 (rg_top x_81) c_116) (by decide) (by decide)
          refine lv_iload hx hb dX11_years_71 (lv_at hl 2 rfl) ?_
          refine lv_iconst (v := 3) hx hb dX11_years_73 (by decide) ?_
          refine lv_icmp_ne (tgt := 89) hx hb dX11_years_74 (by decide) (fun c_118 => ?_) (fun c_118 => ?_)
          · have r_119 : rgI (4) (2147483647) x_81 := rg_w (rg_neL r_117 rl_3 c_118) (by decide) (by decide)
            refine lv_iload hx hb dX11_years_89 (lv_at hl 2 rfl) ?_
            refine lv_iconst (v := 4) hx hb dX11_years_91 (by decide) ?_
            refine lv_icmp_ne (tgt := 114) hx hb dX11_years_92 (by decide) (fun c_120 => ?_) (fun c_120 => ?_)
            · have r_121 : rgI (5) (2147483647) x_81 := rg_w (rg_neL r_119 rl_4 c_120) (by decide) (by decide)
              refine lv_aload_n hx hb dX11_years_114 rfl (lv_at hl 3 rfl) ?_
              refine lv_iload hx hb dX11_years_115 (lv_at hl 1 rfl) ?_
              refine lv_iload hx hb dX11_years_117 (lv_at hl 0 rfl) ?_
              obtain ⟨_, ⟨q_137, rfl, kq_123, kq_124, kq_125, kq_126, kq_127, kq_128, kq_129, kq_130, kq_131, kq_132, kq_133, kq_134, kq_135, kq_136⟩, o_c_122⟩ := hH h0 _ ky0_23
              have hLx_138 := hS.1
              refine va_calli (va_runV (As := [.int x_98, .int x_115]) (rest := []) ⟨hx, hb, hml, hown, hts⟩ (c_X11_unmounts l g Ty_23 G H.size h0 x_98 x_115 ky0_23) (cwV 2 hts (gwV mw_1162 mw_820 mw_821 mw_76 mw_822) rfl rfl rfl hv_X11_unmounts ⟨Nat.le_of_ble_eq_true rfl, Nat.le_of_ble_eq_true rfl⟩) ⟨PcT_blind, hg_recv hK o_c_122 rfl, PcT_pre hK hH⟩ rfl rfl hl.1 rfl (lv_room (Nat.le_of_ble_eq_true rfl)) dX11_years_119 ⟨by have q1 := hnc_23; have q2 := (r_64).2; show nc_23 + 4 ≤ 160; omega, by have q1 := hns_23; have q2 := (r_64).2; show ns_23 + 79 ≤ 3160; omega⟩) hS (fun q _ h => AF.back hE_23 hS.1 h) (fun q h => AF.back hE_23 hS.1 h) (fun x_138 ux_138 t H locs ht hvm hx_138 hB hz hk hS => ?_)
              obtain ⟨eTx_138, eGx_138⟩ := hx_138
              obtain ⟨T_139, eT_139⟩ : ∃ z, z = ux_138.1 := ⟨_, rfl⟩
              rw [← eT_139] at eTx_138
              have k_140 := eTx_138.1 _ _ ky0_23
              have hE_141 : Ext s.heap.size Ty T_139 := Ext.tr hE_23 hLx_138 eTx_138
              have hH : HT g T_139 G H := by rw [← ht, eT_139, ← eGx_138]; exact hB
              refine lv_istore (lv' := [(8, .int x_138), (7, .int x_115), (6, .int x_98), (5, .int x_81), (0, .ref h0), (2, .int a1), (3, .int y3_23), (4, .int y4_23)]) hx hb dX11_years_122 hl (by decide) rfl (fun ls hl => ?_)
              exact L_124 H locs T_139 x_138 ls hE_141 k_140 ry2_23 r_64 (lv_sub hl [4, 5, 6, 7, 0] rfl) hH hS
            · have r_142 : rgI (4) (4) x_81 := rg_w (rg_eq rl_4 c_120) (by decide) (by decide)
              refine lv_aload_n hx hb dX11_years_95 rfl (lv_at hl 3 rfl) ?_
              refine lv_aload_n hx hb dX11_years_96 rfl (lv_at hl 3 rfl) ?_
              refine lv_bipush (v := 24) hx hb dX11_years_97 (by decide) ?_
              obtain ⟨_, ⟨q_158, rfl, kq_144, kq_145, kq_146, kq_147, kq_148, kq_149, kq_150, kq_151, kq_152, kq_153, kq_154, kq_155, kq_156, kq_157⟩, o_c_143⟩ := hH h0 _ ky0_23
              refine va_calli (va_runV (As := [.int 24]) (rest := [.ref h0]) ⟨hx, hb, hml, hown, hts⟩ (c_X11_draw l g Ty_23 G H.size h0 24 ky0_23) (cwV 1 hts (gwV mw_1154 mw_1156 mw_29 mw_76 mw_1157) rfl rfl rfl hv_X11_draw ⟨Nat.le_of_ble_eq_true rfl, Nat.le_of_ble_eq_true rfl⟩) ⟨PcT_blind, hg_recv hK o_c_143 rfl, PcT_pre hK hH⟩ rfl rfl hl.1 rfl (lv_room (Nat.le_of_ble_eq_true rfl)) dX11_years_99 ⟨by have q1 := hnc_23; have q2 := (r_64).2; show nc_23 + 0 ≤ 160; omega, by have q1 := hns_23; have q2 := (r_64).2; show ns_23 + 0 ≤ 3160; omega⟩) hS (fun q _ h => AF.back hE_23 hS.1 h) (fun q h => AF.back hE_23 hS.1 h) (fun x_159 ux_159 t H locs ht hvm hx_159 hB hz hk hS => ?_)
              have hH : HT g Ty_23 G H := by rw [← ht]; rw [hx_159] at hB; exact hB
              refine lv_iload hx hb dX11_years_102 (lv_at hl 1 rfl) ?_
              refine lv_iload hx hb dX11_years_104 (lv_at hl 0 rfl) ?_
              obtain ⟨_, ⟨q_175, rfl, kq_161, kq_162, kq_163, kq_164, kq_165, kq_166, kq_167, kq_168, kq_169, kq_170, kq_171, kq_172, kq_173, kq_174⟩, o_c_160⟩ := hH h0 _ ky0_23
              have hLx_176 := hS.1
              refine va_calli (va_runV (As := [.int x_159, .int x_98, .int x_115]) (rest := []) ⟨hx, hb, hml, hown, hts⟩ (c_X11_binds l g Ty_23 G H.size h0 x_159 x_98 x_115 ky0_23) (cwV 3 hts (gwV mw_1161 mw_758 mw_759 mw_76 mw_760) rfl rfl rfl hv_X11_binds ⟨Nat.le_of_ble_eq_true rfl, Nat.le_of_ble_eq_true rfl⟩) ⟨PcT_blind, hg_recv hK o_c_160 rfl, PcT_pre hK hH⟩ rfl rfl hl.1 rfl (lv_room (Nat.le_of_ble_eq_true rfl)) dX11_years_106 ⟨by have q1 := hnc_23; have q2 := (r_64).2; show nc_23 + 4 ≤ 160; omega, by have q1 := hns_23; have q2 := (r_64).2; show ns_23 + 79 ≤ 3160; omega⟩) hS (fun q _ h => AF.back hE_23 hS.1 h) (fun q h => AF.back hE_23 hS.1 h) (fun x_176 ux_176 t H locs ht hvm hx_176 hB hz hk hS => ?_)
              obtain ⟨eTx_176, eGx_176⟩ := hx_176
              obtain ⟨T_177, eT_177⟩ : ∃ z, z = ux_176.1 := ⟨_, rfl⟩
              rw [← eT_177] at eTx_176
              have k_178 := eTx_176.1 _ _ ky0_23
              have hE_179 : Ext s.heap.size Ty T_177 := Ext.tr hE_23 hLx_176 eTx_176
              have hH : HT g T_177 G H := by rw [← ht, eT_177, ← eGx_176]; exact hB
              refine lv_istore (lv' := [(8, .int x_176), (7, .int x_115), (6, .int x_98), (5, .int x_81), (0, .ref h0), (2, .int a1), (3, .int y3_23), (4, .int y4_23)]) hx hb dX11_years_109 hl (by decide) rfl (fun ls hl => ?_)
              refine lv_goto (tgt := 124) hx hb dX11_years_111 (by decide) ?_
              exact L_124 H locs T_177 x_176 ls hE_179 k_178 ry2_23 r_64 (lv_sub hl [4, 5, 6, 7, 0] rfl) hH hS
          · have r_180 : rgI (3) (3) x_81 := rg_w (rg_eq rl_3 c_118) (by decide) (by decide)
            refine lv_aload_n hx hb dX11_years_77 rfl (lv_at hl 3 rfl) ?_
            refine lv_iload hx hb dX11_years_78 (lv_at hl 1 rfl) ?_
            refine lv_iconst (v := 1) hx hb dX11_years_80 (by decide) ?_
            obtain ⟨_, ⟨q_196, rfl, kq_182, kq_183, kq_184, kq_185, kq_186, kq_187, kq_188, kq_189, kq_190, kq_191, kq_192, kq_193, kq_194, kq_195⟩, o_c_181⟩ := hH h0 _ ky0_23
            have hLx_197 := hS.1
            refine va_calli (va_runV (As := [.int x_98, .int 1]) (rest := []) ⟨hx, hb, hml, hown, hts⟩ (c_X11_makes l g Ty_23 G H.size h0 x_98 1 ky0_23) (cwV 2 hts (gwV mw_1160 mw_789 mw_790 mw_76 mw_791) rfl rfl rfl hv_X11_makes ⟨Nat.le_of_ble_eq_true rfl, Nat.le_of_ble_eq_true rfl⟩) ⟨PcT_blind, hg_recv hK o_c_181 rfl, PcT_pre hK hH⟩ rfl rfl hl.1 rfl (lv_room (Nat.le_of_ble_eq_true rfl)) dX11_years_81 ⟨by have q1 := hnc_23; have q2 := (r_64).2; show nc_23 + 4 ≤ 160; omega, by have q1 := hns_23; have q2 := (r_64).2; show ns_23 + 79 ≤ 3160; omega⟩) hS (fun q _ h => AF.back hE_23 hS.1 h) (fun q h => AF.back hE_23 hS.1 h) (fun x_197 ux_197 t H locs ht hvm hx_197 hB hz hk hS => ?_)
            obtain ⟨eTx_197, eGx_197⟩ := hx_197
            obtain ⟨T_198, eT_198⟩ : ∃ z, z = ux_197.1 := ⟨_, rfl⟩
            rw [← eT_198] at eTx_197
            have k_199 := eTx_197.1 _ _ ky0_23
            have hE_200 : Ext s.heap.size Ty T_198 := Ext.tr hE_23 hLx_197 eTx_197
            have hH : HT g T_198 G H := by rw [← ht, eT_198, ← eGx_197]; exact hB
            refine lv_istore (lv' := [(8, .int x_197), (7, .int x_115), (6, .int x_98), (5, .int x_81), (0, .ref h0), (2, .int a1), (3, .int y3_23), (4, .int y4_23)]) hx hb dX11_years_84 hl (by decide) rfl (fun ls hl => ?_)
            refine lv_goto (tgt := 124) hx hb dX11_years_86 (by decide) ?_
            exact L_124 H locs T_198 x_197 ls hE_200 k_199 ry2_23 r_64 (lv_sub hl [4, 5, 6, 7, 0] rfl) hH hS
        · have r_201 : rgI (-2147483648) (2) x_81 := rg_w (rg_ltL (rg_top x_81) rl_3 (nle_lt c_116)) (by decide) (by decide)
          refine lv_aload_n hx hb dX11_years_58 rfl (lv_at hl 3 rfl) ?_
          refine lv_iload hx hb dX11_years_59 (lv_at hl 1 rfl) ?_
          refine lv_iload hx hb dX11_years_61 (lv_at hl 0 rfl) ?_
          obtain ⟨_, ⟨q_217, rfl, kq_203, kq_204, kq_205, kq_206, kq_207, kq_208, kq_209, kq_210, kq_211, kq_212, kq_213, kq_214, kq_215, kq_216⟩, o_c_202⟩ := hH h0 _ ky0_23
          have hLx_218 := hS.1
          refine va_calli (va_runV (As := [.int x_98, .int x_115]) (rest := []) ⟨hx, hb, hml, hown, hts⟩ (c_X11_mounts l g Ty_23 G H.size h0 x_98 x_115 ky0_23) (cwV 2 hts (gwV mw_1159 mw_625 mw_626 mw_76 mw_627) rfl rfl rfl hv_X11_mounts ⟨Nat.le_of_ble_eq_true rfl, Nat.le_of_ble_eq_true rfl⟩) ⟨PcT_blind, hg_recv hK o_c_202 rfl, PcT_pre hK hH⟩ rfl rfl hl.1 rfl (lv_room (Nat.le_of_ble_eq_true rfl)) dX11_years_63 ⟨by have q1 := hnc_23; have q2 := (r_64).2; show nc_23 + 4 ≤ 160; omega, by have q1 := hns_23; have q2 := (r_64).2; show ns_23 + 79 ≤ 3160; omega⟩) hS (fun q _ h => AF.back hE_23 hS.1 h) (fun q h => AF.back hE_23 hS.1 h) (fun x_218 ux_218 t H locs ht hvm hx_218 hB hz hk hS => ?_)
          obtain ⟨eTx_218, eGx_218⟩ := hx_218
          obtain ⟨T_219, eT_219⟩ : ∃ z, z = ux_218.1 := ⟨_, rfl⟩
          rw [← eT_219] at eTx_218
          have k_220 := eTx_218.1 _ _ ky0_23
          have hE_221 : Ext s.heap.size Ty T_219 := Ext.tr hE_23 hLx_218 eTx_218
          have hH : HT g T_219 G H := by rw [← ht, eT_219, ← eGx_218]; exact hB
          refine lv_istore (lv' := [(8, .int x_218), (7, .int x_115), (6, .int x_98), (5, .int x_81), (0, .ref h0), (2, .int a1), (3, .int y3_23), (4, .int y4_23)]) hx hb dX11_years_66 hl (by decide) rfl (fun ls hl => ?_)
          refine lv_goto (tgt := 124) hx hb dX11_years_68 (by decide) ?_
          exact L_124 H locs T_219 x_218 ls hE_221 k_220 ry2_23 r_64 (lv_sub hl [4, 5, 6, 7, 0] rfl) hH hS
  refine lv_iload_n hx hb dX11_years_0 rfl (lv_at hl 2 rfl) ?_
  refine lv_iconst (v := 1) hx hb dX11_years_1 (by decide) ?_
  refine lv_icmp_lt (tgt := 11) hx hb dX11_years_2 (by decide) (fun c_222 => ?_) (fun c_222 => ?_)
  · have r_223 : rgI (-2147483648) (0) a1 := rg_w (rg_ltL (rg_top a1) rl_1 c_222) (by decide) (by decide)
    refine lv_iconst (v := (-1)) hx hb dX11_years_11 (by decide) ?_
    refine W.widen (k := 160) (n := 3160) (by decide) (by decide) ?_
    exact W.iret hx hb hr (fun t ht hWm => ⟨⟨(-1), (Ty, G), rfl, ⟨Ext.rf, rfl⟩, by show HT g Ty G t.heap; rw [ht]; exact hH⟩, hS.F ht⟩) hS.2.2 dX11_years_12
  · have r_224 : rgI (1) (2147483647) a1 := rg_w (rg_leR rl_1 (rg_top a1) (nlt_le c_222)) (by decide) (by decide)
    refine lv_iload_n hx hb dX11_years_5 rfl (lv_at hl 2 rfl) ?_
    refine lv_bipush (v := 40) hx hb dX11_years_6 (by decide) ?_
    refine lv_icmp_le (tgt := 13) hx hb dX11_years_8 (by decide) (fun c_225 => ?_) (fun c_225 => ?_)
    · have r_226 : rgI (1) (40) a1 := rg_w (rg_leL r_224 rl_40 c_225) (by decide) (by decide)
      refine lv_aload_n hx hb dX11_years_13 rfl (lv_at hl 0 rfl) ?_
      refine lv_iload_n hx hb dX11_years_14 rfl (lv_at hl 1 rfl) ?_
      obtain ⟨_, ⟨q_242, rfl, kq_228, kq_229, kq_230, kq_231, kq_232, kq_233, kq_234, kq_235, kq_236, kq_237, kq_238, kq_239, kq_240, kq_241⟩, o_c_227⟩ := hH h0 _ k_h0
      refine hg_put (ty := .int) hx hb hG igX11 tyX11 tyX11_ok nmX11 hown hK hS o_c_227 (AF.of k_h0) rfl 14 (by decide) (hG _ mw_371) rfl (by decide +kernel) rfl rfl (Nat.le_of_ble_eq_true rfl) dX11_years_15 (fun H locs o_c_227 hz oq hS => ?_)
      have o_c_227 : va_at g.1 vwCl (h0, .inr (11, [.ref (g.2.2 0), .ref (g.2.2 1), .ref (g.2.2 2), .ref (g.2.2 3), .ref (g.2.2 4), .ref (g.2.2 5), .ref (g.2.2 6), .ref (g.2.2 7), .ref (g.2.2 8), .ref (g.2.2 9), .ref (g.2.2 10), .ref (g.2.2 11), .ref (g.2.2 12), .ref (g.2.2 13), .int a0])) H := o_c_227
      have hH : HT g Ty G H := hH.put k_h0 ⟨a0, rfl, kq_228, kq_229, kq_230, kq_231, kq_232, kq_233, kq_234, kq_235, kq_236, kq_237, kq_238, kq_239, kq_240, kq_241⟩ o_c_227 oq
      clear oq hz
      refine lv_iconst (v := 0) hx hb dX11_years_18 (by decide) ?_
      refine lv_istore_n (lv' := [(3, .int 0), (0, .ref h0), (1, .int a0), (2, .int a1)]) hx hb dX11_years_19 rfl hl (by decide) rfl (fun ls hl => ?_)
      refine lv_iconst (v := 0) hx hb dX11_years_20 (by decide) ?_
      refine lv_istore (lv' := [(4, .int 0), (3, .int 0), (0, .ref h0), (1, .int a0), (2, .int a1)]) hx hb dX11_years_21 hl (by decide) rfl (fun ls hl => ?_)
      exact L_23 _ H locs Ty 0 0 (0) (0) ls Ext.rf k_h0 r_226 (rg_w rl_0 (by decide) (by decide)) (by show ((0 : Nat) : Int) ≤ 4 * (0 : Int32).toInt; decide) (by show ((0 : Nat) : Int) ≤ 79 * (0 : Int32).toInt; decide) (Nat.lt_succ_self _) (lv_sub hl [2, 4, 1, 0] rfl) hH hS
    · have r_243 : rgI (41) (2147483647) a1 := rg_w (rg_ltR rl_40 r_224 (nle_lt c_225)) (by decide) (by decide)
      refine lv_iconst (v := (-1)) hx hb dX11_years_11 (by decide) ?_
      refine W.widen (k := 160) (n := 3160) (by decide) (by decide) ?_
      exact W.iret hx hb hr (fun t ht hWm => ⟨⟨(-1), (Ty, G), rfl, ⟨Ext.rf, rfl⟩, by show HT g Ty G t.heap; rw [ht]; exact hH⟩, hS.F ht⟩) hS.2.2 dX11_years_12
