set_option maxHeartbeats 4000000 in
set_option maxRecDepth 100000 in
theorem c_X0_copyTree (l : Launch) (g : Gx) : ∀ (nr : Nat) (Ty : TyM) (G : Gh) (sz : Nat) (h0 : Nat) (a0 : Int32) (a1 : Int32) (a2 : Int32) (a3 : Int32) (a4 : Int32) (k_h0 : Ty h0 = some (10, 0)) (hm : (24 - a4.toInt).toNat < nr), Met l yX0_copyTree (wsG yX0_copyTree cX0_copyTree 9 (some .int)) ({ frames := 2 + nr, cells := 0, slots := 0, locals := 47 + 28 * nr }) (PcT g Ty G sz [.ref h0, .int a0, .int a1, .int a2, .int a3, .int a4]) (QwI g Ty sz (fun r u => (rgI (0) (24) r) ∧ u = (Ty, G))) 0 0 (AF Ty sz) := by
  intro nr
  induction nr with
  | zero => intro Ty G sz h0 a0 a1 a2 a3 a4 k_h0 hm; exact absurd hm (Nat.not_lt_zero _)
  | succ nr ihr =>
  intro Ty G sz h0 a0 a1 a2 a3 a4 k_h0 hm
  refine Met.ofW (cc := cX0_copyTree) (maxL := 9) (ret := (some .int)) (by decide) rfl ?_
  intro p e s m args below meth c s₁ B hml hv
  obtain ⟨rfl, hsz, hK, hH⟩ := hv
  subst hsz
  have hx := B.exec
  have hb := B.bytes
  have hr := B.returns
  have hts := atoms_spec (ws := (wsG yX0_copyTree cX0_copyTree 9 (some .int))) B.pre
  have hG : ∀ w ∈ GW, w.before ([.ref h0, .int a0, .int a1, .int a2, .int a3, .int a4] : List Value).toArray s = true := fun w h => hts w (List.mem_cons_of_mem _ h)
  have hown : s.vm.findClass RX0 = some m.cls := findClass_of_methodNamed B.named
  have hlocks := B.notSynchronized
  have hl := lv_entry [.ref h0, .int a0, .int a1, .int a2, .int a3, .int a4] (n := 9) (Nat.le_of_ble_eq_true rfl)
  rw [lg_entry_eq]
  generalize (lg_sl [.ref h0, .int a0, .int a1, .int a2, .int a3, .int a4] ++ List.replicate (9 - (lg_sl [.ref h0, .int a0, .int a1, .int a2, .int a3, .int a4]).length) Slot.unset).toArray = ls at hl ⊢
  have hl : lv_has ls 9 [(0, .ref h0), (1, .int a0), (2, .int a1), (3, .int a2), (4, .int a3), (5, .int a4)] := hl
  have hS : va_S (AF Ty s.heap.size) s.heap s.heap [] := va_S.rf
  have L_95 : ∀ (H : Heap) (locs : List Loc) (y6_95 : Int32) (ls : Array Slot), rgI (0) (24) y6_95 → lv_has ls 9 [(6, .int y6_95)] → HT g Ty G H → va_S (AF Ty s.heap.size) s.heap H locs → Wm p l e (wsG yX0_copyTree cX0_copyTree 9 (some .int)) ({ frames := 2 + (nr + 1), cells := 0, slots := 0, locals := 47 + 28 * (nr + 1) }) s m [.ref h0, .int a0, .int a1, .int a2, .int a3, .int a4] below meth c H locs (0) (0) (QwI g Ty s.heap.size (fun r u => (rgI (0) (24) r) ∧ u = (Ty, G))) 0 0 (AF Ty s.heap.size) (F0 m 95 ls []) := by
    intro H locs y6_95 ls ry6_95 hl hH hS
    refine lv_iload hx hb dX0_copyTree_95 (lv_at hl 0 rfl) ?_
    exact W.iret hx hb hr (fun t ht hWm => ⟨⟨y6_95, (Ty, G), rfl, ⟨rg_w ry6_95 (by decide) (by decide), rfl⟩, by show HT g Ty G t.heap; rw [ht]; exact hH⟩, hS.F ht⟩) hS.2.2 dX0_copyTree_97
  have L_30 : ∀ (n : Nat) (H : Heap) (locs : List Loc) (y6_30 : Int32) (y7_30 : Int32) (ls : Array Slot), rgI (0) (24) y6_30 → rgI (0) (4) y7_30 → (4 - (y7_30).toInt).toNat < n → lv_has ls 9 [(0, .ref h0), (1, .int a0), (4, .int a3), (5, .int a4), (6, .int y6_30), (7, .int y7_30)] → HT g Ty G H → va_S (AF Ty s.heap.size) s.heap H locs → Wm p l e (wsG yX0_copyTree cX0_copyTree 9 (some .int)) ({ frames := 2 + (nr + 1), cells := 0, slots := 0, locals := 47 + 28 * (nr + 1) }) s m [.ref h0, .int a0, .int a1, .int a2, .int a3, .int a4] below meth c H locs (0) (0) (QwI g Ty s.heap.size (fun r u => (rgI (0) (24) r) ∧ u = (Ty, G))) 0 0 (AF Ty s.heap.size) (F0 m 30 ls []) := by
    intro n
    induction n with
    | zero => intro H locs y6_30 y7_30 ls ry6_30 ry7_30 hm; exact absurd hm (Nat.not_lt_zero _)
    | succ n ih_30 =>
      intro H locs y6_30 y7_30 ls ry6_30 ry7_30 hm_30 hl hH hS
      have L_89 : ∀ (H : Heap) (locs : List Loc) (ls : Array Slot), rgI (-2147483648) (23) a4 → rgI (0) (24) y6_30 → rgI (0) (3) y7_30 → lv_has ls 9 [(0, .ref h0), (1, .int a0), (4, .int a3), (5, .int a4), (6, .int y6_30), (7, .int y7_30)] → HT g Ty G H → va_S (AF Ty s.heap.size) s.heap H locs → Wm p l e (wsG yX0_copyTree cX0_copyTree 9 (some .int)) ({ frames := 2 + (nr + 1), cells := 0, slots := 0, locals := 47 + 28 * (nr + 1) }) s m [.ref h0, .int a0, .int a1, .int a2, .int a3, .int a4] below meth c H locs (0) (0) (QwI g Ty s.heap.size (fun r u => (rgI (0) (24) r) ∧ u = (Ty, G))) 0 0 (AF Ty s.heap.size) (F0 m 89 ls []) := by
        intro H locs ls ry5_89 ry6_89 ry7_89 hl hH hS
        obtain ⟨x_1, ex_1⟩ : ∃ y : Int32, y = y7_30 + 1 := ⟨_, rfl⟩
        have rx_1 : rgI (1) (4) x_1 := by rw [ex_1]; exact rg_w (rg_add ry7_89 rl_1 (by decide) (by decide)) (by decide) (by decide)
        have qx_1 : x_1.toInt = (y7_30 : Int32).toInt + 1 := by rw [ex_1]; exact rg_addE ry7_89 rl_1 (by decide) (by decide)
        refine lv_iinc (v := x_1) (lv' := [(7, .int x_1), (0, .ref h0), (1, .int a0), (4, .int a3), (5, .int a4), (6, .int y6_30)]) hx hb dX0_copyTree_89 hl (k := 5) rfl (by rw [ex_1]; rfl) (by decide) rfl (fun ls hl => ?_)
        refine lv_goto (tgt := 30) hx hb dX0_copyTree_92 (by decide) ?_
        exact ih_30 H locs y6_30 x_1 ls ry6_89 (rg_w rx_1 (by decide) (by decide)) (by have h1 := qx_1; have h2 := ry7_89.1; have h3 := ry7_89.2; have h4 := hm_30; omega) (lv_sub hl [1, 2, 3, 4, 5, 0] rfl) hH hS
      refine lv_iload hx hb dX0_copyTree_30 (lv_at hl 5 rfl) ?_
      refine lv_iconst (v := 4) hx hb dX0_copyTree_32 (by decide) ?_
      refine lv_icmp_ge (tgt := 95) hx hb dX0_copyTree_33 (by decide) (fun c_2 => ?_) (fun c_2 => ?_)
      · have r_3 : rgI (4) (4) y7_30 := rg_w (rg_leR rl_4 ry7_30 c_2) (by decide) (by decide)
        exact L_95 H locs y6_30 ls ry6_30 (lv_sub hl [4] rfl) hH hS
      · have r_4 : rgI (0) (3) y7_30 := rg_w (rg_ltL ry7_30 rl_4 (nle_lt c_2)) (by decide) (by decide)
        refine lv_iload hx hb dX0_copyTree_36 (lv_at hl 3 rfl) ?_
        refine lv_bipush (v := 24) hx hb dX0_copyTree_38 (by decide) ?_
        refine lv_icmp_ge (tgt := 95) hx hb dX0_copyTree_40 (by decide) (fun c_5 => ?_) (fun c_5 => ?_)
        · have r_6 : rgI (24) (2147483647) a4 := rg_w (rg_leR rl_24 (rg_top a4) c_5) (by decide) (by decide)
          exact L_95 H locs y6_30 ls ry6_30 (lv_sub hl [4] rfl) hH hS
        · have r_7 : rgI (-2147483648) (23) a4 := rg_w (rg_ltL (rg_top a4) rl_24 (nle_lt c_5)) (by decide) (by decide)
          refine lv_aload_n hx hb dX0_copyTree_43 rfl (lv_at hl 0 rfl) ?_
          obtain ⟨_, ⟨q_9, q_10, q_11, rfl, kq_9, kq_10, kq_11⟩, o_c_8⟩ := hH h0 _ k_h0
          refine hg_get hx hb hG igX0 hown hK o_c_8 rfl 0 (by decide) (hG _ mw_239) rfl dX0_copyTree_44 ?_
          refine lv_iload_n hx hb dX0_copyTree_47 rfl (lv_at hl 1 rfl) ?_
          refine lv_iload hx hb dX0_copyTree_48 (lv_at hl 5 rfl) ?_
          obtain ⟨_, ⟨q_13, q_14, q_15, q_16, q_17, q_18, q_19, rfl, kq_13, kq_14, kq_15⟩, o_c_12⟩ := hH q_9 _ kq_9
          refine vp_callSi (W.runV (As := [.int a0, .int y7_30]) (rest := []) ⟨hx, hb, hml, hown, hts⟩ (c_X10_mountAt l g Ty G q_9 a0 y7_30 kq_9) (cwV 2 hts (gwV mw_778 mw_579 mw_580 mw_77 mw_581) rfl rfl rfl hv_X10_mountAt ⟨Nat.le_trans (Nat.le_of_ble_eq_true rfl) (Nat.le_add_right 2 _), Nat.le_trans (Nat.le_of_ble_eq_true rfl) (Nat.le_add_right 47 _)⟩) ⟨PcH_blind, hg_recv hK o_c_12 rfl, PcH_pre hK hH⟩ rfl rfl hl.1 rfl (lv_room (Nat.le_of_ble_eq_true rfl)) dX0_copyTree_50 ⟨Nat.zero_le _, Nat.zero_le _⟩) (fun x_20 hx_20 => ?_)
          refine lv_istore (lv' := [(8, .int x_20), (0, .ref h0), (1, .int a0), (4, .int a3), (5, .int a4), (6, .int y6_30), (7, .int y7_30)]) hx hb dX0_copyTree_53 hl (by decide) rfl (fun ls hl => ?_)
          refine lv_iload hx hb dX0_copyTree_55 (lv_at hl 0 rfl) ?_
          refine lv_bipush (v := 24) hx hb dX0_copyTree_57 (by decide) ?_
          refine lv_icmp_eq (tgt := 89) hx hb dX0_copyTree_59 (by decide) (fun c_21 => ?_) (fun c_21 => ?_)
          · have r_22 : rgI (24) (24) x_20 := rg_w (rg_eq rl_24 c_21) (by decide) (by decide)
            exact L_89 H locs ls r_7 ry6_30 r_4 (lv_sub hl [1, 2, 3, 4, 5, 6] rfl) hH hS
          · refine lv_iload hx hb dX0_copyTree_62 (lv_at hl 3 rfl) ?_
            refine lv_iconst (v := 1) hx hb dX0_copyTree_64 (by decide) ?_
            refine lv_iload hx hb dX0_copyTree_65 (lv_at hl 0 rfl) ?_
            refine lv_ishl hx hb dX0_copyTree_67 ?_
            refine lv_topi (fun x_23 ex_23 => ?_)
            refine lv_iand hx hb dX0_copyTree_68 ?_
            refine lv_topi (fun x_24 ex_24 => ?_)
            refine lv_if_eq (tgt := 89) hx hb dX0_copyTree_69 (by decide) (fun c_25 => ?_) (fun c_25 => ?_)
            · have r_26 : rgI (0) (0) x_24 := rg_w (rg_eq rl_0 c_25) (by decide) (by decide)
              exact L_89 H locs ls r_7 ry6_30 r_4 (lv_sub hl [1, 2, 3, 4, 5, 6] rfl) hH hS
            · refine lv_aload_n hx hb dX0_copyTree_72 rfl (lv_at hl 1 rfl) ?_
              refine lv_iload hx hb dX0_copyTree_73 (lv_at hl 0 rfl) ?_
              refine lv_iload hx hb dX0_copyTree_75 (lv_at hl 5 rfl) ?_
              refine lv_iload hx hb dX0_copyTree_77 (lv_at hl 6 rfl) ?_
              refine lv_iload hx hb dX0_copyTree_79 (lv_at hl 3 rfl) ?_
              refine lv_iload hx hb dX0_copyTree_81 (lv_at hl 4 rfl) ?_
              refine lv_iconst (v := 1) hx hb dX0_copyTree_83 (by decide) ?_
              refine lv_iadd hx hb dX0_copyTree_84 ?_
              refine lv_topi (fun x_27 ex_27 => ?_)
              have rx_27 : rgI (-2147483647) (24) x_27 := by rw [ex_27]; exact rg_w (rg_add r_7 rl_1 (by decide) (by decide)) (by decide) (by decide)
              have qx_27 : x_27.toInt = (a4 : Int32).toInt + 1 := by rw [ex_27]; exact rg_addE r_7 rl_1 (by decide) (by decide)
              refine va_calli (va_runV (As := [.int x_20, .int y6_30, .int y7_30, .int a3, .int x_27]) (rest := []) ⟨hx, hb, hml, hown, hts⟩ (ihr Ty G H.size h0 x_20 y6_30 y7_30 a3 x_27 k_h0 (by have h1 := qx_27; have h2 := hm; have h3 := (r_7).2; omega)) (cwV 5 hts (gwV mw_784 mw_786 mw_18 mw_82 mw_787) rfl rfl rfl hv_X0_copyTree ⟨Nat.le_refl _, by show 28 + (47 + 28 * nr) ≤ 47 + 28 * (nr + 1); omega⟩) ⟨PcT_blind, hg_recv hK o_c_8 rfl, PcT_pre hK hH⟩ rfl rfl hl.1 rfl (lv_room (Nat.le_of_ble_eq_true rfl)) dX0_copyTree_85 ⟨Nat.zero_le _, Nat.zero_le _⟩) hS (fun q _ h => AF.mono hS.1 h) (fun q h => AF.mono hS.1 h) (fun x_28 ux_28 t H locs ht hvm hx_28 hB hz hk hS => ?_)
              obtain ⟨hx_28, fx_28⟩ := hx_28
              have hH : HT g Ty G H := by rw [← ht]; rw [fx_28] at hB; exact hB
              have rx_28 : rgI (0) (24) x_28 := hx_28
              refine lv_pop hx hb dX0_copyTree_88 rfl ?_
              exact L_89 H locs ls r_7 ry6_30 r_4 (lv_sub hl [1, 2, 3, 4, 5, 6] rfl) hH hS
  refine lv_aload_n hx hb dX0_copyTree_0 rfl (lv_at hl 0 rfl) ?_
  obtain ⟨_, ⟨q_30, q_31, q_32, rfl, kq_30, kq_31, kq_32⟩, o_c_29⟩ := hH h0 _ k_h0
  refine hg_get hx hb hG igX0 hown hK o_c_29 rfl 0 (by decide) (hG _ mw_239) rfl dX0_copyTree_1 ?_
  refine lv_iload_n hx hb dX0_copyTree_4 rfl (lv_at hl 2 rfl) ?_
  refine lv_iload_n hx hb dX0_copyTree_5 rfl (lv_at hl 3 rfl) ?_
  refine lv_aload_n hx hb dX0_copyTree_6 rfl (lv_at hl 0 rfl) ?_
  refine hg_get hx hb hG igX0 hown hK o_c_29 rfl 0 (by decide) (hG _ mw_239) rfl dX0_copyTree_7 ?_
  refine lv_iload_n hx hb dX0_copyTree_10 rfl (lv_at hl 1 rfl) ?_
  obtain ⟨_, ⟨q_34, q_35, q_36, q_37, q_38, q_39, q_40, rfl, kq_34, kq_35, kq_36⟩, o_c_33⟩ := hH q_30 _ kq_30
  refine vp_callSi (W.runV (As := [.int a0]) (rest := [.int a2, .int a1, .ref q_30]) ⟨hx, hb, hml, hown, hts⟩ (c_X10_groupOf l g Ty G q_30 a0 kq_30) (cwV 1 hts (gwV mw_718 mw_608 mw_609 mw_77 mw_610) rfl rfl rfl hv_X10_groupOf ⟨Nat.le_trans (Nat.le_of_ble_eq_true rfl) (Nat.le_add_right 2 _), Nat.le_trans (Nat.le_of_ble_eq_true rfl) (Nat.le_add_right 47 _)⟩) ⟨PcH_blind, hg_recv hK o_c_33 rfl, PcH_pre hK hH⟩ rfl rfl hl.1 rfl (lv_room (Nat.le_of_ble_eq_true rfl)) dX0_copyTree_11 ⟨Nat.zero_le _, Nat.zero_le _⟩) (fun x_41 hx_41 => ?_)
  refine lv_aload_n hx hb dX0_copyTree_14 rfl (lv_at hl 0 rfl) ?_
  refine hg_get hx hb hG igX0 hown hK o_c_29 rfl 0 (by decide) (hG _ mw_239) rfl dX0_copyTree_15 ?_
  refine lv_iload_n hx hb dX0_copyTree_18 rfl (lv_at hl 1 rfl) ?_
  refine vp_callSi (W.runV (As := [.int a0]) (rest := [.int x_41, .int a2, .int a1, .ref q_30]) ⟨hx, hb, hml, hown, hts⟩ (c_X10_masterOf l g Ty G q_30 a0 kq_30) (cwV 1 hts (gwV mw_719 mw_612 mw_613 mw_77 mw_614) rfl rfl rfl hv_X10_masterOf ⟨Nat.le_trans (Nat.le_of_ble_eq_true rfl) (Nat.le_add_right 2 _), Nat.le_trans (Nat.le_of_ble_eq_true rfl) (Nat.le_add_right 47 _)⟩) ⟨PcH_blind, hg_recv hK o_c_33 rfl, PcH_pre hK hH⟩ rfl rfl hl.1 rfl (lv_room (Nat.le_of_ble_eq_true rfl)) dX0_copyTree_19 ⟨Nat.zero_le _, Nat.zero_le _⟩) (fun x_42 hx_42 => ?_)
  refine va_calli (va_runV (As := [.int a1, .int a2, .int x_41, .int x_42]) (rest := []) ⟨hx, hb, hml, hown, hts⟩ (c_X10_put l g Ty G s.heap.size q_30 a1 a2 x_41 x_42 kq_30) (cwV 4 hts (gwV mw_734 mw_735 mw_736 mw_77 mw_737) rfl rfl rfl hv_X10_put ⟨Nat.le_trans (Nat.le_of_ble_eq_true rfl) (Nat.le_add_right 2 _), Nat.le_trans (Nat.le_of_ble_eq_true rfl) (Nat.le_add_right 47 _)⟩) ⟨PcT_blind, hg_recv hK o_c_33 rfl, PcT_pre hK hH⟩ rfl rfl hl.1 rfl (lv_room (Nat.le_of_ble_eq_true rfl)) dX0_copyTree_22 ⟨Nat.zero_le _, Nat.zero_le _⟩) hS (fun q _ h => AF.mono hS.1 h) (fun q h => AF.mono hS.1 h) (fun x_43 ux_43 t H locs ht hvm hx_43 hB hz hk hS => ?_)
  obtain ⟨hx_43, fx_43⟩ := hx_43
  have hH : HT g Ty G H := by rw [← ht]; rw [fx_43] at hB; exact hB
  have rx_43 : rgI (0) (24) x_43 := hx_43
  refine lv_istore (lv' := [(6, .int x_43), (0, .ref h0), (1, .int a0), (2, .int a1), (3, .int a2), (4, .int a3), (5, .int a4)]) hx hb dX0_copyTree_25 hl (by decide) rfl (fun ls hl => ?_)
  refine lv_iconst (v := 0) hx hb dX0_copyTree_27 (by decide) ?_
  refine lv_istore (lv' := [(7, .int 0), (6, .int x_43), (0, .ref h0), (1, .int a0), (2, .int a1), (3, .int a2), (4, .int a3), (5, .int a4)]) hx hb dX0_copyTree_28 hl (by decide) rfl (fun ls hl => ?_)
  exact L_30 _ H locs x_43 0 ls rx_43 (rg_w rl_0 (by decide) (by decide)) (Nat.lt_succ_self _) (lv_sub hl [2, 3, 6, 7, 1, 0] rfl) hH hS

set_option maxHeartbeats 4000000 in
set_option maxRecDepth 100000 in
theorem c_X0_bindTree (l : Launch) (g : Gx) (Ty : TyM) (G : Gh) (sz : Nat) (h0 : Nat) (a0 : Int32) (a1 : Int32) (a2 : Int32) (k_h0 : Ty h0 = some (10, 0)) : Met l yX0_bindTree (wsG yX0_bindTree cX0_bindTree 5 (some .int)) ({ frames := 28, cells := 0, slots := 0, locals := 775 }) (PcT g Ty G sz [.ref h0, .int a0, .int a1, .int a2]) (QwI g Ty sz (fun r u => u = (Ty, G))) 0 0 (AF Ty sz) := by
  refine Met.ofW (cc := cX0_bindTree) (maxL := 5) (ret := (some .int)) (by decide) rfl ?_
  intro p e s m args below meth c s₁ B hml hv
  obtain ⟨rfl, hsz, hK, hH⟩ := hv
  subst hsz
  have hx := B.exec
  have hb := B.bytes
  have hr := B.returns
  have hts := atoms_spec (ws := (wsG yX0_bindTree cX0_bindTree 5 (some .int))) B.pre
  have hG : ∀ w ∈ GW, w.before ([.ref h0, .int a0, .int a1, .int a2] : List Value).toArray s = true := fun w h => hts w (List.mem_cons_of_mem _ h)
  have hown : s.vm.findClass RX0 = some m.cls := findClass_of_methodNamed B.named
  have hlocks := B.notSynchronized
  have hl := lv_entry [.ref h0, .int a0, .int a1, .int a2] (n := 5) (Nat.le_of_ble_eq_true rfl)
  rw [lg_entry_eq]
  generalize (lg_sl [.ref h0, .int a0, .int a1, .int a2] ++ List.replicate (5 - (lg_sl [.ref h0, .int a0, .int a1, .int a2]).length) Slot.unset).toArray = ls at hl ⊢
  have hl : lv_has ls 5 [(0, .ref h0), (1, .int a0), (2, .int a1), (3, .int a2)] := hl
  have hS : va_S (AF Ty s.heap.size) s.heap s.heap [] := va_S.rf
  have L_23 : ∀ (H : Heap) (locs : List Loc) (ls : Array Slot), lv_has ls 5 [] → HT g Ty G H → va_S (AF Ty s.heap.size) s.heap H locs → Wm p l e (wsG yX0_bindTree cX0_bindTree 5 (some .int)) ({ frames := 28, cells := 0, slots := 0, locals := 775 }) s m [.ref h0, .int a0, .int a1, .int a2] below meth c H locs (0) (0) (QwI g Ty s.heap.size (fun r u => u = (Ty, G))) 0 0 (AF Ty s.heap.size) (F0 m 23 ls []) := by
    intro H locs ls hl hH hS
    refine lv_iconst (v := (-1)) hx hb dX0_bindTree_23 (by decide) ?_
    exact W.iret hx hb hr (fun t ht hWm => ⟨⟨(-1), (Ty, G), rfl, rfl, by show HT g Ty G t.heap; rw [ht]; exact hH⟩, hS.F ht⟩) hS.2.2 dX0_bindTree_24
  refine lv_aload_n hx hb dX0_bindTree_0 rfl (lv_at hl 0 rfl) ?_
  obtain ⟨_, ⟨q_2, q_3, q_4, rfl, kq_2, kq_3, kq_4⟩, o_c_1⟩ := hH h0 _ k_h0
  refine hg_get hx hb hG igX0 hown hK o_c_1 rfl 0 (by decide) (hG _ mw_239) rfl dX0_bindTree_1 ?_
  refine lv_iload_n hx hb dX0_bindTree_4 rfl (lv_at hl 1 rfl) ?_
  obtain ⟨_, ⟨q_6, q_7, q_8, q_9, q_10, q_11, q_12, rfl, kq_6, kq_7, kq_8⟩, o_c_5⟩ := hH q_2 _ kq_2
  refine vp_callSi (W.runV (As := [.int a0]) (rest := []) ⟨hx, hb, hml, hown, hts⟩ (c_X10_has l g Ty G q_2 a0 kq_2) (cwV 1 hts (gwV mw_765 mw_604 mw_605 mw_77 mw_606) rfl rfl rfl hv_X10_has ⟨Nat.le_of_ble_eq_true rfl, Nat.le_of_ble_eq_true rfl⟩) ⟨PcH_blind, hg_recv hK o_c_5 rfl, PcH_pre hK hH⟩ rfl rfl hl.1 rfl (lv_room (Nat.le_of_ble_eq_true rfl)) dX0_bindTree_5 ⟨Nat.zero_le _, Nat.zero_le _⟩) (fun x_13 hx_13 => ?_)
  have rx_13 : rgI (0) (1) x_13 := hx_13.1
  refine lv_if_eq (tgt := 23) hx hb dX0_bindTree_8 (by decide) (fun c_14 => ?_) (fun c_14 => ?_)
  · have r_15 : rgI (0) (0) x_13 := rg_w (rg_eq rl_0 c_14) (by decide) (by decide)
    exact L_23 s.heap [] ls (lv_sub hl [] rfl) hH hS
  · have r_16 : rgI (1) (1) x_13 := rg_w (rg_neL rx_13 rl_0 c_14) (by decide) (by decide)
    have r_17 : rgI (0) (23) a0 := rg_w (hx_13.2.resolve_left c_14) (by decide) (by decide)
    refine lv_aload_n hx hb dX0_bindTree_11 rfl (lv_at hl 0 rfl) ?_
    refine hg_get hx hb hG igX0 hown hK o_c_1 rfl 0 (by decide) (hG _ mw_239) rfl dX0_bindTree_12 ?_
    refine lv_iload_n hx hb dX0_bindTree_15 rfl (lv_at hl 2 rfl) ?_
    refine lv_iload_n hx hb dX0_bindTree_16 rfl (lv_at hl 3 rfl) ?_
    refine vp_callSi (W.runV (As := [.int a1, .int a2]) (rest := []) ⟨hx, hb, hml, hown, hts⟩ (c_X10_hasPlace l g Ty G q_2 a1 a2 kq_2) (cwV 2 hts (gwV mw_640 mw_641 mw_642 mw_77 mw_643) rfl rfl rfl hv_X10_hasPlace ⟨Nat.le_of_ble_eq_true rfl, Nat.le_of_ble_eq_true rfl⟩) ⟨PcH_blind, hg_recv hK o_c_5 rfl, PcH_pre hK hH⟩ rfl rfl hl.1 rfl (lv_room (Nat.le_of_ble_eq_true rfl)) dX0_bindTree_17 ⟨Nat.zero_le _, Nat.zero_le _⟩) (fun x_18 hx_18 => ?_)
    have rx_18 : rgI (0) (1) x_18 := hx_18.1
    refine lv_if_ne (tgt := 25) hx hb dX0_bindTree_20 (by decide) (fun c_19 => ?_) (fun c_19 => ?_)
    · have r_20 : rgI (1) (1) x_18 := rg_w (rg_neL rx_18 rl_0 c_19) (by decide) (by decide)
      have r_21 : rgI (0) (23) a1 := rg_w (hx_18.2.resolve_left c_19) (by decide) (by decide)
      refine lv_aload_n hx hb dX0_bindTree_25 rfl (lv_at hl 0 rfl) ?_
      refine hg_get hx hb hG igX0 hown hK o_c_1 rfl 0 (by decide) (hG _ mw_239) rfl dX0_bindTree_26 ?_
      refine lv_iload_n hx hb dX0_bindTree_29 rfl (lv_at hl 2 rfl) ?_
      refine lv_iload_n hx hb dX0_bindTree_30 rfl (lv_at hl 3 rfl) ?_
      refine vp_callSi (W.runV (As := [.int a1, .int a2]) (rest := []) ⟨hx, hb, hml, hown, hts⟩ (c_X10_mountAt l g Ty G q_2 a1 a2 kq_2) (cwV 2 hts (gwV mw_778 mw_579 mw_580 mw_77 mw_581) rfl rfl rfl hv_X10_mountAt ⟨Nat.le_of_ble_eq_true rfl, Nat.le_of_ble_eq_true rfl⟩) ⟨PcH_blind, hg_recv hK o_c_5 rfl, PcH_pre hK hH⟩ rfl rfl hl.1 rfl (lv_room (Nat.le_of_ble_eq_true rfl)) dX0_bindTree_31 ⟨Nat.zero_le _, Nat.zero_le _⟩) (fun x_22 hx_22 => ?_)
      refine lv_bipush (v := 24) hx hb dX0_bindTree_34 (by decide) ?_
      refine lv_icmp_eq (tgt := 42) hx hb dX0_bindTree_36 (by decide) (fun c_23 => ?_) (fun c_23 => ?_)
      · have r_24 : rgI (24) (24) x_22 := rg_w (rg_eq rl_24 c_23) (by decide) (by decide)
        refine lv_aload_n hx hb dX0_bindTree_42 rfl (lv_at hl 0 rfl) ?_
        refine hg_get hx hb hG igX0 hown hK o_c_1 rfl 0 (by decide) (hG _ mw_239) rfl dX0_bindTree_43 ?_
        refine lv_iload_n hx hb dX0_bindTree_46 rfl (lv_at hl 1 rfl) ?_
        refine vp_callSi (W.runV (As := [.int a0]) (rest := []) ⟨hx, hb, hml, hown, hts⟩ (c_X10_isUnbindable l g Ty G q_2 a0 kq_2) (cwV 1 hts (gwV mw_766 mw_767 mw_768 mw_77 mw_769) rfl rfl rfl hv_X10_isUnbindable ⟨Nat.le_of_ble_eq_true rfl, Nat.le_of_ble_eq_true rfl⟩) ⟨PcH_blind, hg_recv hK o_c_5 rfl, PcH_pre hK hH⟩ rfl rfl hl.1 rfl (lv_room (Nat.le_of_ble_eq_true rfl)) dX0_bindTree_47 ⟨Nat.zero_le _, Nat.zero_le _⟩) (fun x_25 hx_25 => ?_)
        have rx_25 : rgI (0) (1) x_25 := hx_25.1
        refine lv_if_eq (tgt := 56) hx hb dX0_bindTree_50 (by decide) (fun c_26 => ?_) (fun c_26 => ?_)
        · have r_27 : rgI (0) (0) x_25 := rg_w (rg_eq rl_0 c_26) (by decide) (by decide)
          refine lv_aload_n hx hb dX0_bindTree_56 rfl (lv_at hl 0 rfl) ?_
          refine hg_get hx hb hG igX0 hown hK o_c_1 rfl 0 (by decide) (hG _ mw_239) rfl dX0_bindTree_57 ?_
          refine lv_iload_n hx hb dX0_bindTree_60 rfl (lv_at hl 2 rfl) ?_
          refine vp_callSi (W.runV (As := [.int a1]) (rest := []) ⟨hx, hb, hml, hown, hts⟩ (c_X10_groupOf l g Ty G q_2 a1 kq_2) (cwV 1 hts (gwV mw_718 mw_608 mw_609 mw_77 mw_610) rfl rfl rfl hv_X10_groupOf ⟨Nat.le_of_ble_eq_true rfl, Nat.le_of_ble_eq_true rfl⟩) ⟨PcH_blind, hg_recv hK o_c_5 rfl, PcH_pre hK hH⟩ rfl rfl hl.1 rfl (lv_room (Nat.le_of_ble_eq_true rfl)) dX0_bindTree_61 ⟨Nat.zero_le _, Nat.zero_le _⟩) (fun x_28 hx_28 => ?_)
          refine lv_if_eq (tgt := 70) hx hb dX0_bindTree_64 (by decide) (fun c_29 => ?_) (fun c_29 => ?_)
          · have r_30 : rgI (0) (0) x_28 := rg_w (rg_eq rl_0 c_29) (by decide) (by decide)
            refine lv_aload_n hx hb dX0_bindTree_70 rfl (lv_at hl 0 rfl) ?_
            refine lv_iload_n hx hb dX0_bindTree_71 rfl (lv_at hl 1 rfl) ?_
            refine vp_callSi (W.runV (As := [.int a0]) (rest := []) ⟨hx, hb, hml, hown, hts⟩ (c_X0_bindableTree l g Ty G h0 a0 k_h0) (cwV 1 hts (gwV mw_779 mw_781 mw_17 mw_82 mw_782) rfl rfl rfl hv_X0_bindableTree ⟨Nat.le_of_ble_eq_true rfl, Nat.le_of_ble_eq_true rfl⟩) ⟨PcH_blind, hg_recv hK o_c_1 rfl, PcH_pre hK hH⟩ rfl rfl hl.1 rfl (lv_room (Nat.le_of_ble_eq_true rfl)) dX0_bindTree_72 ⟨Nat.zero_le _, Nat.zero_le _⟩) (fun x_31 hx_31 => ?_)
            refine lv_istore (lv' := [(4, .int x_31), (0, .ref h0), (1, .int a0), (2, .int a1), (3, .int a2)]) hx hb dX0_bindTree_75 hl (by decide) rfl (fun ls hl => ?_)
            refine lv_aload_n hx hb dX0_bindTree_77 rfl (lv_at hl 1 rfl) ?_
            refine hg_get hx hb hG igX0 hown hK o_c_1 rfl 0 (by decide) (hG _ mw_239) rfl dX0_bindTree_78 ?_
            refine vp_callSi (W.runV (As := []) (rest := []) ⟨hx, hb, hml, hown, hts⟩ (c_X10_size l g Ty G q_2 kq_2) (cwV 0 hts (gwV mw_708 mw_709 mw_710 mw_77 mw_711) rfl rfl rfl hv_X10_size ⟨Nat.le_of_ble_eq_true rfl, Nat.le_of_ble_eq_true rfl⟩) ⟨PcH_blind, hg_recv hK o_c_5 rfl, PcH_pre hK hH⟩ rfl rfl hl.1 rfl (lv_room (Nat.le_of_ble_eq_true rfl)) dX0_bindTree_81 ⟨Nat.zero_le _, Nat.zero_le _⟩) (fun x_32 hx_32 => ?_)
            refine lv_iload hx hb dX0_bindTree_84 (lv_at hl 0 rfl) ?_
            refine vp_callSi (W.runS (As := [.int x_31]) (rest := [.int x_32]) ⟨hx, hb, hml, hown, hts⟩ (c_J6_bitCount_0f7a4 l g Ty G x_31 ) (cwSx 1 hts hG (gwC mw_620) mw_99 mw_713 mw_619 rfl rfl rfl hd_J6_bitCount_0f7a4 ⟨Nat.le_of_ble_eq_true rfl, Nat.le_of_ble_eq_true rfl⟩) ⟨PcH_blind, PcH_pre hK hH⟩ rfl rfl hl.1 rfl (lv_room (Nat.le_of_ble_eq_true rfl)) dX0_bindTree_86 ⟨Nat.zero_le _, Nat.zero_le _⟩) (fun x_33 hx_33 => ?_)
            refine lv_iadd hx hb dX0_bindTree_89 ?_
            refine lv_topi (fun x_34 ex_34 => ?_)
            refine lv_bipush (v := 24) hx hb dX0_bindTree_90 (by decide) ?_
            refine lv_icmp_le (tgt := 98) hx hb dX0_bindTree_92 (by decide) (fun c_35 => ?_) (fun c_35 => ?_)
            · have r_36 : rgI (-2147483648) (24) x_34 := rg_w (rg_leL (rg_top x_34) rl_24 c_35) (by decide) (by decide)
              refine lv_aload_n hx hb dX0_bindTree_98 rfl (lv_at hl 1 rfl) ?_
              refine hg_get hx hb hG igX0 hown hK o_c_1 rfl 0 (by decide) (hG _ mw_239) rfl dX0_bindTree_99 ?_
              refine lv_dup hx hb dX0_bindTree_102 rfl ?_
              refine hg_getN hx hb hG igX10 hown hK o_c_5 rfl 5 (by decide) ((hK.2.1 _ nwf_125).use rfl) rfl dX0_bindTree_103 ?_
              refine lv_iconst (v := 1) hx hb dX0_bindTree_106 (by decide) ?_
              refine lv_iadd hx hb dX0_bindTree_107 ?_
              refine lv_topi (fun x_37 ex_37 => ?_)
              refine hg_putN (ty := .int) hx hb hG igX10 tyX10 tyX10_ok nmX10 hown hK hS o_c_5 (AF.of kq_2) rfl 5 (by decide) ((hK.2.1 _ nwf_125).use rfl) rfl (by decide +kernel) rfl rfl (Nat.le_of_ble_eq_true rfl) dX0_bindTree_108 (fun H locs o_c_5 hz oq hS => ?_)
              have o_c_5 : va_at g.1 vwCl (q_2, .inr (10, [.ref q_6, .ref q_7, .ref q_8, .int q_9, .int q_10, .int x_37, .int q_12])) H := o_c_5
              have hH : HT g Ty G H := hH.put kq_2 ⟨q_6, q_7, q_8, q_9, q_10, x_37, q_12, rfl, kq_6, kq_7, kq_8⟩ o_c_5 oq
              have o_c_1 := o_c_1.kept (oq _ (ne_kd k_h0 kq_2 (by decide)))
              clear oq hz
              refine lv_aload_n hx hb dX0_bindTree_111 rfl (lv_at hl 1 rfl) ?_
              refine lv_iload_n hx hb dX0_bindTree_112 rfl (lv_at hl 2 rfl) ?_
              refine lv_iload_n hx hb dX0_bindTree_113 rfl (lv_at hl 3 rfl) ?_
              refine lv_iload_n hx hb dX0_bindTree_114 rfl (lv_at hl 4 rfl) ?_
              refine lv_iload hx hb dX0_bindTree_115 (lv_at hl 0 rfl) ?_
              refine lv_iconst (v := 0) hx hb dX0_bindTree_117 (by decide) ?_
              refine va_calli (va_runV (As := [.int a0, .int a1, .int a2, .int x_31, .int 0]) (rest := []) ⟨hx, hb, hml, hown, hts⟩ (c_X0_copyTree l g 25 Ty G H.size h0 a0 a1 a2 x_31 0 k_h0 (by decide)) (cwV 5 hts (gwV mw_784 mw_786 mw_18 mw_82 mw_787) rfl rfl rfl hv_X0_copyTree ⟨Nat.le_of_ble_eq_true rfl, Nat.le_of_ble_eq_true rfl⟩) ⟨PcT_blind, hg_recv hK o_c_1 rfl, PcT_pre hK hH⟩ rfl rfl hl.1 rfl (lv_room (Nat.le_of_ble_eq_true rfl)) dX0_bindTree_118 ⟨Nat.zero_le _, Nat.zero_le _⟩) hS (fun q _ h => AF.mono hS.1 h) (fun q h => AF.mono hS.1 h) (fun x_38 ux_38 t H locs ht hvm hx_38 hB hz hk hS => ?_)
              obtain ⟨hx_38, fx_38⟩ := hx_38
              have hH : HT g Ty G H := by rw [← ht]; rw [fx_38] at hB; exact hB
              have rx_38 : rgI (0) (24) x_38 := hx_38
              exact W.iret hx hb hr (fun t ht hWm => ⟨⟨x_38, (Ty, G), rfl, rfl, by show HT g Ty G t.heap; rw [ht]; exact hH⟩, hS.F ht⟩) hS.2.2 dX0_bindTree_121
            · have r_39 : rgI (25) (2147483647) x_34 := rg_w (rg_ltR rl_24 (rg_top x_34) (nle_lt c_35)) (by decide) (by decide)
              refine lv_bipush (v := (-9)) hx hb dX0_bindTree_95 (by decide) ?_
              exact W.iret hx hb hr (fun t ht hWm => ⟨⟨(-9), (Ty, G), rfl, rfl, by show HT g Ty G t.heap; rw [ht]; exact hH⟩, hS.F ht⟩) hS.2.2 dX0_bindTree_97
          · refine lv_bipush (v := (-4)) hx hb dX0_bindTree_67 (by decide) ?_
            exact W.iret hx hb hr (fun t ht hWm => ⟨⟨(-4), (Ty, G), rfl, rfl, by show HT g Ty G t.heap; rw [ht]; exact hH⟩, hS.F ht⟩) hS.2.2 dX0_bindTree_69
        · have r_40 : rgI (1) (1) x_25 := rg_w (rg_neL rx_25 rl_0 c_26) (by decide) (by decide)
          refine lv_bipush (v := (-3)) hx hb dX0_bindTree_53 (by decide) ?_
          exact W.iret hx hb hr (fun t ht hWm => ⟨⟨(-3), (Ty, G), rfl, rfl, by show HT g Ty G t.heap; rw [ht]; exact hH⟩, hS.F ht⟩) hS.2.2 dX0_bindTree_55
      · refine lv_bipush (v := (-2)) hx hb dX0_bindTree_39 (by decide) ?_
        exact W.iret hx hb hr (fun t ht hWm => ⟨⟨(-2), (Ty, G), rfl, rfl, by show HT g Ty G t.heap; rw [ht]; exact hH⟩, hS.F ht⟩) hS.2.2 dX0_bindTree_41
    · have r_41 : rgI (0) (0) x_18 := rg_w (rg_eq rl_0 c_19) (by decide) (by decide)
      exact L_23 s.heap [] ls (lv_sub hl [] rfl) hH hS

set_option maxHeartbeats 4000000 in
set_option maxRecDepth 100000 in
theorem c_X2_doNext (l : Launch) (g : Gx) (Ty : TyM) (G : Gh) (sz : Nat) (h0 : Nat) (b0 : Nat) (k_h0 : Ty h0 = some (12, 0)) (k_b0 : Ty b0 = some (19, 0)) : Met l yX2_doNext (wsG yX2_doNext cX2_doNext 6 (some .int)) ({ frames := 29, cells := 0, slots := 0, locals := 799 }) (PcT g Ty G sz [.ref h0, .ref b0]) (QwI g Ty sz (fun r u => u = (Ty, G))) 0 0 (AF Ty sz) := by
  refine Met.ofW (cc := cX2_doNext) (maxL := 6) (ret := (some .int)) (by decide) rfl ?_
  intro p e s m args below meth c s₁ B hml hv
  obtain ⟨rfl, hsz, hK, hH⟩ := hv
  subst hsz
  have hx := B.exec
  have hb := B.bytes
  have hr := B.returns
  have hts := atoms_spec (ws := (wsG yX2_doNext cX2_doNext 6 (some .int))) B.pre
  have hG : ∀ w ∈ GW, w.before ([.ref h0, .ref b0] : List Value).toArray s = true := fun w h => hts w (List.mem_cons_of_mem _ h)
  have hown : s.vm.findClass RX2 = some m.cls := findClass_of_methodNamed B.named
  have hlocks := B.notSynchronized
  have hl := lv_entry [.ref h0, .ref b0] (n := 6) (Nat.le_of_ble_eq_true rfl)
  rw [lg_entry_eq]
  generalize (lg_sl [.ref h0, .ref b0] ++ List.replicate (6 - (lg_sl [.ref h0, .ref b0]).length) Slot.unset).toArray = ls at hl ⊢
  have hl : lv_has ls 6 [(0, .ref h0), (1, .ref b0)] := hl
  have hS : va_S (AF Ty s.heap.size) s.heap s.heap [] := va_S.rf
  have L_116 : ∀ (H : Heap) (locs : List Loc) (y2_116 : Int32) (y3_116 : Int32) (y4_116 : Int32) (ls : Array Slot), lv_has ls 6 [(0, .ref h0), (2, .int y2_116), (3, .int y3_116), (4, .int y4_116)] → HT g Ty G H → va_S (AF Ty s.heap.size) s.heap H locs → Wm p l e (wsG yX2_doNext cX2_doNext 6 (some .int)) ({ frames := 29, cells := 0, slots := 0, locals := 799 }) s m [.ref h0, .ref b0] below meth c H locs (0) (0) (QwI g Ty s.heap.size (fun r u => u = (Ty, G))) 0 0 (AF Ty s.heap.size) (F0 m 116 ls []) := by
    intro H locs y2_116 y3_116 y4_116 ls hl hH hS
    refine lv_iload_n hx hb dX2_doNext_116 rfl (lv_at hl 1 rfl) ?_
    by_cases c_1 : y2_116 = 98
    · refine lv_lookup (tgt := 190) (off := 73) hx hb dX2_doNext_117 (by decide) (by rw [c_1]; rfl) (by decide) ?_
      have r_2 : rgI (98) (98) y2_116 := rg_w (rg_eq rl_98 c_1) (by decide) (by decide)
      refine lv_aload_n hx hb dX2_doNext_190 rfl (lv_at hl 0 rfl) ?_
      obtain ⟨_, ⟨q_4, q_5, q_6, q_7, q_8, rfl, kq_4, kq_5, kq_6⟩, o_c_3⟩ := hH h0 _ k_h0
      refine hg_get hx hb hG igX2 hown hK o_c_3 rfl 1 (by decide) (hG _ mw_273) rfl dX2_doNext_191 ?_
      refine lv_iload hx hb dX2_doNext_194 (lv_at hl 3 rfl) ?_
      refine lv_aload_n hx hb dX2_doNext_196 rfl (lv_at hl 0 rfl) ?_
      refine hg_get hx hb hG igX2 hown hK o_c_3 rfl 2 (by decide) (hG _ mw_274) rfl dX2_doNext_197 ?_
      obtain ⟨_, ⟨q_10, q_11, rfl⟩, o_c_9⟩ := hH q_6 _ kq_6
      refine hg_getN hx hb hG igX6 hown hK o_c_9 rfl 0 (by decide) ((hK.2.1 _ nwf_257).use rfl) rfl dX2_doNext_200 ?_
      refine lv_aload_n hx hb dX2_doNext_203 rfl (lv_at hl 0 rfl) ?_
      refine hg_get hx hb hG igX2 hown hK o_c_3 rfl 2 (by decide) (hG _ mw_274) rfl dX2_doNext_204 ?_
      refine hg_getN hx hb hG igX6 hown hK o_c_9 rfl 1 (by decide) ((hK.2.1 _ nwf_260).use rfl) rfl dX2_doNext_207 ?_
      obtain ⟨_, ⟨q_13, q_14, q_15, rfl, kq_13, kq_14, kq_15⟩, o_c_12⟩ := hH q_5 _ kq_5
      refine va_calli (va_runV (As := [.int y4_116, .int q_10, .int q_11]) (rest := []) ⟨hx, hb, hml, hown, hts⟩ (c_X0_bindOne l g Ty G H.size q_5 y4_116 q_10 q_11 kq_5) (cwV 3 hts (gwV mw_896 mw_762 mw_763 mw_82 mw_764) rfl rfl rfl hv_X0_bindOne ⟨Nat.le_of_ble_eq_true rfl, Nat.le_of_ble_eq_true rfl⟩) ⟨PcT_blind, hg_recv hK o_c_12 rfl, PcT_pre hK hH⟩ rfl rfl hl.1 rfl (lv_room (Nat.le_of_ble_eq_true rfl)) dX2_doNext_210 ⟨Nat.zero_le _, Nat.zero_le _⟩) hS (fun q _ h => AF.mono hS.1 h) (fun q h => AF.mono hS.1 h) (fun x_16 ux_16 t H locs ht hvm hx_16 hB hz hk hS => ?_)
      have hH : HT g Ty G H := by rw [← ht]; rw [hx_16] at hB; exact hB
      exact W.iret hx hb hr (fun t ht hWm => ⟨⟨x_16, (Ty, G), rfl, rfl, by show HT g Ty G t.heap; rw [ht]; exact hH⟩, hS.F ht⟩) hS.2.2 dX2_doNext_213
    by_cases c_17 : y2_116 = 109
    · refine lv_lookup (tgt := 168) (off := 51) hx hb dX2_doNext_117 (by decide) (by rw [c_17]; rfl) (by decide) ?_
      have r_18 : rgI (109) (109) y2_116 := rg_w (rg_eq rl_109 c_17) (by decide) (by decide)
      refine lv_aload_n hx hb dX2_doNext_168 rfl (lv_at hl 0 rfl) ?_
      obtain ⟨_, ⟨q_20, q_21, q_22, q_23, q_24, rfl, kq_20, kq_21, kq_22⟩, o_c_19⟩ := hH h0 _ k_h0
      refine hg_get hx hb hG igX2 hown hK o_c_19 rfl 1 (by decide) (hG _ mw_273) rfl dX2_doNext_169 ?_
      refine lv_aload_n hx hb dX2_doNext_172 rfl (lv_at hl 0 rfl) ?_
      refine hg_get hx hb hG igX2 hown hK o_c_19 rfl 2 (by decide) (hG _ mw_274) rfl dX2_doNext_173 ?_
      obtain ⟨_, ⟨q_26, q_27, rfl⟩, o_c_25⟩ := hH q_22 _ kq_22
      refine hg_getN hx hb hG igX6 hown hK o_c_25 rfl 0 (by decide) ((hK.2.1 _ nwf_257).use rfl) rfl dX2_doNext_176 ?_
      refine lv_aload_n hx hb dX2_doNext_179 rfl (lv_at hl 0 rfl) ?_
      refine hg_get hx hb hG igX2 hown hK o_c_19 rfl 2 (by decide) (hG _ mw_274) rfl dX2_doNext_180 ?_
      refine hg_getN hx hb hG igX6 hown hK o_c_25 rfl 1 (by decide) ((hK.2.1 _ nwf_260).use rfl) rfl dX2_doNext_183 ?_
      obtain ⟨_, ⟨q_29, q_30, q_31, rfl, kq_29, kq_30, kq_31⟩, o_c_28⟩ := hH q_21 _ kq_21
      refine va_calli (va_runV (As := [.int q_26, .int q_27]) (rest := []) ⟨hx, hb, hml, hown, hts⟩ (c_X0_mountNew l g Ty G H.size q_21 q_26 q_27 kq_21) (cwV 2 hts (gwV mw_895 mw_633 mw_634 mw_82 mw_635) rfl rfl rfl hv_X0_mountNew ⟨Nat.le_of_ble_eq_true rfl, Nat.le_of_ble_eq_true rfl⟩) ⟨PcT_blind, hg_recv hK o_c_28 rfl, PcT_pre hK hH⟩ rfl rfl hl.1 rfl (lv_room (Nat.le_of_ble_eq_true rfl)) dX2_doNext_186 ⟨Nat.zero_le _, Nat.zero_le _⟩) hS (fun q _ h => AF.mono hS.1 h) (fun q h => AF.mono hS.1 h) (fun x_32 ux_32 t H locs ht hvm hx_32 hB hz hk hS => ?_)
      have hH : HT g Ty G H := by rw [← ht]; rw [hx_32] at hB; exact hB
      exact W.iret hx hb hr (fun t ht hWm => ⟨⟨x_32, (Ty, G), rfl, rfl, by show HT g Ty G t.heap; rw [ht]; exact hH⟩, hS.F ht⟩) hS.2.2 dX2_doNext_189
    by_cases c_33 : y2_116 = 114
    · refine lv_lookup (tgt := 214) (off := 97) hx hb dX2_doNext_117 (by decide) (by rw [c_33]; rfl) (by decide) ?_
      have r_34 : rgI (114) (114) y2_116 := rg_w (rg_eq rl_114 c_33) (by decide) (by decide)
      refine lv_aload_n hx hb dX2_doNext_214 rfl (lv_at hl 0 rfl) ?_
      obtain ⟨_, ⟨q_36, q_37, q_38, q_39, q_40, rfl, kq_36, kq_37, kq_38⟩, o_c_35⟩ := hH h0 _ k_h0
      refine hg_get hx hb hG igX2 hown hK o_c_35 rfl 1 (by decide) (hG _ mw_273) rfl dX2_doNext_215 ?_
      refine lv_iload hx hb dX2_doNext_218 (lv_at hl 3 rfl) ?_
      refine lv_aload_n hx hb dX2_doNext_220 rfl (lv_at hl 0 rfl) ?_
      refine hg_get hx hb hG igX2 hown hK o_c_35 rfl 2 (by decide) (hG _ mw_274) rfl dX2_doNext_221 ?_
      obtain ⟨_, ⟨q_42, q_43, rfl⟩, o_c_41⟩ := hH q_38 _ kq_38
      refine hg_getN hx hb hG igX6 hown hK o_c_41 rfl 0 (by decide) ((hK.2.1 _ nwf_257).use rfl) rfl dX2_doNext_224 ?_
      refine lv_aload_n hx hb dX2_doNext_227 rfl (lv_at hl 0 rfl) ?_
      refine hg_get hx hb hG igX2 hown hK o_c_35 rfl 2 (by decide) (hG _ mw_274) rfl dX2_doNext_228 ?_
      refine hg_getN hx hb hG igX6 hown hK o_c_41 rfl 1 (by decide) ((hK.2.1 _ nwf_260).use rfl) rfl dX2_doNext_231 ?_
      obtain ⟨_, ⟨q_45, q_46, q_47, rfl, kq_45, kq_46, kq_47⟩, o_c_44⟩ := hH q_37 _ kq_37
      refine va_calli (va_runV (As := [.int y4_116, .int q_42, .int q_43]) (rest := []) ⟨hx, hb, hml, hown, hts⟩ (c_X0_bindTree l g Ty G H.size q_37 y4_116 q_42 q_43 kq_37) (cwV 3 hts (gwV mw_897 mw_775 mw_776 mw_82 mw_777) rfl rfl rfl hv_X0_bindTree ⟨Nat.le_of_ble_eq_true rfl, Nat.le_of_ble_eq_true rfl⟩) ⟨PcT_blind, hg_recv hK o_c_44 rfl, PcT_pre hK hH⟩ rfl rfl hl.1 rfl (lv_room (Nat.le_of_ble_eq_true rfl)) dX2_doNext_234 ⟨Nat.zero_le _, Nat.zero_le _⟩) hS (fun q _ h => AF.mono hS.1 h) (fun q h => AF.mono hS.1 h) (fun x_48 ux_48 t H locs ht hvm hx_48 hB hz hk hS => ?_)
      have hH : HT g Ty G H := by rw [← ht]; rw [hx_48] at hB; exact hB
      exact W.iret hx hb hr (fun t ht hWm => ⟨⟨x_48, (Ty, G), rfl, rfl, by show HT g Ty G t.heap; rw [ht]; exact hH⟩, hS.F ht⟩) hS.2.2 dX2_doNext_237
    by_cases c_49 : y2_116 = 117
    · refine lv_lookup (tgt := 238) (off := 121) hx hb dX2_doNext_117 (by decide) (by rw [c_49]; rfl) (by decide) ?_
      have r_50 : rgI (117) (117) y2_116 := rg_w (rg_eq rl_117 c_49) (by decide) (by decide)
      refine lv_aload_n hx hb dX2_doNext_238 rfl (lv_at hl 0 rfl) ?_
      obtain ⟨_, ⟨q_52, q_53, q_54, q_55, q_56, rfl, kq_52, kq_53, kq_54⟩, o_c_51⟩ := hH h0 _ k_h0
      refine hg_get hx hb hG igX2 hown hK o_c_51 rfl 1 (by decide) (hG _ mw_273) rfl dX2_doNext_239 ?_
      refine lv_aload_n hx hb dX2_doNext_242 rfl (lv_at hl 0 rfl) ?_
      refine hg_get hx hb hG igX2 hown hK o_c_51 rfl 2 (by decide) (hG _ mw_274) rfl dX2_doNext_243 ?_
      obtain ⟨_, ⟨q_58, q_59, rfl⟩, o_c_57⟩ := hH q_54 _ kq_54
      refine hg_getN hx hb hG igX6 hown hK o_c_57 rfl 0 (by decide) ((hK.2.1 _ nwf_257).use rfl) rfl dX2_doNext_246 ?_
      refine lv_aload_n hx hb dX2_doNext_249 rfl (lv_at hl 0 rfl) ?_
      refine hg_get hx hb hG igX2 hown hK o_c_51 rfl 2 (by decide) (hG _ mw_274) rfl dX2_doNext_250 ?_
      refine hg_getN hx hb hG igX6 hown hK o_c_57 rfl 1 (by decide) ((hK.2.1 _ nwf_260).use rfl) rfl dX2_doNext_253 ?_
      obtain ⟨_, ⟨q_61, q_62, q_63, rfl, kq_61, kq_62, kq_63⟩, o_c_60⟩ := hH q_53 _ kq_53
      refine va_calli (va_runV (As := [.int q_58, .int q_59]) (rest := []) ⟨hx, hb, hml, hown, hts⟩ (c_X0_unmount l g Ty G H.size q_53 q_58 q_59 kq_53) (cwV 2 hts (gwV mw_898 mw_824 mw_825 mw_82 mw_826) rfl rfl rfl hv_X0_unmount ⟨Nat.le_of_ble_eq_true rfl, Nat.le_of_ble_eq_true rfl⟩) ⟨PcT_blind, hg_recv hK o_c_60 rfl, PcT_pre hK hH⟩ rfl rfl hl.1 rfl (lv_room (Nat.le_of_ble_eq_true rfl)) dX2_doNext_256 ⟨Nat.zero_le _, Nat.zero_le _⟩) hS (fun q _ h => AF.mono hS.1 h) (fun q h => AF.mono hS.1 h) (fun x_64 ux_64 t H locs ht hvm hx_64 hB hz hk hS => ?_)
      have hH : HT g Ty G H := by rw [← ht]; rw [hx_64] at hB; exact hB
      exact W.iret hx hb hr (fun t ht hWm => ⟨⟨x_64, (Ty, G), rfl, rfl, by show HT g Ty G t.heap; rw [ht]; exact hH⟩, hS.F ht⟩) hS.2.2 dX2_doNext_259
    by_cases c_65 : y2_116 = 118
    · refine lv_lookup (tgt := 260) (off := 143) hx hb dX2_doNext_117 (by decide) (by rw [c_65]; rfl) (by decide) ?_
      have r_66 : rgI (118) (118) y2_116 := rg_w (rg_eq rl_118 c_65) (by decide) (by decide)
      refine lv_aload_n hx hb dX2_doNext_260 rfl (lv_at hl 0 rfl) ?_
      obtain ⟨_, ⟨q_68, q_69, q_70, q_71, q_72, rfl, kq_68, kq_69, kq_70⟩, o_c_67⟩ := hH h0 _ k_h0
      refine hg_get hx hb hG igX2 hown hK o_c_67 rfl 1 (by decide) (hG _ mw_273) rfl dX2_doNext_261 ?_
      refine lv_iload hx hb dX2_doNext_264 (lv_at hl 3 rfl) ?_
      refine lv_aload_n hx hb dX2_doNext_266 rfl (lv_at hl 0 rfl) ?_
      refine hg_get hx hb hG igX2 hown hK o_c_67 rfl 2 (by decide) (hG _ mw_274) rfl dX2_doNext_267 ?_
      obtain ⟨_, ⟨q_74, q_75, rfl⟩, o_c_73⟩ := hH q_70 _ kq_70
      refine hg_getN hx hb hG igX6 hown hK o_c_73 rfl 0 (by decide) ((hK.2.1 _ nwf_257).use rfl) rfl dX2_doNext_270 ?_
      refine lv_aload_n hx hb dX2_doNext_273 rfl (lv_at hl 0 rfl) ?_
      refine hg_get hx hb hG igX2 hown hK o_c_67 rfl 2 (by decide) (hG _ mw_274) rfl dX2_doNext_274 ?_
      refine hg_getN hx hb hG igX6 hown hK o_c_73 rfl 1 (by decide) ((hK.2.1 _ nwf_260).use rfl) rfl dX2_doNext_277 ?_
      obtain ⟨_, ⟨q_77, q_78, q_79, rfl, kq_77, kq_78, kq_79⟩, o_c_76⟩ := hH q_69 _ kq_69
      refine va_calli (va_runV (As := [.int y4_116, .int q_74, .int q_75]) (rest := []) ⟨hx, hb, hml, hown, hts⟩ (c_X0_move l g Ty G H.size q_69 y4_116 q_74 q_75 kq_69) (cwV 3 hts (gwV mw_899 mw_841 mw_842 mw_82 mw_843) rfl rfl rfl hv_X0_move ⟨Nat.le_of_ble_eq_true rfl, Nat.le_of_ble_eq_true rfl⟩) ⟨PcT_blind, hg_recv hK o_c_76 rfl, PcT_pre hK hH⟩ rfl rfl hl.1 rfl (lv_room (Nat.le_of_ble_eq_true rfl)) dX2_doNext_280 ⟨Nat.zero_le _, Nat.zero_le _⟩) hS (fun q _ h => AF.mono hS.1 h) (fun q h => AF.mono hS.1 h) (fun x_80 ux_80 t H locs ht hvm hx_80 hB hz hk hS => ?_)
      have hH : HT g Ty G H := by rw [← ht]; rw [hx_80] at hB; exact hB
      exact W.iret hx hb hr (fun t ht hWm => ⟨⟨x_80, (Ty, G), rfl, rfl, by show HT g Ty G t.heap; rw [ht]; exact hH⟩, hS.F ht⟩) hS.2.2 dX2_doNext_283
    refine lv_lookup (tgt := 284) (off := 167) hx hb dX2_doNext_117 (by decide) ((lv_osw c_1 rfl).trans ((lv_osw c_17 rfl).trans ((lv_osw c_33 rfl).trans ((lv_osw c_49 rfl).trans ((lv_osw c_65 rfl).trans (rfl)))))) (by decide) ?_
    refine lv_aload_n hx hb dX2_doNext_284 rfl (lv_at hl 0 rfl) ?_
    obtain ⟨_, ⟨q_82, q_83, q_84, q_85, q_86, rfl, kq_82, kq_83, kq_84⟩, o_c_81⟩ := hH h0 _ k_h0
    refine hg_get hx hb hG igX2 hown hK o_c_81 rfl 1 (by decide) (hG _ mw_273) rfl dX2_doNext_285 ?_
    refine lv_iload hx hb dX2_doNext_288 (lv_at hl 3 rfl) ?_
    refine lv_iload_n hx hb dX2_doNext_290 rfl (lv_at hl 2 rfl) ?_
    obtain ⟨_, ⟨q_88, q_89, q_90, rfl, kq_88, kq_89, kq_90⟩, o_c_87⟩ := hH q_83 _ kq_83
    refine va_calli (va_runV (As := [.int y4_116, .int y3_116]) (rest := []) ⟨hx, hb, hml, hown, hts⟩ (c_X0_makeKind l g Ty G H.size q_83 y4_116 y3_116 kq_83) (cwV 2 hts (gwV mw_900 mw_793 mw_794 mw_82 mw_795) rfl rfl rfl hv_X0_makeKind ⟨Nat.le_of_ble_eq_true rfl, Nat.le_of_ble_eq_true rfl⟩) ⟨PcT_blind, hg_recv hK o_c_87 rfl, PcT_pre hK hH⟩ rfl rfl hl.1 rfl (lv_room (Nat.le_of_ble_eq_true rfl)) dX2_doNext_291 ⟨Nat.zero_le _, Nat.zero_le _⟩) hS (fun q _ h => AF.mono hS.1 h) (fun q h => AF.mono hS.1 h) (fun x_91 ux_91 t H locs ht hvm hx_91 hB hz hk hS => ?_)
    have hH : HT g Ty G H := by rw [← ht]; rw [hx_91] at hB; exact hB
    exact W.iret hx hb hr (fun t ht hWm => ⟨⟨x_91, (Ty, G), rfl, rfl, by show HT g Ty G t.heap; rw [ht]; exact hH⟩, hS.F ht⟩) hS.2.2 dX2_doNext_294
  have L_99 : ∀ (H : Heap) (locs : List Loc) (y2_99 : Int32) (y3_99 : Int32) (y4_99 : Int32) (z0_99 : Int32) (ls : Array Slot), rgI (0) (1) z0_99 → lv_has ls 6 [(0, .ref h0), (1, .ref b0), (2, .int y2_99), (3, .int y3_99), (4, .int y4_99)] → HT g Ty G H → va_S (AF Ty s.heap.size) s.heap H locs → Wm p l e (wsG yX2_doNext cX2_doNext 6 (some .int)) ({ frames := 29, cells := 0, slots := 0, locals := 799 }) s m [.ref h0, .ref b0] below meth c H locs (0) (0) (QwI g Ty s.heap.size (fun r u => u = (Ty, G))) 0 0 (AF Ty s.heap.size) (F0 m 99 ls [.int z0_99]) := by
    intro H locs y2_99 y3_99 y4_99 z0_99 ls rz0_99 hl hH hS
    refine lv_istore (lv' := [(5, .int z0_99), (0, .ref h0), (1, .ref b0), (2, .int y2_99), (3, .int y3_99), (4, .int y4_99)]) hx hb dX2_doNext_99 hl (by decide) rfl (fun ls hl => ?_)
    refine lv_iload hx hb dX2_doNext_101 (lv_at hl 0 rfl) ?_
    refine lv_if_eq (tgt := 116) hx hb dX2_doNext_103 (by decide) (fun c_92 => ?_) (fun c_92 => ?_)
    · have r_93 : rgI (0) (0) z0_99 := rg_w (rg_eq rl_0 c_92) (by decide) (by decide)
      exact L_116 H locs y2_99 y3_99 y4_99 ls (lv_sub hl [1, 3, 4, 5] rfl) hH hS
    · have r_94 : rgI (1) (1) z0_99 := rg_w (rg_neL rz0_99 rl_0 c_92) (by decide) (by decide)
      refine lv_aload_n hx hb dX2_doNext_106 rfl (lv_at hl 1 rfl) ?_
      refine lv_aload_n hx hb dX2_doNext_107 rfl (lv_at hl 2 rfl) ?_
      obtain ⟨_, ⟨q_96, q_97, q_98, q_99, q_100, rfl, kq_96, kq_97, kq_98⟩, o_c_95⟩ := hH h0 _ k_h0
      refine va_calli (va_runV (As := [.ref b0]) (rest := []) ⟨hx, hb, hml, hown, hts⟩ (c_X2_walks l g Ty G H.size h0 b0 k_h0 k_b0) (cwV 1 hts (gwV mw_889 mw_891 mw_21 mw_84 mw_892) rfl rfl rfl hv_X2_walks ⟨Nat.le_of_ble_eq_true rfl, Nat.le_of_ble_eq_true rfl⟩) ⟨PcT_blind, hg_recv hK o_c_95 rfl, PcT_pre hK hH⟩ rfl rfl hl.1 rfl (lv_room (Nat.le_of_ble_eq_true rfl)) dX2_doNext_108 ⟨Nat.zero_le _, Nat.zero_le _⟩) hS (fun q _ h => AF.mono hS.1 h) (fun q h => AF.mono hS.1 h) (fun x_101 ux_101 t H locs ht hvm hx_101 hB hz hk hS => ?_)
      obtain ⟨hx_101, fx_101⟩ := hx_101
      have hH : HT g Ty G H := by rw [← ht]; rw [fx_101] at hB; exact hB
      have rx_101 : rgI (0) (1) x_101 := hx_101
      refine lv_if_ne (tgt := 116) hx hb dX2_doNext_111 (by decide) (fun c_102 => ?_) (fun c_102 => ?_)
      · have r_103 : rgI (1) (1) x_101 := rg_w (rg_neL rx_101 rl_0 c_102) (by decide) (by decide)
        exact L_116 H locs y2_99 y3_99 y4_99 ls (lv_sub hl [1, 3, 4, 5] rfl) hH hS
      · have r_104 : rgI (0) (0) x_101 := rg_w (rg_eq rl_0 c_102) (by decide) (by decide)
        refine lv_iconst (v := (-1)) hx hb dX2_doNext_114 (by decide) ?_
        exact W.iret hx hb hr (fun t ht hWm => ⟨⟨(-1), (Ty, G), rfl, rfl, by show HT g Ty G t.heap; rw [ht]; exact hH⟩, hS.F ht⟩) hS.2.2 dX2_doNext_115
  have L_94 : ∀ (H : Heap) (locs : List Loc) (y2_94 : Int32) (y3_94 : Int32) (y4_94 : Int32) (ls : Array Slot), rgI (98) (118) y2_94 → lv_has ls 6 [(0, .ref h0), (1, .ref b0), (2, .int y2_94), (3, .int y3_94), (4, .int y4_94)] → HT g Ty G H → va_S (AF Ty s.heap.size) s.heap H locs → Wm p l e (wsG yX2_doNext cX2_doNext 6 (some .int)) ({ frames := 29, cells := 0, slots := 0, locals := 799 }) s m [.ref h0, .ref b0] below meth c H locs (0) (0) (QwI g Ty s.heap.size (fun r u => u = (Ty, G))) 0 0 (AF Ty s.heap.size) (F0 m 94 ls []) := by
    intro H locs y2_94 y3_94 y4_94 ls ry2_94 hl hH hS
    refine lv_iconst (v := 1) hx hb dX2_doNext_94 (by decide) ?_
    refine lv_goto (tgt := 99) hx hb dX2_doNext_95 (by decide) ?_
    exact L_99 H locs y2_94 y3_94 y4_94 1 ls (rg_w rl_1 (by decide) (by decide)) (lv_sub hl [0, 1, 2, 3, 4] rfl) hH hS
  have L_39 : ∀ (H : Heap) (locs : List Loc) (y2_39 : Int32) (y3_39 : Int32) (z0_39 : Int32) (z1_39 : Int32) (ls : Array Slot), rgI (1) (2) z0_39 → lv_has ls 6 [(0, .ref h0), (1, .ref b0), (2, .int y2_39), (3, .int y3_39)] → HT g Ty G H → va_S (AF Ty s.heap.size) s.heap H locs → Wm p l e (wsG yX2_doNext cX2_doNext 6 (some .int)) ({ frames := 29, cells := 0, slots := 0, locals := 799 }) s m [.ref h0, .ref b0] below meth c H locs (0) (0) (QwI g Ty s.heap.size (fun r u => u = (Ty, G))) 0 0 (AF Ty s.heap.size) (F0 m 39 ls [.int z0_39, .int z1_39, .ref h0]) := by
    intro H locs y2_39 y3_39 z0_39 z1_39 ls rz0_39 hl hH hS
    refine lv_iadd hx hb dX2_doNext_39 ?_
    refine lv_topi (fun x_105 ex_105 => ?_)
    obtain ⟨_, ⟨q_107, q_108, q_109, q_110, q_111, rfl, kq_107, kq_108, kq_109⟩, o_c_106⟩ := hH h0 _ k_h0
    refine hg_put (ty := .int) hx hb hG igX2 tyX2 tyX2_ok nmX2 hown hK hS o_c_106 (AF.of k_h0) rfl 4 (by decide) (hG _ mw_276) rfl (by decide +kernel) rfl rfl (Nat.le_of_ble_eq_true rfl) dX2_doNext_40 (fun H locs o_c_106 hz oq hS => ?_)
    have o_c_106 : va_at g.1 vwCl (h0, .inr (2, [.ref q_107, .ref q_108, .ref q_109, .int q_110, .int x_105])) H := o_c_106
    have hH : HT g Ty G H := hH.put k_h0 ⟨q_107, q_108, q_109, q_110, x_105, rfl, kq_107, kq_108, kq_109⟩ o_c_106 oq
    clear oq hz
    refine lv_aload_n hx hb dX2_doNext_43 rfl (lv_at hl 0 rfl) ?_
    refine lv_aload_n hx hb dX2_doNext_44 rfl (lv_at hl 1 rfl) ?_
    refine va_calli (va_runV (As := [.ref b0]) (rest := []) ⟨hx, hb, hml, hown, hts⟩ (c_X2_walks l g Ty G H.size h0 b0 k_h0 k_b0) (cwV 1 hts (gwV mw_889 mw_891 mw_21 mw_84 mw_892) rfl rfl rfl hv_X2_walks ⟨Nat.le_of_ble_eq_true rfl, Nat.le_of_ble_eq_true rfl⟩) ⟨PcT_blind, hg_recv hK o_c_106 rfl, PcT_pre hK hH⟩ rfl rfl hl.1 rfl (lv_room (Nat.le_of_ble_eq_true rfl)) dX2_doNext_45 ⟨Nat.zero_le _, Nat.zero_le _⟩) hS (fun q _ h => AF.mono hS.1 h) (fun q h => AF.mono hS.1 h) (fun x_112 ux_112 t H locs ht hvm hx_112 hB hz hk hS => ?_)
    obtain ⟨hx_112, fx_112⟩ := hx_112
    have hH : HT g Ty G H := by rw [← ht]; rw [fx_112] at hB; exact hB
    have rx_112 : rgI (0) (1) x_112 := hx_112
    refine lv_if_ne (tgt := 53) hx hb dX2_doNext_48 (by decide) (fun c_113 => ?_) (fun c_113 => ?_)
    · have r_114 : rgI (1) (1) x_112 := rg_w (rg_neL rx_112 rl_0 c_113) (by decide) (by decide)
      refine lv_aload_n hx hb dX2_doNext_53 rfl (lv_at hl 0 rfl) ?_
      obtain ⟨_, ⟨q_116, q_117, q_118, q_119, q_120, rfl, kq_116, kq_117, kq_118⟩, o_c_115⟩ := hH h0 _ k_h0
      refine hg_get hx hb hG igX2 hown hK o_c_115 rfl 0 (by decide) (hG _ mw_272) rfl dX2_doNext_54 ?_
      refine lv_aload_n hx hb dX2_doNext_57 rfl (lv_at hl 0 rfl) ?_
      refine hg_get hx hb hG igX2 hown hK o_c_115 rfl 2 (by decide) (hG _ mw_274) rfl dX2_doNext_58 ?_
      obtain ⟨_, ⟨q_122, q_123, rfl⟩, o_c_121⟩ := hH q_118 _ kq_118
      refine hg_getN hx hb hG igX6 hown hK o_c_121 rfl 0 (by decide) ((hK.2.1 _ nwf_257).use rfl) rfl dX2_doNext_61 ?_
      refine lv_aload_n hx hb dX2_doNext_64 rfl (lv_at hl 0 rfl) ?_
      refine hg_get hx hb hG igX2 hown hK o_c_115 rfl 2 (by decide) (hG _ mw_274) rfl dX2_doNext_65 ?_
      refine hg_getN hx hb hG igX6 hown hK o_c_121 rfl 1 (by decide) ((hK.2.1 _ nwf_260).use rfl) rfl dX2_doNext_68 ?_
      obtain ⟨_, ⟨q_125, q_126, q_127, q_128, q_129, q_130, q_131, rfl, kq_125, kq_126, kq_127⟩, o_c_124⟩ := hH q_116 _ kq_116
      refine vp_callSi (W.runV (As := [.int q_122, .int q_123]) (rest := []) ⟨hx, hb, hml, hown, hts⟩ (c_X10_mountAt l g Ty G q_116 q_122 q_123 kq_116) (cwV 2 hts (gwV mw_894 mw_579 mw_580 mw_77 mw_581) rfl rfl rfl hv_X10_mountAt ⟨Nat.le_of_ble_eq_true rfl, Nat.le_of_ble_eq_true rfl⟩) ⟨PcH_blind, hg_recv hK o_c_124 rfl, PcH_pre hK hH⟩ rfl rfl hl.1 rfl (lv_room (Nat.le_of_ble_eq_true rfl)) dX2_doNext_71 ⟨Nat.zero_le _, Nat.zero_le _⟩) (fun x_132 hx_132 => ?_)
      refine lv_istore (lv' := [(4, .int x_132), (0, .ref h0), (1, .ref b0), (2, .int y2_39), (3, .int y3_39)]) hx hb dX2_doNext_74 hl (by decide) rfl (fun ls hl => ?_)
      refine lv_iload_n hx hb dX2_doNext_76 rfl (lv_at hl 3 rfl) ?_
      refine lv_bipush (v := 98) hx hb dX2_doNext_77 (by decide) ?_
      refine lv_icmp_eq (tgt := 94) hx hb dX2_doNext_79 (by decide) (fun c_133 => ?_) (fun c_133 => ?_)
      · have r_134 : rgI (98) (98) y2_39 := rg_w (rg_eq rl_98 c_133) (by decide) (by decide)
        exact L_94 H locs y2_39 y3_39 x_132 ls (rg_w r_134 (by decide) (by decide)) (lv_sub hl [1, 2, 3, 4, 0] rfl) hH hS
      · refine lv_iload_n hx hb dX2_doNext_82 rfl (lv_at hl 3 rfl) ?_
        refine lv_bipush (v := 114) hx hb dX2_doNext_83 (by decide) ?_
        refine lv_icmp_eq (tgt := 94) hx hb dX2_doNext_85 (by decide) (fun c_135 => ?_) (fun c_135 => ?_)
        · have r_136 : rgI (114) (114) y2_39 := rg_w (rg_eq rl_114 c_135) (by decide) (by decide)
          exact L_94 H locs y2_39 y3_39 x_132 ls (rg_w r_136 (by decide) (by decide)) (lv_sub hl [1, 2, 3, 4, 0] rfl) hH hS
        · refine lv_iload_n hx hb dX2_doNext_88 rfl (lv_at hl 3 rfl) ?_
          refine lv_bipush (v := 118) hx hb dX2_doNext_89 (by decide) ?_
          refine lv_icmp_ne (tgt := 98) hx hb dX2_doNext_91 (by decide) (fun c_137 => ?_) (fun c_137 => ?_)
          · refine lv_iconst (v := 0) hx hb dX2_doNext_98 (by decide) ?_
            exact L_99 H locs y2_39 y3_39 x_132 0 ls (rg_w rl_0 (by decide) (by decide)) (lv_sub hl [1, 2, 3, 4, 0] rfl) hH hS
          · have r_138 : rgI (118) (118) y2_39 := rg_w (rg_eq rl_118 c_137) (by decide) (by decide)
            exact L_94 H locs y2_39 y3_39 x_132 ls (rg_w r_138 (by decide) (by decide)) (lv_sub hl [1, 2, 3, 4, 0] rfl) hH hS
    · have r_139 : rgI (0) (0) x_112 := rg_w (rg_eq rl_0 c_113) (by decide) (by decide)
      refine lv_iconst (v := (-1)) hx hb dX2_doNext_51 (by decide) ?_
      exact W.iret hx hb hr (fun t ht hWm => ⟨⟨(-1), (Ty, G), rfl, rfl, by show HT g Ty G t.heap; rw [ht]; exact hH⟩, hS.F ht⟩) hS.2.2 dX2_doNext_52
  refine lv_aload_n hx hb dX2_doNext_0 rfl (lv_at hl 1 rfl) ?_
  refine lv_aload_n hx hb dX2_doNext_1 rfl (lv_at hl 0 rfl) ?_
  obtain ⟨_, ⟨q_141, q_142, q_143, q_144, q_145, rfl, kq_141, kq_142, kq_143⟩, o_c_140⟩ := hH h0 _ k_h0
  refine hg_get hx hb hG igX2 hown hK o_c_140 rfl 4 (by decide) (hG _ mw_276) rfl dX2_doNext_2 ?_
  obtain ⟨_, ⟨q_147, rfl, kq_147, rq_148, t_149⟩, o_c_146⟩ := hH b0 _ k_b0
  refine vp_callSi (W.runV (As := [.int q_145]) (rest := []) ⟨hx, hb, hml, hown, hts⟩ (c_X9_signAt l g Ty G b0 q_145 k_b0) (cwV 1 hts (gwV mw_864 mw_428 mw_429 mw_79 mw_430) rfl rfl rfl hv_X9_signAt ⟨Nat.le_of_ble_eq_true rfl, Nat.le_of_ble_eq_true rfl⟩) ⟨PcH_blind, hg_recv hK o_c_146 rfl, PcH_pre hK hH⟩ rfl rfl hl.1 rfl (lv_room (Nat.le_of_ble_eq_true rfl)) dX2_doNext_5 ⟨Nat.zero_le _, Nat.zero_le _⟩) (fun x_150 hx_150 => ?_)
  refine lv_istore_n (lv' := [(2, .int x_150), (0, .ref h0), (1, .ref b0)]) hx hb dX2_doNext_8 rfl hl (by decide) rfl (fun ls hl => ?_)
  refine lv_aload_n hx hb dX2_doNext_9 rfl (lv_at hl 2 rfl) ?_
  refine lv_aload_n hx hb dX2_doNext_10 rfl (lv_at hl 1 rfl) ?_
  refine hg_get hx hb hG igX2 hown hK o_c_140 rfl 4 (by decide) (hG _ mw_276) rfl dX2_doNext_11 ?_
  refine lv_iconst (v := 1) hx hb dX2_doNext_14 (by decide) ?_
  refine lv_iadd hx hb dX2_doNext_15 ?_
  refine lv_topi (fun x_151 ex_151 => ?_)
  refine vp_callSi (W.runV (As := [.int x_151]) (rest := []) ⟨hx, hb, hml, hown, hts⟩ (c_X9_signAt l g Ty G b0 x_151 k_b0) (cwV 1 hts (gwV mw_864 mw_428 mw_429 mw_79 mw_430) rfl rfl rfl hv_X9_signAt ⟨Nat.le_of_ble_eq_true rfl, Nat.le_of_ble_eq_true rfl⟩) ⟨PcH_blind, hg_recv hK o_c_146 rfl, PcH_pre hK hH⟩ rfl rfl hl.1 rfl (lv_room (Nat.le_of_ble_eq_true rfl)) dX2_doNext_16 ⟨Nat.zero_le _, Nat.zero_le _⟩) (fun x_152 hx_152 => ?_)
  refine lv_bipush (v := 48) hx hb dX2_doNext_19 (by decide) ?_
  refine lv_isub hx hb dX2_doNext_21 ?_
  refine lv_topi (fun x_153 ex_153 => ?_)
  refine lv_istore_n (lv' := [(3, .int x_153), (2, .int x_150), (0, .ref h0), (1, .ref b0)]) hx hb dX2_doNext_22 rfl hl (by decide) rfl (fun ls hl => ?_)
  refine lv_aload_n hx hb dX2_doNext_23 rfl (lv_at hl 2 rfl) ?_
  refine lv_dup hx hb dX2_doNext_24 rfl ?_
  refine hg_get hx hb hG igX2 hown hK o_c_140 rfl 4 (by decide) (hG _ mw_276) rfl dX2_doNext_25 ?_
  refine lv_iload_n hx hb dX2_doNext_28 rfl (lv_at hl 1 rfl) ?_
  refine lv_bipush (v := 107) hx hb dX2_doNext_29 (by decide) ?_
  refine lv_icmp_ne (tgt := 38) hx hb dX2_doNext_31 (by decide) (fun c_154 => ?_) (fun c_154 => ?_)
  · refine lv_iconst (v := 1) hx hb dX2_doNext_38 (by decide) ?_
    exact L_39 s.heap [] x_150 x_153 1 q_145 ls (rg_w rl_1 (by decide) (by decide)) (lv_sub hl [2, 3, 1, 0] rfl) hH hS
  · have r_155 : rgI (107) (107) x_150 := rg_w (rg_eq rl_107 c_154) (by decide) (by decide)
    refine lv_iconst (v := 2) hx hb dX2_doNext_34 (by decide) ?_
    refine lv_goto (tgt := 39) hx hb dX2_doNext_35 (by decide) ?_
    exact L_39 s.heap [] x_150 x_153 2 q_145 ls (rg_w rl_2 (by decide) (by decide)) (lv_sub hl [2, 3, 1, 0] rfl) hH hS

set_option maxHeartbeats 4000000 in
set_option maxRecDepth 100000 in
theorem c_X11_nimber (l : Launch) (g : Gx) : ∀ (nr : Nat) (Ty : TyM) (G : Gh) (b0 : Nat) (a1 : Int32) (a2 : Int32) (a3 : Int32) (k_b0 : Ty b0 = some (20, 0)) (hm : (24 - a3.toInt).toNat < nr), Met l yX11_nimber (wsG yX11_nimber cX11_nimber 7 (some .int)) ({ frames := 1 + nr, cells := 0, slots := 0, locals := 24 + 26 * nr }) (PcH g Ty G [.ref b0, .int a1, .int a2, .int a3]) (vp_Si (fun r => True)) 0 0 (fun _ => False) := by
  intro nr
  induction nr with
  | zero => intro Ty G b0 a1 a2 a3 k_b0 hm; exact absurd hm (Nat.not_lt_zero _)
  | succ nr ihr =>
  intro Ty G b0 a1 a2 a3 k_b0 hm
  refine Met.ofW (cc := cX11_nimber) (maxL := 7) (ret := (some .int)) (by decide) rfl ?_
  intro p e s m args below meth c s₁ B hml hv
  obtain ⟨rfl, hK, hH⟩ := hv
  have hx := B.exec
  have hb := B.bytes
  have hr := B.returns
  have hts := atoms_spec (ws := (wsG yX11_nimber cX11_nimber 7 (some .int))) B.pre
  have hG : ∀ w ∈ GW, w.before ([.ref b0, .int a1, .int a2, .int a3] : List Value).toArray s = true := fun w h => hts w (List.mem_cons_of_mem _ h)
  have hown : s.vm.findClass RX11 = some m.cls := findClass_of_methodNamed B.named
  have hlocks := B.notSynchronized
  have hl := lv_entry [.ref b0, .int a1, .int a2, .int a3] (n := 7) (Nat.le_of_ble_eq_true rfl)
  rw [lg_entry_eq]
  generalize (lg_sl [.ref b0, .int a1, .int a2, .int a3] ++ List.replicate (7 - (lg_sl [.ref b0, .int a1, .int a2, .int a3]).length) Slot.unset).toArray = ls at hl ⊢
  have hl : lv_has ls 7 [(0, .ref b0), (1, .int a1), (2, .int a2), (3, .int a3)] := hl
  have L_63 : ∀ (y4_63 : Int32) (ls : Array Slot), lv_has ls 7 [(4, .int y4_63)] → Wm p l e (wsG yX11_nimber cX11_nimber 7 (some .int)) ({ frames := 1 + (nr + 1), cells := 0, slots := 0, locals := 24 + 26 * (nr + 1) }) s m [.ref b0, .int a1, .int a2, .int a3] below meth c s.heap [] (0) (0) (vp_Si (fun r => True)) 0 0 (fun _ => False) (F0 m 63 ls []) := by
    intro y4_63 ls hl
    refine lv_iload hx hb dX11_nimber_63 (lv_at hl 0 rfl) ?_
    exact W.iret hx hb hr (fun t ht hW => ⟨y4_63, rfl, trivial, ht⟩) (fun q h => by cases h) dX11_nimber_65
  have L_6 : ∀ (n : Nat) (y4_6 : Int32) (y5_6 : Int32) (ls : Array Slot), rgI (0) (4) y5_6 → (4 - (y5_6).toInt).toNat < n → lv_has ls 7 [(0, .ref b0), (1, .int a1), (2, .int a2), (3, .int a3), (4, .int y4_6), (5, .int y5_6)] → Wm p l e (wsG yX11_nimber cX11_nimber 7 (some .int)) ({ frames := 1 + (nr + 1), cells := 0, slots := 0, locals := 24 + 26 * (nr + 1) }) s m [.ref b0, .int a1, .int a2, .int a3] below meth c s.heap [] (0) (0) (vp_Si (fun r => True)) 0 0 (fun _ => False) (F0 m 6 ls []) := by
    intro n
    induction n with
    | zero => intro y4_6 y5_6 ls ry5_6 hm; exact absurd hm (Nat.not_lt_zero _)
    | succ n ih_6 =>
      intro y4_6 y5_6 ls ry5_6 hm_6 hl
      have L_57 : ∀ (y4_57 : Int32) (ls : Array Slot), rgI (-2147483648) (23) a3 → rgI (0) (3) y5_6 → lv_has ls 7 [(0, .ref b0), (1, .int a1), (2, .int a2), (3, .int a3), (4, .int y4_57), (5, .int y5_6)] → Wm p l e (wsG yX11_nimber cX11_nimber 7 (some .int)) ({ frames := 1 + (nr + 1), cells := 0, slots := 0, locals := 24 + 26 * (nr + 1) }) s m [.ref b0, .int a1, .int a2, .int a3] below meth c s.heap [] (0) (0) (vp_Si (fun r => True)) 0 0 (fun _ => False) (F0 m 57 ls []) := by
        intro y4_57 ls ry3_57 ry5_57 hl
        obtain ⟨x_1, ex_1⟩ : ∃ y : Int32, y = y5_6 + 1 := ⟨_, rfl⟩
        have rx_1 : rgI (1) (4) x_1 := by rw [ex_1]; exact rg_w (rg_add ry5_57 rl_1 (by decide) (by decide)) (by decide) (by decide)
        have qx_1 : x_1.toInt = (y5_6 : Int32).toInt + 1 := by rw [ex_1]; exact rg_addE ry5_57 rl_1 (by decide) (by decide)
        refine lv_iinc (v := x_1) (lv' := [(5, .int x_1), (0, .ref b0), (1, .int a1), (2, .int a2), (3, .int a3), (4, .int y4_57)]) hx hb dX11_nimber_57 hl (k := 5) rfl (by rw [ex_1]; rfl) (by decide) rfl (fun ls hl => ?_)
        refine lv_goto (tgt := 6) hx hb dX11_nimber_60 (by decide) ?_
        exact ih_6 y4_57 x_1 ls (rg_w rx_1 (by decide) (by decide)) (by have h1 := qx_1; have h2 := ry5_57.1; have h3 := ry5_57.2; have h4 := hm_6; omega) (lv_sub hl [1, 2, 3, 4, 5, 0] rfl)
      refine lv_iload hx hb dX11_nimber_6 (lv_at hl 5 rfl) ?_
      refine lv_iconst (v := 4) hx hb dX11_nimber_8 (by decide) ?_
      refine lv_icmp_ge (tgt := 63) hx hb dX11_nimber_9 (by decide) (fun c_2 => ?_) (fun c_2 => ?_)
      · have r_3 : rgI (4) (4) y5_6 := rg_w (rg_leR rl_4 ry5_6 c_2) (by decide) (by decide)
        exact L_63 y4_6 ls (lv_sub hl [4] rfl)
      · have r_4 : rgI (0) (3) y5_6 := rg_w (rg_ltL ry5_6 rl_4 (nle_lt c_2)) (by decide) (by decide)
        refine lv_iload_n hx hb dX11_nimber_12 rfl (lv_at hl 3 rfl) ?_
        refine lv_bipush (v := 24) hx hb dX11_nimber_13 (by decide) ?_
        refine lv_icmp_ge (tgt := 63) hx hb dX11_nimber_15 (by decide) (fun c_5 => ?_) (fun c_5 => ?_)
        · have r_6 : rgI (24) (2147483647) a3 := rg_w (rg_leR rl_24 (rg_top a3) c_5) (by decide) (by decide)
          exact L_63 y4_6 ls (lv_sub hl [4] rfl)
        · have r_7 : rgI (-2147483648) (23) a3 := rg_w (rg_ltL (rg_top a3) rl_24 (nle_lt c_5)) (by decide) (by decide)
          refine lv_aload_n hx hb dX11_nimber_18 rfl (lv_at hl 0 rfl) ?_
          refine lv_iload_n hx hb dX11_nimber_19 rfl (lv_at hl 1 rfl) ?_
          refine lv_iload hx hb dX11_nimber_20 (lv_at hl 5 rfl) ?_
          obtain ⟨_, ⟨q_9, q_10, q_11, q_12, q_13, q_14, q_15, rfl, kq_9, kq_10, kq_11⟩, o_c_8⟩ := hH b0 _ k_b0
          refine vp_callSi (W.runV (As := [.int a1, .int y5_6]) (rest := []) ⟨hx, hb, hml, hown, hts⟩ (c_X10_mountAt l g Ty G b0 a1 y5_6 k_b0) (cwV 2 hts (gwV mw_582 mw_579 mw_580 mw_77 mw_581) rfl rfl rfl hv_X10_mountAt ⟨Nat.le_trans (Nat.le_of_ble_eq_true rfl) (Nat.le_add_right 1 _), Nat.le_trans (Nat.le_of_ble_eq_true rfl) (Nat.le_add_right 24 _)⟩) ⟨PcH_blind, hg_recv hK o_c_8 rfl, PcH_pre hK hH⟩ rfl rfl hl.1 rfl (lv_room (Nat.le_of_ble_eq_true rfl)) dX11_nimber_22 ⟨Nat.zero_le _, Nat.zero_le _⟩) (fun x_16 hx_16 => ?_)
          refine lv_istore (lv' := [(6, .int x_16), (0, .ref b0), (1, .int a1), (2, .int a2), (3, .int a3), (4, .int y4_6), (5, .int y5_6)]) hx hb dX11_nimber_25 hl (by decide) rfl (fun ls hl => ?_)
          refine lv_iload hx hb dX11_nimber_27 (lv_at hl 0 rfl) ?_
          refine lv_bipush (v := 24) hx hb dX11_nimber_29 (by decide) ?_
          refine lv_icmp_eq (tgt := 57) hx hb dX11_nimber_31 (by decide) (fun c_17 => ?_) (fun c_17 => ?_)
          · have r_18 : rgI (24) (24) x_16 := rg_w (rg_eq rl_24 c_17) (by decide) (by decide)
            exact L_57 y4_6 ls r_7 r_4 (lv_sub hl [1, 2, 3, 4, 5, 6] rfl)
          · refine lv_iload hx hb dX11_nimber_34 (lv_at hl 0 rfl) ?_
            refine lv_iload_n hx hb dX11_nimber_36 rfl (lv_at hl 3 rfl) ?_
            refine lv_icmp_eq (tgt := 57) hx hb dX11_nimber_37 (by decide) (fun c_19 => ?_) (fun c_19 => ?_)
            · exact L_57 y4_6 ls r_7 r_4 (lv_sub hl [1, 2, 3, 4, 5, 6] rfl)
            · refine lv_iload hx hb dX11_nimber_40 (lv_at hl 5 rfl) ?_
              refine lv_aload_n hx hb dX11_nimber_42 rfl (lv_at hl 1 rfl) ?_
              refine lv_iload hx hb dX11_nimber_43 (lv_at hl 0 rfl) ?_
              refine lv_iload_n hx hb dX11_nimber_45 rfl (lv_at hl 3 rfl) ?_
              refine lv_iload_n hx hb dX11_nimber_46 rfl (lv_at hl 4 rfl) ?_
              refine lv_iconst (v := 1) hx hb dX11_nimber_47 (by decide) ?_
              refine lv_iadd hx hb dX11_nimber_48 ?_
              refine lv_topi (fun x_20 ex_20 => ?_)
              have rx_20 : rgI (-2147483647) (24) x_20 := by rw [ex_20]; exact rg_w (rg_add r_7 rl_1 (by decide) (by decide)) (by decide) (by decide)
              have qx_20 : x_20.toInt = (a3 : Int32).toInt + 1 := by rw [ex_20]; exact rg_addE r_7 rl_1 (by decide) (by decide)
              refine vp_callSi (W.runS (As := [.ref b0, .int x_16, .int a2, .int x_20]) (rest := [.int y4_6]) ⟨hx, hb, hml, hown, hts⟩ (ihr Ty G b0 x_16 a2 x_20 k_b0 (by have h1 := qx_20; have h2 := hm; have h3 := (r_7).2; omega)) (cwSx 4 hts hG (gwC mw_1130) mw_76 mw_1128 mw_1129 rfl rfl rfl hd_X11_nimber ⟨Nat.le_refl _, by show 26 + (24 + 26 * nr) ≤ 24 + 26 * (nr + 1); omega⟩) ⟨PcH_blind, PcH_pre hK hH⟩ rfl rfl hl.1 rfl (lv_room (Nat.le_of_ble_eq_true rfl)) dX11_nimber_49 ⟨Nat.zero_le _, Nat.zero_le _⟩) (fun x_21 hx_21 => ?_)
              refine lv_iconst (v := 1) hx hb dX11_nimber_52 (by decide) ?_
              refine lv_iadd hx hb dX11_nimber_53 ?_
              refine lv_topi (fun x_22 ex_22 => ?_)
              refine lv_ixor hx hb dX11_nimber_54 ?_
              refine lv_topi (fun x_23 ex_23 => ?_)
              refine lv_istore (lv' := [(4, .int x_23), (6, .int x_16), (0, .ref b0), (1, .int a1), (2, .int a2), (3, .int a3), (5, .int y5_6)]) hx hb dX11_nimber_55 hl (by decide) rfl (fun ls hl => ?_)
              exact L_57 x_23 ls r_7 r_4 (lv_sub hl [2, 3, 4, 5, 0, 6] rfl)
  refine lv_iconst (v := 0) hx hb dX11_nimber_0 (by decide) ?_
  refine lv_istore (lv' := [(4, .int 0), (0, .ref b0), (1, .int a1), (2, .int a2), (3, .int a3)]) hx hb dX11_nimber_1 hl (by decide) rfl (fun ls hl => ?_)
  refine lv_iconst (v := 0) hx hb dX11_nimber_3 (by decide) ?_
  refine lv_istore (lv' := [(5, .int 0), (4, .int 0), (0, .ref b0), (1, .int a1), (2, .int a2), (3, .int a3)]) hx hb dX11_nimber_4 hl (by decide) rfl (fun ls hl => ?_)
  exact L_6 _ 0 0 ls (rg_w rl_0 (by decide) (by decide)) (Nat.lt_succ_self _) (lv_sub hl [2, 3, 4, 5, 1, 0] rfl)

set_option maxHeartbeats 4000000 in
set_option maxRecDepth 100000 in
theorem c_X11_hacks (l : Launch) (g : Gx) (Ty : TyM) (G : Gh) (sz : Nat) (h0 : Nat) (a0 : Int32) (k_h0 : Ty h0 = some (21, 0)) : Met l yX11_hacks (wsG yX11_hacks cX11_hacks 4 (some .int)) ({ frames := 27, cells := 0, slots := 0, locals := 700 }) (PcT g Ty G sz [.ref h0, .int a0]) (QwI g Ty sz (fun r u => u = (Ty, G))) 0 0 (AF Ty sz) := by
  refine Met.ofW (cc := cX11_hacks) (maxL := 4) (ret := (some .int)) (by decide) rfl ?_
  intro p e s m args below meth c s₁ B hml hv
  obtain ⟨rfl, hsz, hK, hH⟩ := hv
  subst hsz
  have hx := B.exec
  have hb := B.bytes
  have hr := B.returns
  have hts := atoms_spec (ws := (wsG yX11_hacks cX11_hacks 4 (some .int))) B.pre
  have hG : ∀ w ∈ GW, w.before ([.ref h0, .int a0] : List Value).toArray s = true := fun w h => hts w (List.mem_cons_of_mem _ h)
  have hown : s.vm.findClass RX11 = some m.cls := findClass_of_methodNamed B.named
  have hlocks := B.notSynchronized
  have hl := lv_entry [.ref h0, .int a0] (n := 4) (Nat.le_of_ble_eq_true rfl)
  rw [lg_entry_eq]
  generalize (lg_sl [.ref h0, .int a0] ++ List.replicate (4 - (lg_sl [.ref h0, .int a0]).length) Slot.unset).toArray = ls at hl ⊢
  have hl : lv_has ls 4 [(0, .ref h0), (1, .int a0)] := hl
  have hS : va_S (AF Ty s.heap.size) s.heap s.heap [] := va_S.rf
  have L_99 : ∀ (H : Heap) (locs : List Loc) (ls : Array Slot), lv_has ls 4 [] → HT g Ty G H → va_S (AF Ty s.heap.size) s.heap H locs → Wm p l e (wsG yX11_hacks cX11_hacks 4 (some .int)) ({ frames := 27, cells := 0, slots := 0, locals := 700 }) s m [.ref h0, .int a0] below meth c H locs (0) (0) (QwI g Ty s.heap.size (fun r u => u = (Ty, G))) 0 0 (AF Ty s.heap.size) (F0 m 99 ls []) := by
    intro H locs ls hl hH hS
    refine lv_iconst (v := 1) hx hb dX11_hacks_99 (by decide) ?_
    exact W.iret hx hb hr (fun t ht hWm => ⟨⟨1, (Ty, G), rfl, rfl, by show HT g Ty G t.heap; rw [ht]; exact hH⟩, hS.F ht⟩) hS.2.2 dX11_hacks_100
  have L_47 : ∀ (n : Nat) (H : Heap) (locs : List Loc) (y2_47 : Int32) (y3_47 : Int32) (ls : Array Slot), rgI (0) (23) a0 → rgI (0) (24) y3_47 → (24 - (y3_47).toInt).toNat < n → lv_has ls 4 [(0, .ref h0), (1, .int a0), (2, .int y2_47), (3, .int y3_47)] → HT g Ty G H → va_S (AF Ty s.heap.size) s.heap H locs → Wm p l e (wsG yX11_hacks cX11_hacks 4 (some .int)) ({ frames := 27, cells := 0, slots := 0, locals := 700 }) s m [.ref h0, .int a0] below meth c H locs (0) (0) (QwI g Ty s.heap.size (fun r u => u = (Ty, G))) 0 0 (AF Ty s.heap.size) (F0 m 47 ls []) := by
    intro n
    induction n with
    | zero => intro H locs y2_47 y3_47 ls ry1_47 ry3_47 hm; exact absurd hm (Nat.not_lt_zero _)
    | succ n ih_47 =>
      intro H locs y2_47 y3_47 ls ry1_47 ry3_47 hm_47 hl hH hS
      have L_93 : ∀ (H : Heap) (locs : List Loc) (ls : Array Slot), rgI (0) (23) a0 → rgI (0) (23) y3_47 → lv_has ls 4 [(0, .ref h0), (1, .int a0), (2, .int y2_47), (3, .int y3_47)] → HT g Ty G H → va_S (AF Ty s.heap.size) s.heap H locs → Wm p l e (wsG yX11_hacks cX11_hacks 4 (some .int)) ({ frames := 27, cells := 0, slots := 0, locals := 700 }) s m [.ref h0, .int a0] below meth c H locs (0) (0) (QwI g Ty s.heap.size (fun r u => u = (Ty, G))) 0 0 (AF Ty s.heap.size) (F0 m 93 ls []) := by
        intro H locs ls ry1_93 ry3_93 hl hH hS
        obtain ⟨x_1, ex_1⟩ : ∃ y : Int32, y = y3_47 + 1 := ⟨_, rfl⟩
        have rx_1 : rgI (1) (24) x_1 := by rw [ex_1]; exact rg_w (rg_add ry3_93 rl_1 (by decide) (by decide)) (by decide) (by decide)
        have qx_1 : x_1.toInt = (y3_47 : Int32).toInt + 1 := by rw [ex_1]; exact rg_addE ry3_93 rl_1 (by decide) (by decide)
        refine lv_iinc (v := x_1) (lv' := [(3, .int x_1), (0, .ref h0), (1, .int a0), (2, .int y2_47)]) hx hb dX11_hacks_93 hl (k := 3) rfl (by rw [ex_1]; rfl) (by decide) rfl (fun ls hl => ?_)
        refine lv_goto (tgt := 47) hx hb dX11_hacks_96 (by decide) ?_
        exact ih_47 H locs y2_47 x_1 ls ry1_93 (rg_w rx_1 (by decide) (by decide)) (by have h1 := qx_1; have h2 := ry3_93.1; have h3 := ry3_93.2; have h4 := hm_47; omega) (lv_sub hl [1, 2, 3, 0] rfl) hH hS
      refine lv_iload_n hx hb dX11_hacks_47 rfl (lv_at hl 3 rfl) ?_
      refine lv_bipush (v := 24) hx hb dX11_hacks_48 (by decide) ?_
      refine lv_icmp_ge (tgt := 99) hx hb dX11_hacks_50 (by decide) (fun c_2 => ?_) (fun c_2 => ?_)
      · have r_3 : rgI (24) (24) y3_47 := rg_w (rg_leR rl_24 ry3_47 c_2) (by decide) (by decide)
        exact L_99 H locs ls (lv_sub hl [] rfl) hH hS
      · have r_4 : rgI (0) (23) y3_47 := rg_w (rg_ltL ry3_47 rl_24 (nle_lt c_2)) (by decide) (by decide)
        refine lv_aload_n hx hb dX11_hacks_53 rfl (lv_at hl 0 rfl) ?_
        obtain ⟨_, ⟨q_20, rfl, kq_6, kq_7, kq_8, kq_9, kq_10, kq_11, kq_12, kq_13, kq_14, kq_15, kq_16, kq_17, kq_18, kq_19⟩, o_c_5⟩ := hH h0 _ k_h0
        refine hg_get hx hb hG igX11 hown hK o_c_5 rfl 5 (by decide) (hG _ mw_362) rfl dX11_hacks_54 ?_
        obtain ⟨_, ⟨q_22, q_23, rfl, kq_22, rq_23⟩, o_c_21⟩ := hH (g.2.2 5) _ kq_11
        refine hg_getN hx hb hG igX7 hown hK o_c_21 rfl 1 (by decide) ((hK.2.1 _ nwf_189).use rfl) rfl dX11_hacks_57 ?_
        refine lv_if_ne (tgt := 99) hx hb dX11_hacks_60 (by decide) (fun c_24 => ?_) (fun c_24 => ?_)
        · have r_25 : rgI (1) (24) q_23 := rg_w (rg_neL rq_23 rl_0 c_24) (by decide) (by decide)
          exact L_99 H locs ls (lv_sub hl [] rfl) hH hS
        · have r_26 : rgI (0) (0) q_23 := rg_w (rg_eq rl_0 c_24) (by decide) (by decide)
          refine lv_iload_n hx hb dX11_hacks_63 rfl (lv_at hl 2 rfl) ?_
          refine lv_iconst (v := 1) hx hb dX11_hacks_64 (by decide) ?_
          refine lv_iload_n hx hb dX11_hacks_65 rfl (lv_at hl 3 rfl) ?_
          refine lv_ishl hx hb dX11_hacks_66 ?_
          refine lv_topi (fun x_27 ex_27 => ?_)
          refine lv_iand hx hb dX11_hacks_67 ?_
          refine lv_topi (fun x_28 ex_28 => ?_)
          refine lv_if_eq (tgt := 93) hx hb dX11_hacks_68 (by decide) (fun c_29 => ?_) (fun c_29 => ?_)
          · have r_30 : rgI (0) (0) x_28 := rg_w (rg_eq rl_0 c_29) (by decide) (by decide)
            exact L_93 H locs ls ry1_47 r_4 (lv_sub hl [0, 1, 2, 3] rfl) hH hS
          · refine lv_aload_n hx hb dX11_hacks_71 rfl (lv_at hl 0 rfl) ?_
            refine hg_get hx hb hG igX11 hown hK o_c_5 rfl 0 (by decide) (hG _ mw_357) rfl dX11_hacks_72 ?_
            refine lv_iload_n hx hb dX11_hacks_75 rfl (lv_at hl 1 rfl) ?_
            refine lv_iload_n hx hb dX11_hacks_76 rfl (lv_at hl 3 rfl) ?_
            refine lv_iconst (v := 0) hx hb dX11_hacks_77 (by decide) ?_
            refine vp_callSi (W.runS (As := [.ref (g.2.2 0), .int a0, .int y3_47, .int 0]) (rest := []) ⟨hx, hb, hml, hown, hts⟩ (c_X11_nimber l g 25 Ty G (g.2.2 0) a0 y3_47 0 kq_6 (by decide)) (cwSx 4 hts hG (gwC mw_1130) mw_76 mw_1128 mw_1129 rfl rfl rfl hd_X11_nimber ⟨Nat.le_of_ble_eq_true rfl, Nat.le_of_ble_eq_true rfl⟩) ⟨PcH_blind, PcH_pre hK hH⟩ rfl rfl hl.1 rfl (lv_room (Nat.le_of_ble_eq_true rfl)) dX11_hacks_78 ⟨Nat.zero_le _, Nat.zero_le _⟩) (fun x_31 hx_31 => ?_)
            refine lv_if_ne (tgt := 93) hx hb dX11_hacks_81 (by decide) (fun c_32 => ?_) (fun c_32 => ?_)
            · exact L_93 H locs ls ry1_47 r_4 (lv_sub hl [0, 1, 2, 3] rfl) hH hS
            · have r_33 : rgI (0) (0) x_31 := rg_w (rg_eq rl_0 c_32) (by decide) (by decide)
              refine lv_aload_n hx hb dX11_hacks_84 rfl (lv_at hl 0 rfl) ?_
              refine hg_get hx hb hG igX11 hown hK o_c_5 rfl 5 (by decide) (hG _ mw_362) rfl dX11_hacks_85 ?_
              refine lv_iload_n hx hb dX11_hacks_88 rfl (lv_at hl 3 rfl) ?_
              refine lv_i2l hx hb dX11_hacks_89 rfl ?_
              refine lv_topl (fun u_34 eu_34 => ?_)
              refine va_callv (va_runV (As := [.long u_34]) (rest := []) ⟨hx, hb, hml, hown, hts⟩ (c_X7_tell l g Ty G H.size (g.2.2 5) u_34 kq_11) (cwV 1 hts (gwV mw_583 mw_584 mw_585 mw_80 mw_586) rfl rfl rfl hv_X7_tell ⟨Nat.le_of_ble_eq_true rfl, Nat.le_of_ble_eq_true rfl⟩) ⟨PcT_blind, hg_recv hK o_c_21 rfl, PcT_pre hK hH⟩ rfl rfl hl.1 rfl (lv_room (Nat.le_of_ble_eq_true rfl)) dX11_hacks_90 ⟨Nat.zero_le _, Nat.zero_le _⟩) hS (fun q _ h => AF.mono hS.1 h) (fun q h => AF.mono hS.1 h) (fun ux_35 t H locs ht hvm hx_35 hB hz hk hS => ?_)
              have hH : HT g Ty G H := by rw [← ht]; rw [hx_35] at hB; exact hB
              exact L_93 H locs ls ry1_47 r_4 (lv_sub hl [0, 1, 2, 3] rfl) hH hS
  refine lv_aload_n hx hb dX11_hacks_0 rfl (lv_at hl 0 rfl) ?_
  obtain ⟨_, ⟨q_51, rfl, kq_37, kq_38, kq_39, kq_40, kq_41, kq_42, kq_43, kq_44, kq_45, kq_46, kq_47, kq_48, kq_49, kq_50⟩, o_c_36⟩ := hH h0 _ k_h0
  refine hg_get hx hb hG igX11 hown hK o_c_36 rfl 0 (by decide) (hG _ mw_357) rfl dX11_hacks_1 ?_
  refine lv_iload_n hx hb dX11_hacks_4 rfl (lv_at hl 1 rfl) ?_
  obtain ⟨_, ⟨q_53, q_54, q_55, q_56, q_57, q_58, q_59, rfl, kq_53, kq_54, kq_55⟩, o_c_52⟩ := hH (g.2.2 0) _ kq_37
  refine vp_callSi (W.runV (As := [.int a0]) (rest := []) ⟨hx, hb, hml, hown, hts⟩ (c_X10_has l g Ty G (g.2.2 0) a0 kq_37) (cwV 1 hts (gwV mw_603 mw_604 mw_605 mw_77 mw_606) rfl rfl rfl hv_X10_has ⟨Nat.le_of_ble_eq_true rfl, Nat.le_of_ble_eq_true rfl⟩) ⟨PcH_blind, hg_recv hK o_c_52 rfl, PcH_pre hK hH⟩ rfl rfl hl.1 rfl (lv_room (Nat.le_of_ble_eq_true rfl)) dX11_hacks_5 ⟨Nat.zero_le _, Nat.zero_le _⟩) (fun x_60 hx_60 => ?_)
  have rx_60 : rgI (0) (1) x_60 := hx_60.1
  refine lv_if_ne (tgt := 13) hx hb dX11_hacks_8 (by decide) (fun c_61 => ?_) (fun c_61 => ?_)
  · have r_62 : rgI (1) (1) x_60 := rg_w (rg_neL rx_60 rl_0 c_61) (by decide) (by decide)
    have r_63 : rgI (0) (23) a0 := rg_w (hx_60.2.resolve_left c_61) (by decide) (by decide)
    refine lv_aload_n hx hb dX11_hacks_13 rfl (lv_at hl 0 rfl) ?_
    refine hg_get hx hb hG igX11 hown hK o_c_36 rfl 5 (by decide) (hG _ mw_362) rfl dX11_hacks_14 ?_
    obtain ⟨_, ⟨q_65, q_66, rfl, kq_65, rq_66⟩, o_c_64⟩ := hH (g.2.2 5) _ kq_42
    refine va_callv (va_runV (As := []) (rest := []) ⟨hx, hb, hml, hown, hts⟩ (c_X7_clear l g Ty G s.heap.size (g.2.2 5) kq_42) (cwV 0 hts (gwV mw_932 mw_588 mw_589 mw_80 mw_590) rfl rfl rfl hv_X7_clear ⟨Nat.le_of_ble_eq_true rfl, Nat.le_of_ble_eq_true rfl⟩) ⟨PcT_blind, hg_recv hK o_c_64 rfl, PcT_pre hK hH⟩ rfl rfl hl.1 rfl (lv_room (Nat.le_of_ble_eq_true rfl)) dX11_hacks_17 ⟨Nat.zero_le _, Nat.zero_le _⟩) hS (fun q _ h => AF.mono hS.1 h) (fun q h => AF.mono hS.1 h) (fun ux_67 t H locs ht hvm hx_67 hB hz hk hS => ?_)
    have hH : HT g Ty G H := by rw [← ht]; rw [hx_67] at hB; exact hB
    refine lv_aload_n hx hb dX11_hacks_20 rfl (lv_at hl 0 rfl) ?_
    obtain ⟨_, ⟨q_83, rfl, kq_69, kq_70, kq_71, kq_72, kq_73, kq_74, kq_75, kq_76, kq_77, kq_78, kq_79, kq_80, kq_81, kq_82⟩, o_c_68⟩ := hH h0 _ k_h0
    refine hg_get hx hb hG igX11 hown hK o_c_68 rfl 0 (by decide) (hG _ mw_357) rfl dX11_hacks_21 ?_
    refine lv_iload_n hx hb dX11_hacks_24 rfl (lv_at hl 1 rfl) ?_
    refine lv_bipush (v := 24) hx hb dX11_hacks_25 (by decide) ?_
    refine lv_iconst (v := 0) hx hb dX11_hacks_27 (by decide) ?_
    refine vp_callSi (W.runS (As := [.ref (g.2.2 0), .int a0, .int 24, .int 0]) (rest := []) ⟨hx, hb, hml, hown, hts⟩ (c_X11_nimber l g 25 Ty G (g.2.2 0) a0 24 0 kq_69 (by decide)) (cwSx 4 hts hG (gwC mw_1130) mw_76 mw_1128 mw_1129 rfl rfl rfl hd_X11_nimber ⟨Nat.le_of_ble_eq_true rfl, Nat.le_of_ble_eq_true rfl⟩) ⟨PcH_blind, PcH_pre hK hH⟩ rfl rfl hl.1 rfl (lv_room (Nat.le_of_ble_eq_true rfl)) dX11_hacks_28 ⟨Nat.zero_le _, Nat.zero_le _⟩) (fun x_84 hx_84 => ?_)
    refine lv_if_ne (tgt := 36) hx hb dX11_hacks_31 (by decide) (fun c_85 => ?_) (fun c_85 => ?_)
    · refine lv_aload_n hx hb dX11_hacks_36 rfl (lv_at hl 0 rfl) ?_
      refine hg_get hx hb hG igX11 hown hK o_c_68 rfl 0 (by decide) (hG _ mw_357) rfl dX11_hacks_37 ?_
      refine lv_iload_n hx hb dX11_hacks_40 rfl (lv_at hl 1 rfl) ?_
      obtain ⟨_, ⟨q_87, q_88, q_89, q_90, q_91, q_92, q_93, rfl, kq_87, kq_88, kq_89⟩, o_c_86⟩ := hH (g.2.2 0) _ kq_69
      refine vp_callSi (W.runV (As := [.int a0]) (rest := []) ⟨hx, hb, hml, hown, hts⟩ (c_X10_allIn l g Ty G (g.2.2 0) a0 kq_69) (cwV 1 hts (gwV mw_957 mw_958 mw_959 mw_77 mw_960) rfl rfl rfl hv_X10_allIn ⟨Nat.le_of_ble_eq_true rfl, Nat.le_of_ble_eq_true rfl⟩) ⟨PcH_blind, hg_recv hK o_c_86 rfl, PcH_pre hK hH⟩ rfl rfl hl.1 rfl (lv_room (Nat.le_of_ble_eq_true rfl)) dX11_hacks_41 ⟨Nat.zero_le _, Nat.zero_le _⟩) (fun x_94 hx_94 => ?_)
      refine lv_istore_n (lv' := [(2, .int x_94), (0, .ref h0), (1, .int a0)]) hx hb dX11_hacks_44 rfl hl (by decide) rfl (fun ls hl => ?_)
      refine lv_iconst (v := 0) hx hb dX11_hacks_45 (by decide) ?_
      refine lv_istore_n (lv' := [(3, .int 0), (2, .int x_94), (0, .ref h0), (1, .int a0)]) hx hb dX11_hacks_46 rfl hl (by decide) rfl (fun ls hl => ?_)
      exact L_47 _ H locs x_94 0 ls r_63 (rg_w rl_0 (by decide) (by decide)) (Nat.lt_succ_self _) (lv_sub hl [2, 3, 1, 0] rfl) hH hS
    · have r_95 : rgI (0) (0) x_84 := rg_w (rg_eq rl_0 c_85) (by decide) (by decide)
      refine lv_iconst (v := 0) hx hb dX11_hacks_34 (by decide) ?_
      exact W.iret hx hb hr (fun t ht hWm => ⟨⟨0, (Ty, G), rfl, rfl, by show HT g Ty G t.heap; rw [ht]; exact hH⟩, hS.F ht⟩) hS.2.2 dX11_hacks_35
  · have r_96 : rgI (0) (0) x_60 := rg_w (rg_eq rl_0 c_61) (by decide) (by decide)
    refine lv_iconst (v := (-1)) hx hb dX11_hacks_11 (by decide) ?_
    exact W.iret hx hb hr (fun t ht hWm => ⟨⟨(-1), (Ty, G), rfl, rfl, by show HT g Ty G t.heap; rw [ht]; exact hH⟩, hS.F ht⟩) hS.2.2 dX11_hacks_12

set_option maxHeartbeats 4000000 in
set_option maxRecDepth 100000 in
theorem c_X11_differs (l : Launch) (g : Gx) : ∀ (nr : Nat) (Ty : TyM) (G : Gh) (sz : Nat) (h0 : Nat) (a0 : Int32) (a1 : Int32) (a2 : Int32) (k_h0 : Ty h0 = some (21, 0)) (hm : (24 - a2.toInt).toNat < nr), Met l yX11_differs (wsG yX11_differs cX11_differs 7 (some .boolean)) ({ frames := 1 + nr, cells := 0, slots := 0, locals := 24 + 26 * nr }) (PcT g Ty G sz [.ref h0, .int a0, .int a1, .int a2]) (QwI g Ty sz (fun r u => (rgI (0) (1) r) ∧ u = (Ty, G))) 0 0 (AF Ty sz) := by
  intro nr
  induction nr with
  | zero => intro Ty G sz h0 a0 a1 a2 k_h0 hm; exact absurd hm (Nat.not_lt_zero _)
  | succ nr ihr =>
  intro Ty G sz h0 a0 a1 a2 k_h0 hm
  refine Met.ofW (cc := cX11_differs) (maxL := 7) (ret := (some .boolean)) (by decide) rfl ?_
  intro p e s m args below meth c s₁ B hml hv
  obtain ⟨rfl, hsz, hK, hH⟩ := hv
  subst hsz
  have hx := B.exec
  have hb := B.bytes
  have hr := B.returns
  have hts := atoms_spec (ws := (wsG yX11_differs cX11_differs 7 (some .boolean))) B.pre
  have hG : ∀ w ∈ GW, w.before ([.ref h0, .int a0, .int a1, .int a2] : List Value).toArray s = true := fun w h => hts w (List.mem_cons_of_mem _ h)
  have hown : s.vm.findClass RX11 = some m.cls := findClass_of_methodNamed B.named
  have hlocks := B.notSynchronized
  have hl := lv_entry [.ref h0, .int a0, .int a1, .int a2] (n := 7) (Nat.le_of_ble_eq_true rfl)
  rw [lg_entry_eq]
  generalize (lg_sl [.ref h0, .int a0, .int a1, .int a2] ++ List.replicate (7 - (lg_sl [.ref h0, .int a0, .int a1, .int a2]).length) Slot.unset).toArray = ls at hl ⊢
  have hl : lv_has ls 7 [(0, .ref h0), (1, .int a0), (2, .int a1), (3, .int a2)] := hl
  have hS : va_S (AF Ty s.heap.size) s.heap s.heap [] := va_S.rf
  have L_11 : ∀ (n : Nat) (H : Heap) (locs : List Loc) (y4_11 : Int32) (ls : Array Slot), rgI (-2147483648) (23) a2 → rgI (0) (4) y4_11 → (4 - (y4_11).toInt).toNat < n → lv_has ls 7 [(0, .ref h0), (1, .int a0), (2, .int a1), (3, .int a2), (4, .int y4_11)] → HT g Ty G H → va_S (AF Ty s.heap.size) s.heap H locs → Wm p l e (wsG yX11_differs cX11_differs 7 (some .boolean)) ({ frames := 1 + (nr + 1), cells := 0, slots := 0, locals := 24 + 26 * (nr + 1) }) s m [.ref h0, .int a0, .int a1, .int a2] below meth c H locs (0) (0) (QwI g Ty s.heap.size (fun r u => (rgI (0) (1) r) ∧ u = (Ty, G))) 0 0 (AF Ty s.heap.size) (F0 m 11 ls []) := by
    intro n
    induction n with
    | zero => intro H locs y4_11 ls ry3_11 ry4_11 hm; exact absurd hm (Nat.not_lt_zero _)
    | succ n ih_11 =>
      intro H locs y4_11 ls ry3_11 ry4_11 hm_11 hl hH hS
      have L_103 : ∀ (H : Heap) (locs : List Loc) (ls : Array Slot), rgI (-2147483648) (23) a2 → rgI (0) (3) y4_11 → lv_has ls 7 [(0, .ref h0), (1, .int a0), (2, .int a1), (3, .int a2), (4, .int y4_11)] → HT g Ty G H → va_S (AF Ty s.heap.size) s.heap H locs → Wm p l e (wsG yX11_differs cX11_differs 7 (some .boolean)) ({ frames := 1 + (nr + 1), cells := 0, slots := 0, locals := 24 + 26 * (nr + 1) }) s m [.ref h0, .int a0, .int a1, .int a2] below meth c H locs (0) (0) (QwI g Ty s.heap.size (fun r u => (rgI (0) (1) r) ∧ u = (Ty, G))) 0 0 (AF Ty s.heap.size) (F0 m 103 ls []) := by
        intro H locs ls ry3_103 ry4_103 hl hH hS
        refine lv_aload_n hx hb dX11_differs_103 rfl (lv_at hl 0 rfl) ?_
        obtain ⟨_, ⟨q_16, rfl, kq_2, kq_3, kq_4, kq_5, kq_6, kq_7, kq_8, kq_9, kq_10, kq_11, kq_12, kq_13, kq_14, kq_15⟩, o_c_1⟩ := hH h0 _ k_h0
        refine hg_get hx hb hG igX11 hown hK o_c_1 rfl 5 (by decide) (hG _ mw_362) rfl dX11_differs_104 ?_
        obtain ⟨_, ⟨q_18, q_19, rfl, kq_18, rq_19⟩, o_c_17⟩ := hH (g.2.2 5) _ kq_7
        refine va_callv (va_runV (As := []) (rest := []) ⟨hx, hb, hml, hown, hts⟩ (c_X7_drop l g Ty G H.size (g.2.2 5) kq_7) (cwV 0 hts (gwV mw_982 mw_983 mw_984 mw_80 mw_985) rfl rfl rfl hv_X7_drop ⟨Nat.le_trans (Nat.le_of_ble_eq_true rfl) (Nat.le_add_right 1 _), Nat.le_trans (Nat.le_of_ble_eq_true rfl) (Nat.le_add_right 24 _)⟩) ⟨PcT_blind, hg_recv hK o_c_17 rfl, PcT_pre hK hH⟩ rfl rfl hl.1 rfl (lv_room (Nat.le_of_ble_eq_true rfl)) dX11_differs_107 ⟨Nat.zero_le _, Nat.zero_le _⟩) hS (fun q _ h => AF.mono hS.1 h) (fun q h => AF.mono hS.1 h) (fun ux_20 t H locs ht hvm hx_20 hB hz hk hS => ?_)
        have hH : HT g Ty G H := by rw [← ht]; rw [hx_20] at hB; exact hB
        obtain ⟨x_21, ex_21⟩ : ∃ y : Int32, y = y4_11 + 1 := ⟨_, rfl⟩
        have rx_21 : rgI (1) (4) x_21 := by rw [ex_21]; exact rg_w (rg_add ry4_103 rl_1 (by decide) (by decide)) (by decide) (by decide)
        have qx_21 : x_21.toInt = (y4_11 : Int32).toInt + 1 := by rw [ex_21]; exact rg_addE ry4_103 rl_1 (by decide) (by decide)
        refine lv_iinc (v := x_21) (lv' := [(4, .int x_21), (0, .ref h0), (1, .int a0), (2, .int a1), (3, .int a2)]) hx hb dX11_differs_110 hl (k := 4) rfl (by rw [ex_21]; rfl) (by decide) rfl (fun ls hl => ?_)
        refine lv_goto (tgt := 11) hx hb dX11_differs_113 (by decide) ?_
        exact ih_11 H locs x_21 ls ry3_103 (rg_w rx_21 (by decide) (by decide)) (by have h1 := qx_21; have h2 := ry4_103.1; have h3 := ry4_103.2; have h4 := hm_11; omega) (lv_sub hl [1, 2, 3, 4, 0] rfl) hH hS
      have L_75 : ∀ (H : Heap) (locs : List Loc) (y5_75 : Int32) (y6_75 : Int32) (z0_75 : Int32) (z1_75 : Int32) (ls : Array Slot), rgI (-2147483648) (23) a2 → rgI (0) (3) y4_11 → rgI (0) (1) z0_75 → rgI (0) (1) z1_75 → lv_has ls 7 [(0, .ref h0), (1, .int a0), (2, .int a1), (3, .int a2), (4, .int y4_11), (5, .int y5_75), (6, .int y6_75)] → HT g Ty G H → va_S (AF Ty s.heap.size) s.heap H locs → Wm p l e (wsG yX11_differs cX11_differs 7 (some .boolean)) ({ frames := 1 + (nr + 1), cells := 0, slots := 0, locals := 24 + 26 * (nr + 1) }) s m [.ref h0, .int a0, .int a1, .int a2] below meth c H locs (0) (0) (QwI g Ty s.heap.size (fun r u => (rgI (0) (1) r) ∧ u = (Ty, G))) 0 0 (AF Ty s.heap.size) (F0 m 75 ls [.int z0_75, .int z1_75]) := by
        intro H locs y5_75 y6_75 z0_75 z1_75 ls ry3_75 ry4_75 rz0_75 rz1_75 hl hH hS
        refine lv_icmp_eq (tgt := 80) hx hb dX11_differs_75 (by decide) (fun c_22 => ?_) (fun c_22 => ?_)
        · refine lv_iload hx hb dX11_differs_80 (lv_at hl 5 rfl) ?_
          refine lv_bipush (v := 24) hx hb dX11_differs_82 (by decide) ?_
          refine lv_icmp_eq (tgt := 103) hx hb dX11_differs_84 (by decide) (fun c_23 => ?_) (fun c_23 => ?_)
          · have r_24 : rgI (24) (24) y5_75 := rg_w (rg_eq rl_24 c_23) (by decide) (by decide)
            exact L_103 H locs ls ry3_75 ry4_75 (lv_sub hl [0, 1, 2, 3, 4] rfl) hH hS
          · refine lv_aload_n hx hb dX11_differs_87 rfl (lv_at hl 0 rfl) ?_
            refine lv_iload hx hb dX11_differs_88 (lv_at hl 5 rfl) ?_
            refine lv_iload hx hb dX11_differs_90 (lv_at hl 6 rfl) ?_
            refine lv_iload_n hx hb dX11_differs_92 rfl (lv_at hl 3 rfl) ?_
            refine lv_iconst (v := 1) hx hb dX11_differs_93 (by decide) ?_
            refine lv_iadd hx hb dX11_differs_94 ?_
            refine lv_topi (fun x_25 ex_25 => ?_)
            have rx_25 : rgI (-2147483647) (24) x_25 := by rw [ex_25]; exact rg_w (rg_add ry3_75 rl_1 (by decide) (by decide)) (by decide) (by decide)
            have qx_25 : x_25.toInt = (a2 : Int32).toInt + 1 := by rw [ex_25]; exact rg_addE ry3_75 rl_1 (by decide) (by decide)
            obtain ⟨_, ⟨q_41, rfl, kq_27, kq_28, kq_29, kq_30, kq_31, kq_32, kq_33, kq_34, kq_35, kq_36, kq_37, kq_38, kq_39, kq_40⟩, o_c_26⟩ := hH h0 _ k_h0
            refine va_calli (va_runV (As := [.int y5_75, .int y6_75, .int x_25]) (rest := []) ⟨hx, hb, hml, hown, hts⟩ (ihr Ty G H.size h0 y5_75 y6_75 x_25 k_h0 (by have h1 := qx_25; have h2 := hm; have h3 := (ry3_75).2; omega)) (cwV 3 hts (gwV mw_978 mw_980 mw_23 mw_76 mw_981) rfl rfl rfl hv_X11_differs ⟨Nat.le_refl _, by show 26 + (24 + 26 * nr) ≤ 24 + 26 * (nr + 1); omega⟩) ⟨PcT_blind, hg_recv hK o_c_26 rfl, PcT_pre hK hH⟩ rfl rfl hl.1 rfl (lv_room (Nat.le_of_ble_eq_true rfl)) dX11_differs_95 ⟨Nat.zero_le _, Nat.zero_le _⟩) hS (fun q _ h => AF.mono hS.1 h) (fun q h => AF.mono hS.1 h) (fun x_42 ux_42 t H locs ht hvm hx_42 hB hz hk hS => ?_)
            obtain ⟨hx_42, fx_42⟩ := hx_42
            have hH : HT g Ty G H := by rw [← ht]; rw [fx_42] at hB; exact hB
            have rx_42 : rgI (0) (1) x_42 := hx_42
            refine lv_if_eq (tgt := 103) hx hb dX11_differs_98 (by decide) (fun c_43 => ?_) (fun c_43 => ?_)
            · have r_44 : rgI (0) (0) x_42 := rg_w (rg_eq rl_0 c_43) (by decide) (by decide)
              exact L_103 H locs ls ry3_75 ry4_75 (lv_sub hl [0, 1, 2, 3, 4] rfl) hH hS
            · have r_45 : rgI (1) (1) x_42 := rg_w (rg_neL rx_42 rl_0 c_43) (by decide) (by decide)
              refine lv_iconst (v := 1) hx hb dX11_differs_101 (by decide) ?_
              exact W.zret hx hb hr rfl (fun t ht hWm => ⟨⟨1, (Ty, G), rfl, ⟨rg_w rl_1 (by decide) (by decide), rfl⟩, by show HT g Ty G t.heap; rw [ht]; exact hH⟩, hS.F ht⟩) hS.2.2 dX11_differs_102
        · refine lv_iconst (v := 1) hx hb dX11_differs_78 (by decide) ?_
          exact W.zret hx hb hr rfl (fun t ht hWm => ⟨⟨1, (Ty, G), rfl, ⟨rg_w rl_1 (by decide) (by decide), rfl⟩, by show HT g Ty G t.heap; rw [ht]; exact hH⟩, hS.F ht⟩) hS.2.2 dX11_differs_79
      have L_63 : ∀ (H : Heap) (locs : List Loc) (y5_63 : Int32) (y6_63 : Int32) (z0_63 : Int32) (ls : Array Slot), rgI (-2147483648) (23) a2 → rgI (0) (3) y4_11 → rgI (0) (1) z0_63 → lv_has ls 7 [(0, .ref h0), (1, .int a0), (2, .int a1), (3, .int a2), (4, .int y4_11), (5, .int y5_63), (6, .int y6_63)] → HT g Ty G H → va_S (AF Ty s.heap.size) s.heap H locs → Wm p l e (wsG yX11_differs cX11_differs 7 (some .boolean)) ({ frames := 1 + (nr + 1), cells := 0, slots := 0, locals := 24 + 26 * (nr + 1) }) s m [.ref h0, .int a0, .int a1, .int a2] below meth c H locs (0) (0) (QwI g Ty s.heap.size (fun r u => (rgI (0) (1) r) ∧ u = (Ty, G))) 0 0 (AF Ty s.heap.size) (F0 m 63 ls [.int z0_63]) := by
        intro H locs y5_63 y6_63 z0_63 ls ry3_63 ry4_63 rz0_63 hl hH hS
        refine lv_iload hx hb dX11_differs_63 (lv_at hl 6 rfl) ?_
        refine lv_bipush (v := 24) hx hb dX11_differs_65 (by decide) ?_
        refine lv_icmp_ne (tgt := 74) hx hb dX11_differs_67 (by decide) (fun c_46 => ?_) (fun c_46 => ?_)
        · refine lv_iconst (v := 0) hx hb dX11_differs_74 (by decide) ?_
          exact L_75 H locs y5_63 y6_63 0 z0_63 ls ry3_63 ry4_63 (rg_w rl_0 (by decide) (by decide)) rz0_63 (lv_sub hl [0, 1, 2, 3, 4, 5, 6] rfl) hH hS
        · have r_47 : rgI (24) (24) y6_63 := rg_w (rg_eq rl_24 c_46) (by decide) (by decide)
          refine lv_iconst (v := 1) hx hb dX11_differs_70 (by decide) ?_
          refine lv_goto (tgt := 75) hx hb dX11_differs_71 (by decide) ?_
          exact L_75 H locs y5_63 y6_63 1 z0_63 ls ry3_63 ry4_63 (rg_w rl_1 (by decide) (by decide)) rz0_63 (lv_sub hl [0, 1, 2, 3, 4, 5, 6] rfl) hH hS
      refine lv_iload hx hb dX11_differs_11 (lv_at hl 4 rfl) ?_
      refine lv_iconst (v := 4) hx hb dX11_differs_13 (by decide) ?_
      refine lv_icmp_ge (tgt := 116) hx hb dX11_differs_14 (by decide) (fun c_48 => ?_) (fun c_48 => ?_)
      · have r_49 : rgI (4) (4) y4_11 := rg_w (rg_leR rl_4 ry4_11 c_48) (by decide) (by decide)
        refine lv_iconst (v := 0) hx hb dX11_differs_116 (by decide) ?_
        exact W.zret hx hb hr rfl (fun t ht hWm => ⟨⟨0, (Ty, G), rfl, ⟨rg_w rl_0 (by decide) (by decide), rfl⟩, by show HT g Ty G t.heap; rw [ht]; exact hH⟩, hS.F ht⟩) hS.2.2 dX11_differs_117
      · have r_50 : rgI (0) (3) y4_11 := rg_w (rg_ltL ry4_11 rl_4 (nle_lt c_48)) (by decide) (by decide)
        refine lv_aload_n hx hb dX11_differs_17 rfl (lv_at hl 0 rfl) ?_
        obtain ⟨_, ⟨q_66, rfl, kq_52, kq_53, kq_54, kq_55, kq_56, kq_57, kq_58, kq_59, kq_60, kq_61, kq_62, kq_63, kq_64, kq_65⟩, o_c_51⟩ := hH h0 _ k_h0
        refine hg_get hx hb hG igX11 hown hK o_c_51 rfl 0 (by decide) (hG _ mw_357) rfl dX11_differs_18 ?_
        refine lv_iload_n hx hb dX11_differs_21 rfl (lv_at hl 1 rfl) ?_
        refine lv_iload hx hb dX11_differs_22 (lv_at hl 4 rfl) ?_
        obtain ⟨_, ⟨q_68, q_69, q_70, q_71, q_72, q_73, q_74, rfl, kq_68, kq_69, kq_70⟩, o_c_67⟩ := hH (g.2.2 0) _ kq_52
        refine vp_callSi (W.runV (As := [.int a0, .int y4_11]) (rest := []) ⟨hx, hb, hml, hown, hts⟩ (c_X10_mountAt l g Ty G (g.2.2 0) a0 y4_11 kq_52) (cwV 2 hts (gwV mw_582 mw_579 mw_580 mw_77 mw_581) rfl rfl rfl hv_X10_mountAt ⟨Nat.le_trans (Nat.le_of_ble_eq_true rfl) (Nat.le_add_right 1 _), Nat.le_trans (Nat.le_of_ble_eq_true rfl) (Nat.le_add_right 24 _)⟩) ⟨PcH_blind, hg_recv hK o_c_67 rfl, PcH_pre hK hH⟩ rfl rfl hl.1 rfl (lv_room (Nat.le_of_ble_eq_true rfl)) dX11_differs_24 ⟨Nat.zero_le _, Nat.zero_le _⟩) (fun x_75 hx_75 => ?_)
        refine lv_istore (lv' := [(5, .int x_75), (0, .ref h0), (1, .int a0), (2, .int a1), (3, .int a2), (4, .int y4_11)]) hx hb dX11_differs_27 hl (by decide) rfl (fun ls hl => ?_)
        refine lv_aload_n hx hb dX11_differs_29 rfl (lv_at hl 1 rfl) ?_
        refine hg_get hx hb hG igX11 hown hK o_c_51 rfl 0 (by decide) (hG _ mw_357) rfl dX11_differs_30 ?_
        refine lv_iload_n hx hb dX11_differs_33 rfl (lv_at hl 3 rfl) ?_
        refine lv_iload hx hb dX11_differs_34 (lv_at hl 5 rfl) ?_
        refine vp_callSi (W.runV (As := [.int a1, .int y4_11]) (rest := []) ⟨hx, hb, hml, hown, hts⟩ (c_X10_mountAt l g Ty G (g.2.2 0) a1 y4_11 kq_52) (cwV 2 hts (gwV mw_582 mw_579 mw_580 mw_77 mw_581) rfl rfl rfl hv_X10_mountAt ⟨Nat.le_trans (Nat.le_of_ble_eq_true rfl) (Nat.le_add_right 1 _), Nat.le_trans (Nat.le_of_ble_eq_true rfl) (Nat.le_add_right 24 _)⟩) ⟨PcH_blind, hg_recv hK o_c_67 rfl, PcH_pre hK hH⟩ rfl rfl hl.1 rfl (lv_room (Nat.le_of_ble_eq_true rfl)) dX11_differs_36 ⟨Nat.zero_le _, Nat.zero_le _⟩) (fun x_76 hx_76 => ?_)
        refine lv_istore (lv' := [(6, .int x_76), (5, .int x_75), (0, .ref h0), (1, .int a0), (2, .int a1), (3, .int a2), (4, .int y4_11)]) hx hb dX11_differs_39 hl (by decide) rfl (fun ls hl => ?_)
        refine lv_aload_n hx hb dX11_differs_41 rfl (lv_at hl 2 rfl) ?_
        refine hg_get hx hb hG igX11 hown hK o_c_51 rfl 5 (by decide) (hG _ mw_362) rfl dX11_differs_42 ?_
        refine lv_iload hx hb dX11_differs_45 (lv_at hl 6 rfl) ?_
        refine lv_i2l hx hb dX11_differs_47 rfl ?_
        refine lv_topl (fun u_77 eu_77 => ?_)
        obtain ⟨_, ⟨q_79, q_80, rfl, kq_79, rq_80⟩, o_c_78⟩ := hH (g.2.2 5) _ kq_57
        refine va_callv (va_runV (As := [.long u_77]) (rest := []) ⟨hx, hb, hml, hown, hts⟩ (c_X7_add l g Ty G H.size (g.2.2 5) u_77 kq_57) (cwV 1 hts (gwV mw_938 mw_592 mw_593 mw_80 mw_594) rfl rfl rfl hv_X7_add ⟨Nat.le_trans (Nat.le_of_ble_eq_true rfl) (Nat.le_add_right 1 _), Nat.le_trans (Nat.le_of_ble_eq_true rfl) (Nat.le_add_right 24 _)⟩) ⟨PcT_blind, hg_recv hK o_c_78 rfl, PcT_pre hK hH⟩ rfl rfl hl.1 rfl (lv_room (Nat.le_of_ble_eq_true rfl)) dX11_differs_48 ⟨Nat.zero_le _, Nat.zero_le _⟩) hS (fun q _ h => AF.mono hS.1 h) (fun q h => AF.mono hS.1 h) (fun ux_81 t H locs ht hvm hx_81 hB hz hk hS => ?_)
        have hH : HT g Ty G H := by rw [← ht]; rw [hx_81] at hB; exact hB
        refine lv_iload hx hb dX11_differs_51 (lv_at hl 1 rfl) ?_
        refine lv_bipush (v := 24) hx hb dX11_differs_53 (by decide) ?_
        refine lv_icmp_ne (tgt := 62) hx hb dX11_differs_55 (by decide) (fun c_82 => ?_) (fun c_82 => ?_)
        · refine lv_iconst (v := 0) hx hb dX11_differs_62 (by decide) ?_
          exact L_63 H locs x_75 x_76 0 ls ry3_11 r_50 (rg_w rl_0 (by decide) (by decide)) (lv_sub hl [2, 3, 4, 5, 6, 1, 0] rfl) hH hS
        · have r_83 : rgI (24) (24) x_75 := rg_w (rg_eq rl_24 c_82) (by decide) (by decide)
          refine lv_iconst (v := 1) hx hb dX11_differs_58 (by decide) ?_
          refine lv_goto (tgt := 63) hx hb dX11_differs_59 (by decide) ?_
          exact L_63 H locs x_75 x_76 1 ls ry3_11 r_50 (rg_w rl_1 (by decide) (by decide)) (lv_sub hl [2, 3, 4, 5, 6, 1, 0] rfl) hH hS
  refine lv_iload_n hx hb dX11_differs_0 rfl (lv_at hl 3 rfl) ?_
  refine lv_bipush (v := 24) hx hb dX11_differs_1 (by decide) ?_
  refine lv_icmp_lt (tgt := 8) hx hb dX11_differs_3 (by decide) (fun c_84 => ?_) (fun c_84 => ?_)
  · have r_85 : rgI (-2147483648) (23) a2 := rg_w (rg_ltL (rg_top a2) rl_24 c_84) (by decide) (by decide)
    refine lv_iconst (v := 0) hx hb dX11_differs_8 (by decide) ?_
    refine lv_istore (lv' := [(4, .int 0), (0, .ref h0), (1, .int a0), (2, .int a1), (3, .int a2)]) hx hb dX11_differs_9 hl (by decide) rfl (fun ls hl => ?_)
    exact L_11 _ s.heap [] 0 ls r_85 (rg_w rl_0 (by decide) (by decide)) (Nat.lt_succ_self _) (lv_sub hl [1, 2, 3, 4, 0] rfl) hH hS
  · have r_86 : rgI (24) (2147483647) a2 := rg_w (rg_leR rl_24 (rg_top a2) (nlt_le c_84)) (by decide) (by decide)
    refine lv_iconst (v := 0) hx hb dX11_differs_6 (by decide) ?_
    exact W.zret hx hb hr rfl (fun t ht hWm => ⟨⟨0, (Ty, G), rfl, ⟨rg_w rl_0 (by decide) (by decide), rfl⟩, by show HT g Ty G t.heap; rw [ht]; exact hH⟩, hS.F ht⟩) hS.2.2 dX11_differs_7

set_option maxHeartbeats 4000000 in
set_option maxRecDepth 100000 in
theorem c_X11_alike (l : Launch) (g : Gx) (Ty : TyM) (G : Gh) (sz : Nat) (h0 : Nat) (a0 : Int32) (a1 : Int32) (k_h0 : Ty h0 = some (21, 0)) : Met l yX11_alike (wsG yX11_alike cX11_alike 3 (some .int)) ({ frames := 27, cells := 0, slots := 0, locals := 700 }) (PcT g Ty G sz [.ref h0, .int a0, .int a1]) (QwI g Ty sz (fun r u => u = (Ty, G))) 0 0 (AF Ty sz) := by
  refine Met.ofW (cc := cX11_alike) (maxL := 3) (ret := (some .int)) (by decide) rfl ?_
  intro p e s m args below meth c s₁ B hml hv
  obtain ⟨rfl, hsz, hK, hH⟩ := hv
  subst hsz
  have hx := B.exec
  have hb := B.bytes
  have hr := B.returns
  have hts := atoms_spec (ws := (wsG yX11_alike cX11_alike 3 (some .int))) B.pre
  have hG : ∀ w ∈ GW, w.before ([.ref h0, .int a0, .int a1] : List Value).toArray s = true := fun w h => hts w (List.mem_cons_of_mem _ h)
  have hown : s.vm.findClass RX11 = some m.cls := findClass_of_methodNamed B.named
  have hlocks := B.notSynchronized
  have hl := lv_entry [.ref h0, .int a0, .int a1] (n := 3) (Nat.le_of_ble_eq_true rfl)
  rw [lg_entry_eq]
  generalize (lg_sl [.ref h0, .int a0, .int a1] ++ List.replicate (3 - (lg_sl [.ref h0, .int a0, .int a1]).length) Slot.unset).toArray = ls at hl ⊢
  have hl : lv_has ls 3 [(0, .ref h0), (1, .int a0), (2, .int a1)] := hl
  have hS : va_S (AF Ty s.heap.size) s.heap s.heap [] := va_S.rf
  have L_22 : ∀ (H : Heap) (locs : List Loc) (ls : Array Slot), lv_has ls 3 [] → HT g Ty G H → va_S (AF Ty s.heap.size) s.heap H locs → Wm p l e (wsG yX11_alike cX11_alike 3 (some .int)) ({ frames := 27, cells := 0, slots := 0, locals := 700 }) s m [.ref h0, .int a0, .int a1] below meth c H locs (0) (0) (QwI g Ty s.heap.size (fun r u => u = (Ty, G))) 0 0 (AF Ty s.heap.size) (F0 m 22 ls []) := by
    intro H locs ls hl hH hS
    refine lv_iconst (v := (-1)) hx hb dX11_alike_22 (by decide) ?_
    exact W.iret hx hb hr (fun t ht hWm => ⟨⟨(-1), (Ty, G), rfl, rfl, by show HT g Ty G t.heap; rw [ht]; exact hH⟩, hS.F ht⟩) hS.2.2 dX11_alike_23
  refine lv_aload_n hx hb dX11_alike_0 rfl (lv_at hl 0 rfl) ?_
  obtain ⟨_, ⟨q_16, rfl, kq_2, kq_3, kq_4, kq_5, kq_6, kq_7, kq_8, kq_9, kq_10, kq_11, kq_12, kq_13, kq_14, kq_15⟩, o_c_1⟩ := hH h0 _ k_h0
  refine hg_get hx hb hG igX11 hown hK o_c_1 rfl 0 (by decide) (hG _ mw_357) rfl dX11_alike_1 ?_
  refine lv_iload_n hx hb dX11_alike_4 rfl (lv_at hl 1 rfl) ?_
  obtain ⟨_, ⟨q_18, q_19, q_20, q_21, q_22, q_23, q_24, rfl, kq_18, kq_19, kq_20⟩, o_c_17⟩ := hH (g.2.2 0) _ kq_2
  refine vp_callSi (W.runV (As := [.int a0]) (rest := []) ⟨hx, hb, hml, hown, hts⟩ (c_X10_has l g Ty G (g.2.2 0) a0 kq_2) (cwV 1 hts (gwV mw_603 mw_604 mw_605 mw_77 mw_606) rfl rfl rfl hv_X10_has ⟨Nat.le_of_ble_eq_true rfl, Nat.le_of_ble_eq_true rfl⟩) ⟨PcH_blind, hg_recv hK o_c_17 rfl, PcH_pre hK hH⟩ rfl rfl hl.1 rfl (lv_room (Nat.le_of_ble_eq_true rfl)) dX11_alike_5 ⟨Nat.zero_le _, Nat.zero_le _⟩) (fun x_25 hx_25 => ?_)
  have rx_25 : rgI (0) (1) x_25 := hx_25.1
  refine lv_if_eq (tgt := 22) hx hb dX11_alike_8 (by decide) (fun c_26 => ?_) (fun c_26 => ?_)
  · have r_27 : rgI (0) (0) x_25 := rg_w (rg_eq rl_0 c_26) (by decide) (by decide)
    exact L_22 s.heap [] ls (lv_sub hl [] rfl) hH hS
  · have r_28 : rgI (1) (1) x_25 := rg_w (rg_neL rx_25 rl_0 c_26) (by decide) (by decide)
    have r_29 : rgI (0) (23) a0 := rg_w (hx_25.2.resolve_left c_26) (by decide) (by decide)
    refine lv_aload_n hx hb dX11_alike_11 rfl (lv_at hl 0 rfl) ?_
    refine hg_get hx hb hG igX11 hown hK o_c_1 rfl 0 (by decide) (hG _ mw_357) rfl dX11_alike_12 ?_
    refine lv_iload_n hx hb dX11_alike_15 rfl (lv_at hl 2 rfl) ?_
    refine vp_callSi (W.runV (As := [.int a1]) (rest := []) ⟨hx, hb, hml, hown, hts⟩ (c_X10_has l g Ty G (g.2.2 0) a1 kq_2) (cwV 1 hts (gwV mw_603 mw_604 mw_605 mw_77 mw_606) rfl rfl rfl hv_X10_has ⟨Nat.le_of_ble_eq_true rfl, Nat.le_of_ble_eq_true rfl⟩) ⟨PcH_blind, hg_recv hK o_c_17 rfl, PcH_pre hK hH⟩ rfl rfl hl.1 rfl (lv_room (Nat.le_of_ble_eq_true rfl)) dX11_alike_16 ⟨Nat.zero_le _, Nat.zero_le _⟩) (fun x_30 hx_30 => ?_)
    have rx_30 : rgI (0) (1) x_30 := hx_30.1
    refine lv_if_ne (tgt := 24) hx hb dX11_alike_19 (by decide) (fun c_31 => ?_) (fun c_31 => ?_)
    · have r_32 : rgI (1) (1) x_30 := rg_w (rg_neL rx_30 rl_0 c_31) (by decide) (by decide)
      have r_33 : rgI (0) (23) a1 := rg_w (hx_30.2.resolve_left c_31) (by decide) (by decide)
      refine lv_aload_n hx hb dX11_alike_24 rfl (lv_at hl 0 rfl) ?_
      refine hg_get hx hb hG igX11 hown hK o_c_1 rfl 5 (by decide) (hG _ mw_362) rfl dX11_alike_25 ?_
      obtain ⟨_, ⟨q_35, q_36, rfl, kq_35, rq_36⟩, o_c_34⟩ := hH (g.2.2 5) _ kq_7
      refine va_callv (va_runV (As := []) (rest := []) ⟨hx, hb, hml, hown, hts⟩ (c_X7_clear l g Ty G s.heap.size (g.2.2 5) kq_7) (cwV 0 hts (gwV mw_932 mw_588 mw_589 mw_80 mw_590) rfl rfl rfl hv_X7_clear ⟨Nat.le_of_ble_eq_true rfl, Nat.le_of_ble_eq_true rfl⟩) ⟨PcT_blind, hg_recv hK o_c_34 rfl, PcT_pre hK hH⟩ rfl rfl hl.1 rfl (lv_room (Nat.le_of_ble_eq_true rfl)) dX11_alike_28 ⟨Nat.zero_le _, Nat.zero_le _⟩) hS (fun q _ h => AF.mono hS.1 h) (fun q h => AF.mono hS.1 h) (fun ux_37 t H locs ht hvm hx_37 hB hz hk hS => ?_)
      have hH : HT g Ty G H := by rw [← ht]; rw [hx_37] at hB; exact hB
      refine lv_aload_n hx hb dX11_alike_31 rfl (lv_at hl 0 rfl) ?_
      refine lv_iload_n hx hb dX11_alike_32 rfl (lv_at hl 1 rfl) ?_
      refine lv_iload_n hx hb dX11_alike_33 rfl (lv_at hl 2 rfl) ?_
      refine lv_iconst (v := 0) hx hb dX11_alike_34 (by decide) ?_
      obtain ⟨_, ⟨q_53, rfl, kq_39, kq_40, kq_41, kq_42, kq_43, kq_44, kq_45, kq_46, kq_47, kq_48, kq_49, kq_50, kq_51, kq_52⟩, o_c_38⟩ := hH h0 _ k_h0
      refine va_calli (va_runV (As := [.int a0, .int a1, .int 0]) (rest := []) ⟨hx, hb, hml, hown, hts⟩ (c_X11_differs l g 25 Ty G H.size h0 a0 a1 0 k_h0 (by decide)) (cwV 3 hts (gwV mw_978 mw_980 mw_23 mw_76 mw_981) rfl rfl rfl hv_X11_differs ⟨Nat.le_of_ble_eq_true rfl, Nat.le_of_ble_eq_true rfl⟩) ⟨PcT_blind, hg_recv hK o_c_38 rfl, PcT_pre hK hH⟩ rfl rfl hl.1 rfl (lv_room (Nat.le_of_ble_eq_true rfl)) dX11_alike_35 ⟨Nat.zero_le _, Nat.zero_le _⟩) hS (fun q _ h => AF.mono hS.1 h) (fun q h => AF.mono hS.1 h) (fun x_54 ux_54 t H locs ht hvm hx_54 hB hz hk hS => ?_)
      obtain ⟨hx_54, fx_54⟩ := hx_54
      have hH : HT g Ty G H := by rw [← ht]; rw [fx_54] at hB; exact hB
      have rx_54 : rgI (0) (1) x_54 := hx_54
      refine lv_if_eq (tgt := 45) hx hb dX11_alike_38 (by decide) (fun c_55 => ?_) (fun c_55 => ?_)
      · have r_56 : rgI (0) (0) x_54 := rg_w (rg_eq rl_0 c_55) (by decide) (by decide)
        refine lv_iconst (v := 1) hx hb dX11_alike_45 (by decide) ?_
        exact W.iret hx hb hr (fun t ht hWm => ⟨⟨1, (Ty, G), rfl, rfl, by show HT g Ty G t.heap; rw [ht]; exact hH⟩, hS.F ht⟩) hS.2.2 dX11_alike_46
      · have r_57 : rgI (1) (1) x_54 := rg_w (rg_neL rx_54 rl_0 c_55) (by decide) (by decide)
        refine lv_iconst (v := 0) hx hb dX11_alike_41 (by decide) ?_
        refine lv_goto (tgt := 46) hx hb dX11_alike_42 (by decide) ?_
        exact W.iret hx hb hr (fun t ht hWm => ⟨⟨0, (Ty, G), rfl, rfl, by show HT g Ty G t.heap; rw [ht]; exact hH⟩, hS.F ht⟩) hS.2.2 dX11_alike_46
    · have r_58 : rgI (0) (0) x_30 := rg_w (rg_eq rl_0 c_31) (by decide) (by decide)
      exact L_22 s.heap [] ls (lv_sub hl [] rfl) hH hS
