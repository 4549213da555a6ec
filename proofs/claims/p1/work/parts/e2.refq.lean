def F_X12_refusesMove_x (r0 : Nat → Int32) (a1 : Int32) (a2 : Int32) (a3 : Int32) : Int32 := (if (F_X12_isThere r0 a1) = (0 : Int32) then (-1 : Int32) else (if (F_X12_isThere r0 a2) = (0 : Int32) then (-1 : Int32) else (if (F_X12_isDir a3) = (0 : Int32) then (-1 : Int32) else (if (F_X12_atOf r0 a2 a3) = (24 : Int32) then (if a1 = (0 : Int32) then (-3 : Int32) else (if a2 = a1 then (-3 : Int32) else (if (F_X12_isIn r0 a2 a1) = (0 : Int32) then (if (r0 (Int32.toNatClampNeg ((48 : Int32) + (r0 (Int32.toNatClampNeg a1))))) = (0 : Int32) then (if (r0 (Int32.toNatClampNeg ((48 : Int32) + a2))) = (0 : Int32) then (0 : Int32) else (-6 : Int32)) else (-5 : Int32)) else (-3 : Int32)))) else (-2 : Int32)))))
set_option maxHeartbeats 4000000 in
set_option maxRecDepth 100000 in
theorem c_X12_refusesMove_x (l : Launch) (g : Gx) (Ty : TyM) (G : Gh) (b0 : Nat) (a1 : Int32) (a2 : Int32) (a3 : Int32) (k_b0 : Ty b0 = some (30, 122)) (ρ : Nat → Nat) (hT : P1 (G.2.1 b0) ρ) : Met l yX12_refusesMove (wsG yX12_refusesMove cX12_refusesMove 4 (some .int)) ({ frames := 2, cells := 0, slots := 0, locals := 43 }) (PcH g Ty G [.ref b0, .int a1, .int a2, .int a3]) (vp_Si (fun r => rgI (-6) (0) r ∧ (r = 0 → (thr (G.2.1 b0) a1 ∧ thr (G.2.1 b0) a2 ∧ rgI 0 3 a3 ∧ ¬ a1 = 0 ∧ ¬ a2 = a1 ∧ F_X12_isIn (G.2.1 b0) a2 a1 = 0)) ∧ r = F_X12_refusesMove_x (G.2.1 b0) a1 a2 a3)) 0 0 (fun _ => False) := by
  refine Met.ofW (cc := cX12_refusesMove) (maxL := 4) (ret := (some .int)) (by decide) rfl ?_
  intro p e s m args below meth c s₁ B hml hv
  obtain ⟨rfl, hK, hH⟩ := hv
  have hx := B.exec
  have hb := B.bytes
  have hr := B.returns
  have hts := atoms_spec (ws := (wsG yX12_refusesMove cX12_refusesMove 4 (some .int))) B.pre
  have hG : ∀ w ∈ GW, w.before ([.ref b0, .int a1, .int a2, .int a3] : List Value).toArray s = true := fun w h => hts w (List.mem_cons_of_mem _ h)
  have hown : s.vm.findClass RX12 = some m.cls := findClass_of_methodNamed B.named
  have hlocks := B.notSynchronized
  have hl := lv_entry [.ref b0, .int a1, .int a2, .int a3] (n := 4) (Nat.le_of_ble_eq_true rfl)
  rw [lg_entry_eq]
  generalize (lg_sl [.ref b0, .int a1, .int a2, .int a3] ++ List.replicate (4 - (lg_sl [.ref b0, .int a1, .int a2, .int a3]).length) Slot.unset).toArray = ls at hl ⊢
  have hl : lv_has ls 4 [(0, .ref b0), (1, .int a1), (2, .int a2), (3, .int a3)] := hl
  have hv : (if (F_X12_isThere (G.2.1 b0) a1) = (0 : Int32) then (-1 : Int32) else (if (F_X12_isThere (G.2.1 b0) a2) = (0 : Int32) then (-1 : Int32) else (if (F_X12_isDir a3) = (0 : Int32) then (-1 : Int32) else (if (F_X12_atOf (G.2.1 b0) a2 a3) = (24 : Int32) then (if a1 = (0 : Int32) then (-3 : Int32) else (if a2 = a1 then (-3 : Int32) else (if (F_X12_isIn (G.2.1 b0) a2 a1) = (0 : Int32) then (if ((G.2.1 b0) (Int32.toNatClampNeg ((48 : Int32) + ((G.2.1 b0) (Int32.toNatClampNeg a1))))) = (0 : Int32) then (if ((G.2.1 b0) (Int32.toNatClampNeg ((48 : Int32) + a2))) = (0 : Int32) then (0 : Int32) else (-6 : Int32)) else (-5 : Int32)) else (-3 : Int32)))) else (-2 : Int32))))) = F_X12_refusesMove_x (G.2.1 b0) a1 a2 a3 := rfl
  refine lv_aload_n hx hb dX12_refusesMove_0 rfl (lv_at hl 0 rfl) ?_
  refine lv_iload_n hx hb dX12_refusesMove_1 rfl (lv_at hl 1 rfl) ?_
  refine vp_callSi (W.runS (As := [.ref b0, .int a1]) (rest := []) ⟨hx, hb, hml, hown, hts⟩ (c_X12_isThere l g Ty G b0 a1 k_b0) (cwSx 2 hts hG (gwC mw_1520) mw_88 mw_1518 mw_1519 rfl rfl rfl hd_X12_isThere ⟨Nat.le_of_ble_eq_true rfl, Nat.le_of_ble_eq_true rfl⟩) ⟨PcH_blind, PcH_pre hK hH⟩ rfl rfl hl.1 rfl (lv_room (Nat.le_of_ble_eq_true rfl)) dX12_refusesMove_2 ⟨Nat.zero_le _, Nat.zero_le _⟩) (fun x_1 hx_1 => ?_)
  have rx_1 : rgI (0) (1) x_1 := hx_1.1
  try rw [← hx_1.2.2] at hv
  try rw [← hx_1.2.2] at hv
  refine lv_if_eq (tgt := 23) hx hb dX12_refusesMove_5 (by decide) (fun c_2 => ?_) (fun c_2 => ?_)
  · rw [if_pos c_2] at hv
    have r_3 : rgI (0) (0) x_1 := rg_w (rg_eq rl_0 c_2) (by decide) (by decide)
    refine lv_iconst (v := (-1)) hx hb dX12_refusesMove_23 (by decide) ?_
    exact W.iret hx hb hr (fun t ht hW => ⟨(-1), rfl, ⟨rg_w rl_m1 (by decide) (by decide), (fun q => absurd q (by decide)), hv⟩, ht⟩) (fun q h => by cases h) dX12_refusesMove_24
  · rw [if_neg c_2] at hv
    have th_4 : thr (G.2.1 b0) a1 := F_isThere_thr (by rw [← hx_1.2.2]; exact c_2)
    have r_5 : rgI (1) (1) x_1 := rg_w (rg_neL rx_1 rl_0 c_2) (by decide) (by decide)
    have r_6 : rgI (0) (23) a1 := rg_w (hx_1.2.1.resolve_left c_2) (by decide) (by decide)
    refine lv_aload_n hx hb dX12_refusesMove_8 rfl (lv_at hl 0 rfl) ?_
    refine lv_iload_n hx hb dX12_refusesMove_9 rfl (lv_at hl 2 rfl) ?_
    refine vp_callSi (W.runS (As := [.ref b0, .int a2]) (rest := []) ⟨hx, hb, hml, hown, hts⟩ (c_X12_isThere l g Ty G b0 a2 k_b0) (cwSx 2 hts hG (gwC mw_1520) mw_88 mw_1518 mw_1519 rfl rfl rfl hd_X12_isThere ⟨Nat.le_of_ble_eq_true rfl, Nat.le_of_ble_eq_true rfl⟩) ⟨PcH_blind, PcH_pre hK hH⟩ rfl rfl hl.1 rfl (lv_room (Nat.le_of_ble_eq_true rfl)) dX12_refusesMove_10 ⟨Nat.zero_le _, Nat.zero_le _⟩) (fun x_7 hx_7 => ?_)
    have rx_7 : rgI (0) (1) x_7 := hx_7.1
    try rw [← hx_7.2.2] at hv
    try rw [← hx_7.2.2] at hv
    refine lv_if_eq (tgt := 23) hx hb dX12_refusesMove_13 (by decide) (fun c_8 => ?_) (fun c_8 => ?_)
    · rw [if_pos c_8] at hv
      have r_9 : rgI (0) (0) x_7 := rg_w (rg_eq rl_0 c_8) (by decide) (by decide)
      refine lv_iconst (v := (-1)) hx hb dX12_refusesMove_23 (by decide) ?_
      exact W.iret hx hb hr (fun t ht hW => ⟨(-1), rfl, ⟨rg_w rl_m1 (by decide) (by decide), (fun q => absurd q (by decide)), hv⟩, ht⟩) (fun q h => by cases h) dX12_refusesMove_24
    · rw [if_neg c_8] at hv
      have th_10 : thr (G.2.1 b0) a2 := F_isThere_thr (by rw [← hx_7.2.2]; exact c_8)
      have r_11 : rgI (1) (1) x_7 := rg_w (rg_neL rx_7 rl_0 c_8) (by decide) (by decide)
      have r_12 : rgI (0) (23) a2 := rg_w (hx_7.2.1.resolve_left c_8) (by decide) (by decide)
      refine lv_iload_n hx hb dX12_refusesMove_16 rfl (lv_at hl 3 rfl) ?_
      refine vp_callSi (W.runS (As := [.int a3]) (rest := []) ⟨hx, hb, hml, hown, hts⟩ (c_X12_isDir l g Ty G a3 ) (cwSx 1 hts hG (gwC mw_1537) mw_88 mw_1535 mw_1536 rfl rfl rfl hd_X12_isDir ⟨Nat.le_of_ble_eq_true rfl, Nat.le_of_ble_eq_true rfl⟩) ⟨PcH_blind, PcH_pre hK hH⟩ rfl rfl hl.1 rfl (lv_room (Nat.le_of_ble_eq_true rfl)) dX12_refusesMove_17 ⟨Nat.zero_le _, Nat.zero_le _⟩) (fun x_13 hx_13 => ?_)
      have rx_13 : rgI (0) (1) x_13 := hx_13.1
      try rw [← hx_13.2] at hv
      try rw [← hx_13.2] at hv
      refine lv_if_ne (tgt := 25) hx hb dX12_refusesMove_20 (by decide) (fun c_14 => ?_) (fun c_14 => ?_)
      · rw [if_neg c_14] at hv
        have r_15 : rgI (1) (1) x_13 := rg_w (rg_neL rx_13 rl_0 c_14) (by decide) (by decide)
        have r_16 : rgI (0) (3) a3 := rg_w (F_isDir_rg (by rw [← hx_13.2]; exact c_14)) (by decide) (by decide)
        refine lv_aload_n hx hb dX12_refusesMove_25 rfl (lv_at hl 0 rfl) ?_
        refine lv_iload_n hx hb dX12_refusesMove_26 rfl (lv_at hl 2 rfl) ?_
        refine lv_iload_n hx hb dX12_refusesMove_27 rfl (lv_at hl 3 rfl) ?_
        refine vp_callSi (W.runS (As := [.ref b0, .int a2, .int a3]) (rest := []) ⟨hx, hb, hml, hown, hts⟩ (c_X12_atOf l g Ty G b0 a2 a3 k_b0) (cwSx 3 hts hG (gwC mw_1509) mw_88 mw_1507 mw_1508 rfl rfl rfl hd_X12_atOf ⟨Nat.le_of_ble_eq_true rfl, Nat.le_of_ble_eq_true rfl⟩) ⟨PcH_blind, PcH_pre hK hH⟩ rfl rfl hl.1 rfl (lv_room (Nat.le_of_ble_eq_true rfl)) dX12_refusesMove_28 ⟨Nat.zero_le _, Nat.zero_le _⟩) (fun x_17 hx_17 => ?_)
        have rx_17 : rgI (1) (24) x_17 := hx_17.1
        try rw [← hx_17.2] at hv
        try rw [← hx_17.2] at hv
        refine lv_bipush (v := 24) hx hb dX12_refusesMove_31 (by decide) ?_
        refine lv_icmp_eq (tgt := 39) hx hb dX12_refusesMove_33 (by decide) (fun c_18 => ?_) (fun c_18 => ?_)
        · rw [if_pos c_18] at hv
          have r_19 : rgI (24) (24) x_17 := rg_w (rg_eq rl_24 c_18) (by decide) (by decide)
          refine lv_iload_n hx hb dX12_refusesMove_39 rfl (lv_at hl 1 rfl) ?_
          refine lv_if_eq (tgt := 57) hx hb dX12_refusesMove_40 (by decide) (fun c_20 => ?_) (fun c_20 => ?_)
          · rw [if_pos c_20] at hv
            have r_21 : rgI (0) (0) a1 := rg_w (rg_eq rl_0 c_20) (by decide) (by decide)
            refine lv_bipush (v := (-3)) hx hb dX12_refusesMove_57 (by decide) ?_
            exact W.iret hx hb hr (fun t ht hW => ⟨(-3), rfl, ⟨rg_w rl_m3 (by decide) (by decide), (fun q => absurd q (by decide)), hv⟩, ht⟩) (fun q h => by cases h) dX12_refusesMove_59
          · rw [if_neg c_20] at hv
            have r_22 : rgI (1) (23) a1 := rg_w (rg_neL r_6 rl_0 c_20) (by decide) (by decide)
            refine lv_iload_n hx hb dX12_refusesMove_43 rfl (lv_at hl 2 rfl) ?_
            refine lv_iload_n hx hb dX12_refusesMove_44 rfl (lv_at hl 1 rfl) ?_
            refine lv_icmp_eq (tgt := 57) hx hb dX12_refusesMove_45 (by decide) (fun c_23 => ?_) (fun c_23 => ?_)
            · rw [if_pos c_23] at hv
              have r_24 : rgI (1) (23) a2 := rg_w (rg_eq r_22 c_23) (by decide) (by decide)
              refine lv_bipush (v := (-3)) hx hb dX12_refusesMove_57 (by decide) ?_
              exact W.iret hx hb hr (fun t ht hW => ⟨(-3), rfl, ⟨rg_w rl_m3 (by decide) (by decide), (fun q => absurd q (by decide)), hv⟩, ht⟩) (fun q h => by cases h) dX12_refusesMove_59
            · rw [if_neg c_23] at hv
              refine lv_aload_n hx hb dX12_refusesMove_48 rfl (lv_at hl 0 rfl) ?_
              refine lv_iload_n hx hb dX12_refusesMove_49 rfl (lv_at hl 2 rfl) ?_
              refine lv_iload_n hx hb dX12_refusesMove_50 rfl (lv_at hl 1 rfl) ?_
              refine vp_callSi (W.runS (As := [.ref b0, .int a2, .int a1]) (rest := []) ⟨hx, hb, hml, hown, hts⟩ (c_X12_isIn l g Ty G b0 a2 a1 k_b0 ρ hT th_10) (cwSx 3 hts hG (gwC mw_1676) mw_88 mw_1674 mw_1675 rfl rfl rfl hd_X12_isIn ⟨Nat.le_of_ble_eq_true rfl, Nat.le_of_ble_eq_true rfl⟩) ⟨PcH_blind, PcH_pre hK hH⟩ rfl rfl hl.1 rfl (lv_room (Nat.le_of_ble_eq_true rfl)) dX12_refusesMove_51 ⟨Nat.zero_le _, Nat.zero_le _⟩) (fun x_25 hx_25 => ?_)
              have rx_25 : rgI (0) (1) x_25 := hx_25.1
              try rw [← hx_25.2] at hv
              try rw [← hx_25.2] at hv
              refine lv_if_eq (tgt := 60) hx hb dX12_refusesMove_54 (by decide) (fun c_26 => ?_) (fun c_26 => ?_)
              · rw [if_pos c_26] at hv
                have r_27 : rgI (0) (0) x_25 := rg_w (rg_eq rl_0 c_26) (by decide) (by decide)
                refine lv_aload_n hx hb dX12_refusesMove_60 rfl (lv_at hl 0 rfl) ?_
                refine lv_bipush (v := 48) hx hb dX12_refusesMove_61 (by decide) ?_
                refine lv_aload_n hx hb dX12_refusesMove_63 rfl (lv_at hl 0 rfl) ?_
                refine lv_iload_n hx hb dX12_refusesMove_64 rfl (lv_at hl 1 rfl) ?_
                obtain ⟨_, rfl, o_c_28⟩ := hH b0 _ k_b0
                have o_c_28 : va_at g.1 vwCl (b0, .inl (g.2.1 1, 122, .inl (G.2.1 b0))) s.heap := o_c_28
                refine hg_iald hx hb hK o_c_28 (rg_in (n := 122) r_22 (by decide) (by decide)) dX12_refusesMove_65 ?_
                refine lv_topi (fun x_29 ex_29 => ?_)
                try rw [← ex_29] at hv
                have tpx_29 : thr (G.2.1 b0) x_29 := by rw [ex_29]; exact (hT.2.1 _ th_4 c_20).1
                refine lv_iadd hx hb dX12_refusesMove_66 ?_
                refine lv_topi (fun x_30 ex_30 => ?_)
                try rw [← ex_30] at hv
                have rx_30 : rgI (48) (71) x_30 := by rw [ex_30]; exact rg_w (rg_add rl_48 tpx_29.1 (by decide) (by decide)) (by decide) (by decide)
                refine hg_iald hx hb hK o_c_28 (rg_in (n := 122) rx_30 (by decide) (by decide)) dX12_refusesMove_67 ?_
                refine lv_topi (fun x_31 ex_31 => ?_)
                try rw [← ex_31] at hv
                refine lv_if_eq (tgt := 74) hx hb dX12_refusesMove_68 (by decide) (fun c_32 => ?_) (fun c_32 => ?_)
                · rw [if_pos c_32] at hv
                  have r_33 : rgI (0) (0) x_31 := rg_w (rg_eq rl_0 c_32) (by decide) (by decide)
                  refine lv_aload_n hx hb dX12_refusesMove_74 rfl (lv_at hl 0 rfl) ?_
                  refine lv_bipush (v := 48) hx hb dX12_refusesMove_75 (by decide) ?_
                  refine lv_iload_n hx hb dX12_refusesMove_77 rfl (lv_at hl 2 rfl) ?_
                  refine lv_iadd hx hb dX12_refusesMove_78 ?_
                  refine lv_topi (fun x_34 ex_34 => ?_)
                  try rw [← ex_34] at hv
                  have rx_34 : rgI (48) (71) x_34 := by rw [ex_34]; exact rg_w (rg_add rl_48 r_12 (by decide) (by decide)) (by decide) (by decide)
                  refine hg_iald hx hb hK o_c_28 (rg_in (n := 122) rx_34 (by decide) (by decide)) dX12_refusesMove_79 ?_
                  refine lv_topi (fun x_35 ex_35 => ?_)
                  try rw [← ex_35] at hv
                  refine lv_if_eq (tgt := 88) hx hb dX12_refusesMove_80 (by decide) (fun c_36 => ?_) (fun c_36 => ?_)
                  · rw [if_pos c_36] at hv
                    have r_37 : rgI (0) (0) x_35 := rg_w (rg_eq rl_0 c_36) (by decide) (by decide)
                    refine lv_iconst (v := 0) hx hb dX12_refusesMove_88 (by decide) ?_
                    exact W.iret hx hb hr (fun t ht hW => ⟨0, rfl, ⟨rg_w rl_0 (by decide) (by decide), (fun _ => ⟨th_4, th_10, r_16, c_20, c_23, by rw [← hx_25.2]; exact c_26⟩), hv⟩, ht⟩) (fun q h => by cases h) dX12_refusesMove_89
                  · rw [if_neg c_36] at hv
                    refine lv_bipush (v := (-6)) hx hb dX12_refusesMove_83 (by decide) ?_
                    refine lv_goto (tgt := 89) hx hb dX12_refusesMove_85 (by decide) ?_
                    exact W.iret hx hb hr (fun t ht hW => ⟨(-6), rfl, ⟨rg_w rl_m6 (by decide) (by decide), (fun q => absurd q (by decide)), hv⟩, ht⟩) (fun q h => by cases h) dX12_refusesMove_89
                · rw [if_neg c_32] at hv
                  refine lv_bipush (v := (-5)) hx hb dX12_refusesMove_71 (by decide) ?_
                  exact W.iret hx hb hr (fun t ht hW => ⟨(-5), rfl, ⟨rg_w rl_m5 (by decide) (by decide), (fun q => absurd q (by decide)), hv⟩, ht⟩) (fun q h => by cases h) dX12_refusesMove_73
              · rw [if_neg c_26] at hv
                have r_38 : rgI (1) (1) x_25 := rg_w (rg_neL rx_25 rl_0 c_26) (by decide) (by decide)
                refine lv_bipush (v := (-3)) hx hb dX12_refusesMove_57 (by decide) ?_
                exact W.iret hx hb hr (fun t ht hW => ⟨(-3), rfl, ⟨rg_w rl_m3 (by decide) (by decide), (fun q => absurd q (by decide)), hv⟩, ht⟩) (fun q h => by cases h) dX12_refusesMove_59
        · rw [if_neg c_18] at hv
          have r_39 : rgI (1) (23) x_17 := rg_w (rg_neR rx_17 rl_24 c_18) (by decide) (by decide)
          refine lv_bipush (v := (-2)) hx hb dX12_refusesMove_36 (by decide) ?_
          exact W.iret hx hb hr (fun t ht hW => ⟨(-2), rfl, ⟨rg_w rl_m2 (by decide) (by decide), (fun q => absurd q (by decide)), hv⟩, ht⟩) (fun q h => by cases h) dX12_refusesMove_38
      · rw [if_pos c_14] at hv
        have r_40 : rgI (0) (0) x_13 := rg_w (rg_eq rl_0 c_14) (by decide) (by decide)
        refine lv_iconst (v := (-1)) hx hb dX12_refusesMove_23 (by decide) ?_
        exact W.iret hx hb hr (fun t ht hW => ⟨(-1), rfl, ⟨rg_w rl_m1 (by decide) (by decide), (fun q => absurd q (by decide)), hv⟩, ht⟩) (fun q h => by cases h) dX12_refusesMove_24

def F_X12_insideOf_x_4 : Nat → Int32 → Int32 → Int32 → (Nat → Int32) → Int32
  | 0, _, y2, _, _ => y2
  | n + 1, y1, y2, y3, yr0 => (if (24 : Int32) ≤ y3 then y2 else (if (F_X12_isThere yr0 y3) = (0 : Int32) then (F_X12_insideOf_x_4 n y1 (y2 ||| (0 : Int32)) (y3 + (1 : Int32)) yr0) else (if y3 = y1 then (F_X12_insideOf_x_4 n y1 (y2 ||| (0 : Int32)) (y3 + (1 : Int32)) yr0) else (if (F_X12_isIn yr0 y3 y1) = (0 : Int32) then (F_X12_insideOf_x_4 n y1 (y2 ||| (0 : Int32)) (y3 + (1 : Int32)) yr0) else (F_X12_insideOf_x_4 n y1 (y2 ||| ((1 : Int32) <<< (y3 &&& 31))) (y3 + (1 : Int32)) yr0)))))
def F_X12_insideOf_x (r0 : Nat → Int32) (a1 : Int32) : Int32 := (F_X12_insideOf_x_4 26 a1 (0 : Int32) (0 : Int32) r0)
set_option maxHeartbeats 4000000 in
set_option maxRecDepth 100000 in
theorem c_X12_insideOf_x (l : Launch) (g : Gx) (Ty : TyM) (G : Gh) (b0 : Nat) (a1 : Int32) (k_b0 : Ty b0 = some (30, 122)) (ρ : Nat → Nat) (hT : P1 (G.2.1 b0) ρ) : Met l yX12_insideOf (wsG yX12_insideOf cX12_insideOf 4 (some .int)) ({ frames := 2, cells := 0, slots := 0, locals := 43 }) (PcH g Ty G [.ref b0, .int a1]) (vp_Si (fun r => (SB (G.2.1 b0) r) ∧ r = F_X12_insideOf_x (G.2.1 b0) a1)) 0 0 (fun _ => False) := by
  refine Met.ofW (cc := cX12_insideOf) (maxL := 4) (ret := (some .int)) (by decide) rfl ?_
  intro p e s m args below meth c s₁ B hml hv
  obtain ⟨rfl, hK, hH⟩ := hv
  have hx := B.exec
  have hb := B.bytes
  have hr := B.returns
  have hts := atoms_spec (ws := (wsG yX12_insideOf cX12_insideOf 4 (some .int))) B.pre
  have hG : ∀ w ∈ GW, w.before ([.ref b0, .int a1] : List Value).toArray s = true := fun w h => hts w (List.mem_cons_of_mem _ h)
  have hown : s.vm.findClass RX12 = some m.cls := findClass_of_methodNamed B.named
  have hlocks := B.notSynchronized
  have hl := lv_entry [.ref b0, .int a1] (n := 4) (Nat.le_of_ble_eq_true rfl)
  rw [lg_entry_eq]
  generalize (lg_sl [.ref b0, .int a1] ++ List.replicate (4 - (lg_sl [.ref b0, .int a1]).length) Slot.unset).toArray = ls at hl ⊢
  have hl : lv_has ls 4 [(0, .ref b0), (1, .int a1)] := hl
  have hv : (F_X12_insideOf_x_4 26 a1 (0 : Int32) (0 : Int32) (G.2.1 b0)) = F_X12_insideOf_x (G.2.1 b0) a1 := rfl
  have L_4 : ∀ (n_4 : Nat) (y2_4 : Int32) (y3_4 : Int32) (ls : Array Slot), rgI (0) (24) y3_4 → SB (G.2.1 b0) y2_4 → (24 - (y3_4).toInt).toNat < n_4 → lv_has ls 4 [(0, .ref b0), (1, .int a1), (2, .int y2_4), (3, .int y3_4)] → (F_X12_insideOf_x_4 n_4 a1 y2_4 y3_4 (G.2.1 b0)) = F_X12_insideOf_x (G.2.1 b0) a1 → Wm p l e (wsG yX12_insideOf cX12_insideOf 4 (some .int)) ({ frames := 2, cells := 0, slots := 0, locals := 43 }) s m [.ref b0, .int a1] below meth c s.heap [] (0) (0) (vp_Si (fun r => (SB (G.2.1 b0) r) ∧ r = F_X12_insideOf_x (G.2.1 b0) a1)) 0 0 (fun _ => False) (F0 m 4 ls []) := by
    intro n_4
    induction n_4 with
    | zero => intro y2_4 y3_4 ls ry3_4 hi0_4 hm; exact absurd hm (Nat.not_lt_zero _)
    | succ n_4 ih_4 =>
      intro y2_4 y3_4 ls ry3_4 hi0_4 hm_4 hl hv
      rw [F_X12_insideOf_x_4] at hv
      refine lv_iload_n hx hb dX12_insideOf_4 rfl (lv_at hl 3 rfl) ?_
      refine lv_bipush (v := 24) hx hb dX12_insideOf_5 (by decide) ?_
      refine lv_icmp_ge (tgt := 48) hx hb dX12_insideOf_7 (by decide) (fun c_1 => ?_) (fun c_1 => ?_)
      · rw [if_pos c_1] at hv
        have r_2 : rgI (24) (24) y3_4 := rg_w (rg_leR rl_24 ry3_4 c_1) (by decide) (by decide)
        refine lv_iload_n hx hb dX12_insideOf_48 rfl (lv_at hl 2 rfl) ?_
        exact W.iret hx hb hr (fun t ht hW => ⟨y2_4, rfl, ⟨hi0_4, hv⟩, ht⟩) (fun q h => by cases h) dX12_insideOf_49
      · rw [if_neg c_1] at hv
        have r_3 : rgI (0) (23) y3_4 := rg_w (rg_ltL ry3_4 rl_24 (nle_lt c_1)) (by decide) (by decide)
        refine lv_iload_n hx hb dX12_insideOf_10 rfl (lv_at hl 2 rfl) ?_
        refine lv_aload_n hx hb dX12_insideOf_11 rfl (lv_at hl 0 rfl) ?_
        refine lv_iload_n hx hb dX12_insideOf_12 rfl (lv_at hl 3 rfl) ?_
        refine vp_callSi (W.runS (As := [.ref b0, .int y3_4]) (rest := [.int y2_4]) ⟨hx, hb, hml, hown, hts⟩ (c_X12_isThere l g Ty G b0 y3_4 k_b0) (cwSx 2 hts hG (gwC mw_1520) mw_88 mw_1518 mw_1519 rfl rfl rfl hd_X12_isThere ⟨Nat.le_of_ble_eq_true rfl, Nat.le_of_ble_eq_true rfl⟩) ⟨PcH_blind, PcH_pre hK hH⟩ rfl rfl hl.1 rfl (lv_room (Nat.le_of_ble_eq_true rfl)) dX12_insideOf_13 ⟨Nat.zero_le _, Nat.zero_le _⟩) (fun x_4 hx_4 => ?_)
        have rx_4 : rgI (0) (1) x_4 := hx_4.1
        try rw [← hx_4.2.2] at hv
        try rw [← hx_4.2.2] at hv
        refine lv_if_eq (tgt := 39) hx hb dX12_insideOf_16 (by decide) (fun c_5 => ?_) (fun c_5 => ?_)
        · rw [if_pos c_5] at hv
          have r_6 : rgI (0) (0) x_4 := rg_w (rg_eq rl_0 c_5) (by decide) (by decide)
          refine lv_iconst (v := 0) hx hb dX12_insideOf_39 (by decide) ?_
          refine lv_ior hx hb dX12_insideOf_40 ?_
          refine lv_topi (fun x_7 ex_7 => ?_)
          try rw [← ex_7] at hv
          refine lv_istore_n (lv' := [(2, .int x_7), (0, .ref b0), (1, .int a1), (3, .int y3_4)]) hx hb dX12_insideOf_41 rfl hl (by decide) rfl (fun ls hl => ?_)
          obtain ⟨x_8, ex_8⟩ : ∃ y : Int32, y = y3_4 + 1 := ⟨_, rfl⟩
          try rw [← ex_8] at hv
          have rx_8 : rgI (1) (24) x_8 := by rw [ex_8]; exact rg_w (rg_add r_3 rl_1 (by decide) (by decide)) (by decide) (by decide)
          have qx_8 : x_8.toInt = (y3_4 : Int32).toInt + 1 := by rw [ex_8]; exact rg_addE r_3 rl_1 (by decide) (by decide)
          refine lv_iinc (v := x_8) (lv' := [(3, .int x_8), (2, .int x_7), (0, .ref b0), (1, .int a1)]) hx hb dX12_insideOf_42 hl (k := 3) rfl (by rw [ex_8]; rfl) (by decide) rfl (fun ls hl => ?_)
          refine lv_goto (tgt := 4) hx hb dX12_insideOf_45 (by decide) ?_
          exact ih_4 x_7 x_8 ls (rg_w rx_8 (by decide) (by decide)) (by rw [ex_7]; exact SB.or hi0_4 SB.zero) (by have h1 := qx_8; have h2 := r_3.1; have h3 := r_3.2; have h4 := hm_4; omega) (lv_sub hl [2, 3, 1, 0] rfl) hv
        · rw [if_neg c_5] at hv
          have th_9 : thr (G.2.1 b0) y3_4 := F_isThere_thr (by rw [← hx_4.2.2]; exact c_5)
          have r_10 : rgI (1) (1) x_4 := rg_w (rg_neL rx_4 rl_0 c_5) (by decide) (by decide)
          refine lv_iload_n hx hb dX12_insideOf_19 rfl (lv_at hl 3 rfl) ?_
          refine lv_iload_n hx hb dX12_insideOf_20 rfl (lv_at hl 1 rfl) ?_
          refine lv_icmp_eq (tgt := 39) hx hb dX12_insideOf_21 (by decide) (fun c_11 => ?_) (fun c_11 => ?_)
          · rw [if_pos c_11] at hv
            refine lv_iconst (v := 0) hx hb dX12_insideOf_39 (by decide) ?_
            refine lv_ior hx hb dX12_insideOf_40 ?_
            refine lv_topi (fun x_12 ex_12 => ?_)
            try rw [← ex_12] at hv
            refine lv_istore_n (lv' := [(2, .int x_12), (0, .ref b0), (1, .int a1), (3, .int y3_4)]) hx hb dX12_insideOf_41 rfl hl (by decide) rfl (fun ls hl => ?_)
            obtain ⟨x_13, ex_13⟩ : ∃ y : Int32, y = y3_4 + 1 := ⟨_, rfl⟩
            try rw [← ex_13] at hv
            have rx_13 : rgI (1) (24) x_13 := by rw [ex_13]; exact rg_w (rg_add r_3 rl_1 (by decide) (by decide)) (by decide) (by decide)
            have qx_13 : x_13.toInt = (y3_4 : Int32).toInt + 1 := by rw [ex_13]; exact rg_addE r_3 rl_1 (by decide) (by decide)
            refine lv_iinc (v := x_13) (lv' := [(3, .int x_13), (2, .int x_12), (0, .ref b0), (1, .int a1)]) hx hb dX12_insideOf_42 hl (k := 3) rfl (by rw [ex_13]; rfl) (by decide) rfl (fun ls hl => ?_)
            refine lv_goto (tgt := 4) hx hb dX12_insideOf_45 (by decide) ?_
            exact ih_4 x_12 x_13 ls (rg_w rx_13 (by decide) (by decide)) (by rw [ex_12]; exact SB.or hi0_4 SB.zero) (by have h1 := qx_13; have h2 := r_3.1; have h3 := r_3.2; have h4 := hm_4; omega) (lv_sub hl [2, 3, 1, 0] rfl) hv
          · rw [if_neg c_11] at hv
            refine lv_aload_n hx hb dX12_insideOf_24 rfl (lv_at hl 0 rfl) ?_
            refine lv_iload_n hx hb dX12_insideOf_25 rfl (lv_at hl 3 rfl) ?_
            refine lv_iload_n hx hb dX12_insideOf_26 rfl (lv_at hl 1 rfl) ?_
            refine vp_callSi (W.runS (As := [.ref b0, .int y3_4, .int a1]) (rest := [.int y2_4]) ⟨hx, hb, hml, hown, hts⟩ (c_X12_isIn l g Ty G b0 y3_4 a1 k_b0 ρ hT th_9) (cwSx 3 hts hG (gwC mw_1676) mw_88 mw_1674 mw_1675 rfl rfl rfl hd_X12_isIn ⟨Nat.le_of_ble_eq_true rfl, Nat.le_of_ble_eq_true rfl⟩) ⟨PcH_blind, PcH_pre hK hH⟩ rfl rfl hl.1 rfl (lv_room (Nat.le_of_ble_eq_true rfl)) dX12_insideOf_27 ⟨Nat.zero_le _, Nat.zero_le _⟩) (fun x_14 hx_14 => ?_)
            have rx_14 : rgI (0) (1) x_14 := hx_14.1
            try rw [← hx_14.2] at hv
            try rw [← hx_14.2] at hv
            refine lv_if_eq (tgt := 39) hx hb dX12_insideOf_30 (by decide) (fun c_15 => ?_) (fun c_15 => ?_)
            · rw [if_pos c_15] at hv
              have r_16 : rgI (0) (0) x_14 := rg_w (rg_eq rl_0 c_15) (by decide) (by decide)
              refine lv_iconst (v := 0) hx hb dX12_insideOf_39 (by decide) ?_
              refine lv_ior hx hb dX12_insideOf_40 ?_
              refine lv_topi (fun x_17 ex_17 => ?_)
              try rw [← ex_17] at hv
              refine lv_istore_n (lv' := [(2, .int x_17), (0, .ref b0), (1, .int a1), (3, .int y3_4)]) hx hb dX12_insideOf_41 rfl hl (by decide) rfl (fun ls hl => ?_)
              obtain ⟨x_18, ex_18⟩ : ∃ y : Int32, y = y3_4 + 1 := ⟨_, rfl⟩
              try rw [← ex_18] at hv
              have rx_18 : rgI (1) (24) x_18 := by rw [ex_18]; exact rg_w (rg_add r_3 rl_1 (by decide) (by decide)) (by decide) (by decide)
              have qx_18 : x_18.toInt = (y3_4 : Int32).toInt + 1 := by rw [ex_18]; exact rg_addE r_3 rl_1 (by decide) (by decide)
              refine lv_iinc (v := x_18) (lv' := [(3, .int x_18), (2, .int x_17), (0, .ref b0), (1, .int a1)]) hx hb dX12_insideOf_42 hl (k := 3) rfl (by rw [ex_18]; rfl) (by decide) rfl (fun ls hl => ?_)
              refine lv_goto (tgt := 4) hx hb dX12_insideOf_45 (by decide) ?_
              exact ih_4 x_17 x_18 ls (rg_w rx_18 (by decide) (by decide)) (by rw [ex_17]; exact SB.or hi0_4 SB.zero) (by have h1 := qx_18; have h2 := r_3.1; have h3 := r_3.2; have h4 := hm_4; omega) (lv_sub hl [2, 3, 1, 0] rfl) hv
            · rw [if_neg c_15] at hv
              have r_19 : rgI (1) (1) x_14 := rg_w (rg_neL rx_14 rl_0 c_15) (by decide) (by decide)
              refine lv_iconst (v := 1) hx hb dX12_insideOf_33 (by decide) ?_
              refine lv_iload_n hx hb dX12_insideOf_34 rfl (lv_at hl 3 rfl) ?_
              refine lv_ishl hx hb dX12_insideOf_35 ?_
              refine lv_topi (fun x_20 ex_20 => ?_)
              try rw [← ex_20] at hv
              refine lv_goto (tgt := 40) hx hb dX12_insideOf_36 (by decide) ?_
              refine lv_ior hx hb dX12_insideOf_40 ?_
              refine lv_topi (fun x_21 ex_21 => ?_)
              try rw [← ex_21] at hv
              refine lv_istore_n (lv' := [(2, .int x_21), (0, .ref b0), (1, .int a1), (3, .int y3_4)]) hx hb dX12_insideOf_41 rfl hl (by decide) rfl (fun ls hl => ?_)
              obtain ⟨x_22, ex_22⟩ : ∃ y : Int32, y = y3_4 + 1 := ⟨_, rfl⟩
              try rw [← ex_22] at hv
              have rx_22 : rgI (1) (24) x_22 := by rw [ex_22]; exact rg_w (rg_add r_3 rl_1 (by decide) (by decide)) (by decide) (by decide)
              have qx_22 : x_22.toInt = (y3_4 : Int32).toInt + 1 := by rw [ex_22]; exact rg_addE r_3 rl_1 (by decide) (by decide)
              refine lv_iinc (v := x_22) (lv' := [(3, .int x_22), (2, .int x_21), (0, .ref b0), (1, .int a1)]) hx hb dX12_insideOf_42 hl (k := 3) rfl (by rw [ex_22]; rfl) (by decide) rfl (fun ls hl => ?_)
              refine lv_goto (tgt := 4) hx hb dX12_insideOf_45 (by decide) ?_
              exact ih_4 x_21 x_22 ls (rg_w rx_22 (by decide) (by decide)) (by rw [ex_21]; exact SB.or hi0_4 (by rw [ex_20]; exact SB.one th_9)) (by have h1 := qx_22; have h2 := r_3.1; have h3 := r_3.2; have h4 := hm_4; omega) (lv_sub hl [2, 3, 1, 0] rfl) hv
  refine lv_iconst (v := 0) hx hb dX12_insideOf_0 (by decide) ?_
  refine lv_istore_n (lv' := [(2, .int 0), (0, .ref b0), (1, .int a1)]) hx hb dX12_insideOf_1 rfl hl (by decide) rfl (fun ls hl => ?_)
  refine lv_iconst (v := 0) hx hb dX12_insideOf_2 (by decide) ?_
  refine lv_istore_n (lv' := [(3, .int 0), (2, .int 0), (0, .ref b0), (1, .int a1)]) hx hb dX12_insideOf_3 rfl hl (by decide) rfl (fun ls hl => ?_)
  exact L_4 26 0 0 ls (rg_w rl_0 (by decide) (by decide)) SB.zero (by decide) (lv_sub hl [2, 3, 1, 0] rfl) hv

def F_X12_isLeast_x (r0 : Nat → Int32) (a1 : Int32) : Int32 := (if (F_X12_isThere r0 a1) = (0 : Int32) then (0 : Int32) else (if (r0 (Int32.toNatClampNeg ((48 : Int32) + a1))) = (0 : Int32) then (0 : Int32) else (if (F_J6_numberOfTrailingZeros_0f7a4 (F_X12_inGroup r0 (r0 (Int32.toNatClampNeg ((48 : Int32) + a1))))) = a1 then (1 : Int32) else (0 : Int32))))
set_option maxHeartbeats 4000000 in
set_option maxRecDepth 100000 in
theorem c_X12_isLeast_x (l : Launch) (g : Gx) (Ty : TyM) (G : Gh) (b0 : Nat) (a1 : Int32) (k_b0 : Ty b0 = some (30, 122)) (pr1 : rgI (0) (23) a1) : Met l yX12_isLeast (wsG yX12_isLeast cX12_isLeast 3 (some .boolean)) ({ frames := 3, cells := 0, slots := 0, locals := 66 }) (PcH g Ty G [.ref b0, .int a1]) (vp_Si (fun r => rgI (0) (1) r ∧ r = F_X12_isLeast_x (G.2.1 b0) a1)) 0 0 (fun _ => False) := by
  refine Met.ofW (cc := cX12_isLeast) (maxL := 3) (ret := (some .boolean)) (by decide) rfl ?_
  intro p e s m args below meth c s₁ B hml hv
  obtain ⟨rfl, hK, hH⟩ := hv
  have hx := B.exec
  have hb := B.bytes
  have hr := B.returns
  have hts := atoms_spec (ws := (wsG yX12_isLeast cX12_isLeast 3 (some .boolean))) B.pre
  have hG : ∀ w ∈ GW, w.before ([.ref b0, .int a1] : List Value).toArray s = true := fun w h => hts w (List.mem_cons_of_mem _ h)
  have hown : s.vm.findClass RX12 = some m.cls := findClass_of_methodNamed B.named
  have hlocks := B.notSynchronized
  have hl := lv_entry [.ref b0, .int a1] (n := 3) (Nat.le_of_ble_eq_true rfl)
  rw [lg_entry_eq]
  generalize (lg_sl [.ref b0, .int a1] ++ List.replicate (3 - (lg_sl [.ref b0, .int a1]).length) Slot.unset).toArray = ls at hl ⊢
  have hl : lv_has ls 3 [(0, .ref b0), (1, .int a1)] := hl
  have hv : (if (F_X12_isThere (G.2.1 b0) a1) = (0 : Int32) then (0 : Int32) else (if ((G.2.1 b0) (Int32.toNatClampNeg ((48 : Int32) + a1))) = (0 : Int32) then (0 : Int32) else (if (F_J6_numberOfTrailingZeros_0f7a4 (F_X12_inGroup (G.2.1 b0) ((G.2.1 b0) (Int32.toNatClampNeg ((48 : Int32) + a1))))) = a1 then (1 : Int32) else (0 : Int32)))) = F_X12_isLeast_x (G.2.1 b0) a1 := rfl
  refine lv_aload_n hx hb dX12_isLeast_0 rfl (lv_at hl 0 rfl) ?_
  refine lv_bipush (v := 48) hx hb dX12_isLeast_1 (by decide) ?_
  refine lv_iload_n hx hb dX12_isLeast_3 rfl (lv_at hl 1 rfl) ?_
  refine lv_iadd hx hb dX12_isLeast_4 ?_
  refine lv_topi (fun x_1 ex_1 => ?_)
  try rw [← ex_1] at hv
  have rx_1 : rgI (48) (71) x_1 := by rw [ex_1]; exact rg_w (rg_add rl_48 pr1 (by decide) (by decide)) (by decide) (by decide)
  obtain ⟨_, rfl, o_c_2⟩ := hH b0 _ k_b0
  have o_c_2 : va_at g.1 vwCl (b0, .inl (g.2.1 1, 122, .inl (G.2.1 b0))) s.heap := o_c_2
  refine hg_iald hx hb hK o_c_2 (rg_in (n := 122) rx_1 (by decide) (by decide)) dX12_isLeast_5 ?_
  refine lv_topi (fun x_3 ex_3 => ?_)
  try rw [← ex_3] at hv
  refine lv_istore_n (lv' := [(2, .int x_3), (0, .ref b0), (1, .int a1)]) hx hb dX12_isLeast_6 rfl hl (by decide) rfl (fun ls hl => ?_)
  refine lv_aload_n hx hb dX12_isLeast_7 rfl (lv_at hl 1 rfl) ?_
  refine lv_iload_n hx hb dX12_isLeast_8 rfl (lv_at hl 2 rfl) ?_
  refine vp_callSi (W.runS (As := [.ref b0, .int a1]) (rest := []) ⟨hx, hb, hml, hown, hts⟩ (c_X12_isThere l g Ty G b0 a1 k_b0) (cwSx 2 hts hG (gwC mw_1520) mw_88 mw_1518 mw_1519 rfl rfl rfl hd_X12_isThere ⟨Nat.le_of_ble_eq_true rfl, Nat.le_of_ble_eq_true rfl⟩) ⟨PcH_blind, PcH_pre hK hH⟩ rfl rfl hl.1 rfl (lv_room (Nat.le_of_ble_eq_true rfl)) dX12_isLeast_9 ⟨Nat.zero_le _, Nat.zero_le _⟩) (fun x_4 hx_4 => ?_)
  have rx_4 : rgI (0) (1) x_4 := hx_4.1
  try rw [← hx_4.2.2] at hv
  try rw [← hx_4.2.2] at hv
  refine lv_if_eq (tgt := 35) hx hb dX12_isLeast_12 (by decide) (fun c_5 => ?_) (fun c_5 => ?_)
  · rw [if_pos c_5] at hv
    have r_6 : rgI (0) (0) x_4 := rg_w (rg_eq rl_0 c_5) (by decide) (by decide)
    refine lv_iconst (v := 0) hx hb dX12_isLeast_35 (by decide) ?_
    exact W.zret hx hb hr rfl (fun t ht hW => ⟨0, rfl, ⟨rg_w rl_0 (by decide) (by decide), hv⟩, ht⟩) (fun q h => by cases h) dX12_isLeast_36
  · rw [if_neg c_5] at hv
    have th_7 : thr (G.2.1 b0) a1 := F_isThere_thr (by rw [← hx_4.2.2]; exact c_5)
    have r_8 : rgI (1) (1) x_4 := rg_w (rg_neL rx_4 rl_0 c_5) (by decide) (by decide)
    refine lv_iload_n hx hb dX12_isLeast_15 rfl (lv_at hl 0 rfl) ?_
    refine lv_if_eq (tgt := 35) hx hb dX12_isLeast_16 (by decide) (fun c_9 => ?_) (fun c_9 => ?_)
    · rw [if_pos c_9] at hv
      have r_10 : rgI (0) (0) x_3 := rg_w (rg_eq rl_0 c_9) (by decide) (by decide)
      refine lv_iconst (v := 0) hx hb dX12_isLeast_35 (by decide) ?_
      exact W.zret hx hb hr rfl (fun t ht hW => ⟨0, rfl, ⟨rg_w rl_0 (by decide) (by decide), hv⟩, ht⟩) (fun q h => by cases h) dX12_isLeast_36
    · rw [if_neg c_9] at hv
      refine lv_aload_n hx hb dX12_isLeast_19 rfl (lv_at hl 1 rfl) ?_
      refine lv_iload_n hx hb dX12_isLeast_20 rfl (lv_at hl 0 rfl) ?_
      refine vp_callSi (W.runS (As := [.ref b0, .int x_3]) (rest := []) ⟨hx, hb, hml, hown, hts⟩ (c_X12_inGroup l g Ty G b0 x_3 k_b0) (cwSx 2 hts hG (gwC mw_1566) mw_88 mw_1564 mw_1565 rfl rfl rfl hd_X12_inGroup ⟨Nat.le_of_ble_eq_true rfl, Nat.le_of_ble_eq_true rfl⟩) ⟨PcH_blind, PcH_pre hK hH⟩ rfl rfl hl.1 rfl (lv_room (Nat.le_of_ble_eq_true rfl)) dX12_isLeast_21 ⟨Nat.zero_le _, Nat.zero_le _⟩) (fun x_11 hx_11 => ?_)
      try rw [← hx_11] at hv
      try rw [← hx_11] at hv
      refine vp_callSi (W.runS (As := [.int x_11]) (rest := []) ⟨hx, hb, hml, hown, hts⟩ (c_J6_ntz_x l g Ty G x_11 ) (cwSx 1 hts hG (gwC mw_1718) mw_99 mw_1716 mw_1717 rfl rfl rfl hd_J6_numberOfTrailingZeros_0f7a4 ⟨Nat.le_of_ble_eq_true rfl, Nat.le_of_ble_eq_true rfl⟩) ⟨PcH_blind, PcH_pre hK hH⟩ rfl rfl hl.1 rfl (lv_room (Nat.le_of_ble_eq_true rfl)) dX12_isLeast_24 ⟨Nat.zero_le _, Nat.zero_le _⟩) (fun x_12 hx_12 => ?_)
      try rw [← hx_12] at hv
      try rw [← hx_12] at hv
      refine lv_iload_n hx hb dX12_isLeast_27 rfl (lv_at hl 2 rfl) ?_
      refine lv_icmp_ne (tgt := 35) hx hb dX12_isLeast_28 (by decide) (fun c_13 => ?_) (fun c_13 => ?_)
      · rw [if_neg c_13] at hv
        refine lv_iconst (v := 0) hx hb dX12_isLeast_35 (by decide) ?_
        exact W.zret hx hb hr rfl (fun t ht hW => ⟨0, rfl, ⟨rg_w rl_0 (by decide) (by decide), hv⟩, ht⟩) (fun q h => by cases h) dX12_isLeast_36
      · rw [if_pos c_13] at hv
        have r_14 : rgI (0) (23) x_12 := rg_w (rg_eq pr1 c_13) (by decide) (by decide)
        refine lv_iconst (v := 1) hx hb dX12_isLeast_31 (by decide) ?_
        refine lv_goto (tgt := 36) hx hb dX12_isLeast_32 (by decide) ?_
        exact W.zret hx hb hr rfl (fun t ht hW => ⟨1, rfl, ⟨rg_w rl_1 (by decide) (by decide), hv⟩, ht⟩) (fun q h => by cases h) dX12_isLeast_36

def F_X12_groupsOf_x_4 : Nat → Int32 → Int32 → (Nat → Int32) → Int32
  | 0, y1, _, _ => y1
  | n + 1, y1, y2, yr0 => (if (24 : Int32) ≤ y2 then y1 else (if (F_X12_isLeast_x yr0 y2) = (0 : Int32) then (F_X12_groupsOf_x_4 n (y1 + (0 : Int32)) (y2 + (1 : Int32)) yr0) else (F_X12_groupsOf_x_4 n (y1 + (1 : Int32)) (y2 + (1 : Int32)) yr0)))
def F_X12_groupsOf_x (r0 : Nat → Int32) : Int32 := (F_X12_groupsOf_x_4 26 (0 : Int32) (0 : Int32) r0)
set_option maxHeartbeats 4000000 in
set_option maxRecDepth 100000 in
theorem c_X12_groupsOf_x (l : Launch) (g : Gx) (Ty : TyM) (G : Gh) (b0 : Nat) (k_b0 : Ty b0 = some (30, 122)) : Met l yX12_groupsOf (wsG yX12_groupsOf cX12_groupsOf 3 (some .int)) ({ frames := 4, cells := 0, slots := 0, locals := 88 }) (PcH g Ty G [.ref b0]) (vp_Si (fun r => r = F_X12_groupsOf_x (G.2.1 b0))) 0 0 (fun _ => False) := by
  refine Met.ofW (cc := cX12_groupsOf) (maxL := 3) (ret := (some .int)) (by decide) rfl ?_
  intro p e s m args below meth c s₁ B hml hv
  obtain ⟨rfl, hK, hH⟩ := hv
  have hx := B.exec
  have hb := B.bytes
  have hr := B.returns
  have hts := atoms_spec (ws := (wsG yX12_groupsOf cX12_groupsOf 3 (some .int))) B.pre
  have hG : ∀ w ∈ GW, w.before ([.ref b0] : List Value).toArray s = true := fun w h => hts w (List.mem_cons_of_mem _ h)
  have hown : s.vm.findClass RX12 = some m.cls := findClass_of_methodNamed B.named
  have hlocks := B.notSynchronized
  have hl := lv_entry [.ref b0] (n := 3) (Nat.le_of_ble_eq_true rfl)
  rw [lg_entry_eq]
  generalize (lg_sl [.ref b0] ++ List.replicate (3 - (lg_sl [.ref b0]).length) Slot.unset).toArray = ls at hl ⊢
  have hl : lv_has ls 3 [(0, .ref b0)] := hl
  have hv : (F_X12_groupsOf_x_4 26 (0 : Int32) (0 : Int32) (G.2.1 b0)) = F_X12_groupsOf_x (G.2.1 b0) := rfl
  have L_4 : ∀ (n_4 : Nat) (y1_4 : Int32) (y2_4 : Int32) (ls : Array Slot), rgI (0) (24) y2_4 → (24 - (y2_4).toInt).toNat < n_4 → lv_has ls 3 [(0, .ref b0), (1, .int y1_4), (2, .int y2_4)] → (F_X12_groupsOf_x_4 n_4 y1_4 y2_4 (G.2.1 b0)) = F_X12_groupsOf_x (G.2.1 b0) → Wm p l e (wsG yX12_groupsOf cX12_groupsOf 3 (some .int)) ({ frames := 4, cells := 0, slots := 0, locals := 88 }) s m [.ref b0] below meth c s.heap [] (0) (0) (vp_Si (fun r => r = F_X12_groupsOf_x (G.2.1 b0))) 0 0 (fun _ => False) (F0 m 4 ls []) := by
    intro n_4
    induction n_4 with
    | zero => intro y1_4 y2_4 ls ry2_4 hm; exact absurd hm (Nat.not_lt_zero _)
    | succ n_4 ih_4 =>
      intro y1_4 y2_4 ls ry2_4 hm_4 hl hv
      have L_24 : ∀ (z0_24 : Int32) (ls : Array Slot), rgI (0) (23) y2_4 → rgI (0) (1) z0_24 → lv_has ls 3 [(0, .ref b0), (2, .int y2_4)] → (F_X12_groupsOf_x_4 n_4 (y1_4 + z0_24) (y2_4 + (1 : Int32)) (G.2.1 b0)) = F_X12_groupsOf_x (G.2.1 b0) → Wm p l e (wsG yX12_groupsOf cX12_groupsOf 3 (some .int)) ({ frames := 4, cells := 0, slots := 0, locals := 88 }) s m [.ref b0] below meth c s.heap [] (0) (0) (vp_Si (fun r => r = F_X12_groupsOf_x (G.2.1 b0))) 0 0 (fun _ => False) (F0 m 24 ls [.int z0_24, .int y1_4]) := by
        intro z0_24 ls ry2_24 rz0_24 hl hv
        refine lv_iadd hx hb dX12_groupsOf_24 ?_
        refine lv_topi (fun x_1 ex_1 => ?_)
        try rw [← ex_1] at hv
        refine lv_istore_n (lv' := [(1, .int x_1), (0, .ref b0), (2, .int y2_4)]) hx hb dX12_groupsOf_25 rfl hl (by decide) rfl (fun ls hl => ?_)
        obtain ⟨x_2, ex_2⟩ : ∃ y : Int32, y = y2_4 + 1 := ⟨_, rfl⟩
        try rw [← ex_2] at hv
        have rx_2 : rgI (1) (24) x_2 := by rw [ex_2]; exact rg_w (rg_add ry2_24 rl_1 (by decide) (by decide)) (by decide) (by decide)
        have qx_2 : x_2.toInt = (y2_4 : Int32).toInt + 1 := by rw [ex_2]; exact rg_addE ry2_24 rl_1 (by decide) (by decide)
        refine lv_iinc (v := x_2) (lv' := [(2, .int x_2), (1, .int x_1), (0, .ref b0)]) hx hb dX12_groupsOf_26 hl (k := 2) rfl (by rw [ex_2]; rfl) (by decide) rfl (fun ls hl => ?_)
        refine lv_goto (tgt := 4) hx hb dX12_groupsOf_29 (by decide) ?_
        exact ih_4 x_1 x_2 ls (rg_w rx_2 (by decide) (by decide)) (by have h1 := qx_2; have h2 := ry2_24.1; have h3 := ry2_24.2; have h4 := hm_4; omega) (lv_sub hl [2, 1, 0] rfl) hv
      rw [F_X12_groupsOf_x_4] at hv
      refine lv_iload_n hx hb dX12_groupsOf_4 rfl (lv_at hl 2 rfl) ?_
      refine lv_bipush (v := 24) hx hb dX12_groupsOf_5 (by decide) ?_
      refine lv_icmp_ge (tgt := 32) hx hb dX12_groupsOf_7 (by decide) (fun c_3 => ?_) (fun c_3 => ?_)
      · rw [if_pos c_3] at hv
        have r_4 : rgI (24) (24) y2_4 := rg_w (rg_leR rl_24 ry2_4 c_3) (by decide) (by decide)
        refine lv_iload_n hx hb dX12_groupsOf_32 rfl (lv_at hl 1 rfl) ?_
        exact W.iret hx hb hr (fun t ht hW => ⟨y1_4, rfl, hv, ht⟩) (fun q h => by cases h) dX12_groupsOf_33
      · rw [if_neg c_3] at hv
        have r_5 : rgI (0) (23) y2_4 := rg_w (rg_ltL ry2_4 rl_24 (nle_lt c_3)) (by decide) (by decide)
        refine lv_iload_n hx hb dX12_groupsOf_10 rfl (lv_at hl 1 rfl) ?_
        refine lv_aload_n hx hb dX12_groupsOf_11 rfl (lv_at hl 0 rfl) ?_
        refine lv_iload_n hx hb dX12_groupsOf_12 rfl (lv_at hl 2 rfl) ?_
        refine vp_callSi (W.runS (As := [.ref b0, .int y2_4]) (rest := [.int y1_4]) ⟨hx, hb, hml, hown, hts⟩ (c_X12_isLeast_x l g Ty G b0 y2_4 k_b0 (rg_w r_5 (by decide) (by decide))) (cwSx 2 hts hG (gwC mw_1726) mw_88 mw_1724 mw_1725 rfl rfl rfl hd_X12_isLeast ⟨Nat.le_of_ble_eq_true rfl, Nat.le_of_ble_eq_true rfl⟩) ⟨PcH_blind, PcH_pre hK hH⟩ rfl rfl hl.1 rfl (lv_room (Nat.le_of_ble_eq_true rfl)) dX12_groupsOf_13 ⟨Nat.zero_le _, Nat.zero_le _⟩) (fun x_6 hx_6 => ?_)
        have rx_6 : rgI (0) (1) x_6 := hx_6.1
        try rw [← hx_6.2] at hv
        have ex_7 : x_6 = F_X12_isLeast_x (G.2.1 b0) y2_4 := hx_6.2
        try rw [← ex_7] at hv
        refine lv_if_eq (tgt := 23) hx hb dX12_groupsOf_16 (by decide) (fun c_8 => ?_) (fun c_8 => ?_)
        · rw [if_pos c_8] at hv
          have r_9 : rgI (0) (0) x_6 := rg_w (rg_eq rl_0 c_8) (by decide) (by decide)
          refine lv_iconst (v := 0) hx hb dX12_groupsOf_23 (by decide) ?_
          exact L_24 0 ls r_5 (rg_w rl_0 (by decide) (by decide)) (lv_sub hl [0, 2] rfl) hv
        · rw [if_neg c_8] at hv
          have r_10 : rgI (1) (1) x_6 := rg_w (rg_neL rx_6 rl_0 c_8) (by decide) (by decide)
          refine lv_iconst (v := 1) hx hb dX12_groupsOf_19 (by decide) ?_
          refine lv_goto (tgt := 24) hx hb dX12_groupsOf_20 (by decide) ?_
          exact L_24 1 ls r_5 (rg_w rl_1 (by decide) (by decide)) (lv_sub hl [0, 2] rfl) hv
  refine lv_iconst (v := 0) hx hb dX12_groupsOf_0 (by decide) ?_
  refine lv_istore_n (lv' := [(1, .int 0), (0, .ref b0)]) hx hb dX12_groupsOf_1 rfl hl (by decide) rfl (fun ls hl => ?_)
  refine lv_iconst (v := 0) hx hb dX12_groupsOf_2 (by decide) ?_
  refine lv_istore_n (lv' := [(2, .int 0), (1, .int 0), (0, .ref b0)]) hx hb dX12_groupsOf_3 rfl hl (by decide) rfl (fun ls hl => ?_)
  exact L_4 26 0 0 ls (rg_w rl_0 (by decide) (by decide)) (by decide) (lv_sub hl [2, 1, 0] rfl) hv

def F_X12_tellBits_x (a0 : Int32) : Int32 := a0
set_option maxHeartbeats 4000000 in
set_option maxRecDepth 100000 in
theorem c_X12_tellBits_x (l : Launch) (g : Gx) (Ty : TyM) (G : Gh) (sz : Nat) (h0 : Nat) (a0 : Int32) (k_h0 : Ty h0 = some (22, 0)) : Met l yX12_tellBits (wsG yX12_tellBits cX12_tellBits 2 (some .int)) ({ frames := 1, cells := 0, slots := 0, locals := 22 }) (PcT g Ty G sz [.ref h0, .int a0]) (QwI g Ty sz (fun r u => u.1 = Ty ∧ FR [104] [] [] G u.2 ∧ (rgI (1) (1) (u.2.1 104)) ∧ F_X12_tellBits_x a0 = r)) 0 0 (AF Ty sz) := by
  refine Met.ofW (cc := cX12_tellBits) (maxL := 2) (ret := (some .int)) (by decide) rfl ?_
  intro p e s m args below meth c s₁ B hml hv
  obtain ⟨rfl, hsz, hK, hH⟩ := hv
  subst hsz
  have hx := B.exec
  have hb := B.bytes
  have hr := B.returns
  have hts := atoms_spec (ws := (wsG yX12_tellBits cX12_tellBits 2 (some .int))) B.pre
  have hG : ∀ w ∈ GW, w.before ([.ref h0, .int a0] : List Value).toArray s = true := fun w h => hts w (List.mem_cons_of_mem _ h)
  have hown : s.vm.findClass RX12 = some m.cls := findClass_of_methodNamed B.named
  have hlocks := B.notSynchronized
  have hl := lv_entry [.ref h0, .int a0] (n := 2) (Nat.le_of_ble_eq_true rfl)
  rw [lg_entry_eq]
  generalize (lg_sl [.ref h0, .int a0] ++ List.replicate (2 - (lg_sl [.ref h0, .int a0]).length) Slot.unset).toArray = ls at hl ⊢
  have hl : lv_has ls 2 [(0, .ref h0), (1, .int a0)] := hl
  have hmk : mdK g Ty := mdk_of hH k_h0
  have hv : a0 = F_X12_tellBits_x a0 := rfl
  have hS : va_S (AF Ty s.heap.size) s.heap s.heap [] := va_S.rf
  refine lv_aload_n hx hb dX12_tellBits_0 rfl (lv_at hl 0 rfl) ?_
  refine lv_iconst (v := 0) hx hb dX12_tellBits_1 (by decide) ?_
  obtain ⟨_, ⟨rfl, t_2, hk_3⟩, o_c_1⟩ := hH h0 _ k_h0
  refine hg_put (ty := .int) hx hb hG igX12 tyX12 tyX12_ok nmX12 hown hK hS o_c_1 (AF.of k_h0) rfl 4 (by decide) (hG _ mw_1288) rfl (by decide +kernel) rfl rfl (Nat.le_of_ble_eq_true rfl) dX12_tellBits_2 (fun H locs o_c_1 hz oq hS => ?_)
  obtain ⟨G_4, eG_4⟩ : ∃ z : Gh, z = gset G 104 0 := ⟨_, rfl⟩
  have hH : HT g Ty G_4 H := by rw [eG_4]; exact HT.putN 104 0 hH k_h0 ⟨rfl, t_2, hk_3⟩ o_c_1 oq (Or.inr (Or.inr (Or.inr (Or.inr (Or.inr ⟨by decide, t_2⟩)))))
  have fr_5 : FR [104] [] [] G G_4 := FR.n FR.rf eG_4 (by decide)
  have u_6 : G_4.1 104 = 0 := by rw [eG_4]; exact gs_eq
  clear oq hz
  refine lv_aload_n hx hb dX12_tellBits_5 rfl (lv_at hl 0 rfl) ?_
  refine lv_iload_n hx hb dX12_tellBits_6 rfl (lv_at hl 1 rfl) ?_
  refine vp_callSi (W.runS (As := [.int a0]) (rest := [.ref h0]) ⟨hx, hb, hml, hown, hts⟩ (c_J6_bitCount_x l g Ty G_4 a0 ) (cwSx 1 hts hG (gwC mw_620) mw_99 mw_1553 mw_619 rfl rfl rfl hd_J6_bitCount_0f7a4 ⟨Nat.le_of_ble_eq_true rfl, Nat.le_of_ble_eq_true rfl⟩) ⟨PcH_blind, PcH_pre hK hH⟩ rfl rfl hl.1 rfl (lv_room (Nat.le_of_ble_eq_true rfl)) dX12_tellBits_7 ⟨Nat.zero_le _, Nat.zero_le _⟩) (fun x_7 hx_7 => ?_)
  have rx_7 : rgI (0) (63) x_7 := hx_7.1
  try rw [← hx_7.2] at hv
  try rw [← hx_7.2] at hv
  refine lv_i2l hx hb dX12_tellBits_10 rfl ?_
  refine lv_topl (fun u_8 eu_8 => ?_)
  obtain ⟨_, ⟨rfl, t_10, hk_11⟩, o_c_9⟩ := hH h0 _ k_h0
  refine va_callv (va_runV (As := [.long u_8]) (rest := []) ⟨hx, hb, hml, hown, hts⟩ (c_X12_tell l g Ty G_4 H.size h0 u_8 k_h0 (by rw [u_6]; exact rg_w rl_0 (by decide) (by decide))) (cwV 1 hts (gwV mw_1510 mw_1512 mw_48 mw_88 mw_1513) rfl rfl rfl hv_X12_tell ⟨Nat.le_of_ble_eq_true rfl, Nat.le_of_ble_eq_true rfl⟩) ⟨PcT_blind, hg_recv hK o_c_9 rfl, PcT_pre hK hH⟩ rfl rfl hl.1 rfl (lv_room (Nat.le_of_ble_eq_true rfl)) dX12_tellBits_11 ⟨Nat.zero_le _, Nat.zero_le _⟩) hS (fun q _ h => AF.mono hS.1 h) (fun q h => AF.mono hS.1 h) (fun ux_12 t H locs ht hvm hx_12 hB hz hk hS => ?_)
  obtain ⟨eTx_12, eGx_12⟩ := hx_12
  obtain ⟨G_13, eG_13⟩ : ∃ z, z = ux_12.2 := ⟨_, rfl⟩
  rw [← eG_13] at eGx_12
  obtain ⟨x_14, ex_14⟩ : ∃ z : Int32, z = 0 + 1 := ⟨_, rfl⟩
  have e_15 : G_13 = gset G_4 104 x_14 := by rw [ex_14, ← u_6]; exact eGx_12
  have rx_14 : rgI (1) (1) x_14 := by rw [ex_14]; exact rg_w (rg_add rl_0 rl_1 (by decide) (by decide)) (by decide) (by decide)
  have fr_16 : FR [104] [] [] G G_13 := FR.n fr_5 e_15 (by decide)
  have u_17 : G_13.1 104 = x_14 := by rw [e_15]; exact gs_eq
  have hH : HT g Ty G_13 H := by rw [← ht, ← eTx_12, eG_13]; exact hB
  refine lv_iload_n hx hb dX12_tellBits_14 rfl (lv_at hl 1 rfl) ?_
  exact W.iret hx hb hr (fun t ht hWm => ⟨⟨a0, (Ty, G_13), rfl, ⟨rfl, ⟨fr_16, ⟨(by rw [u_17]; exact (rg_w rx_14 (by decide) (by decide))), hv.symm⟩⟩⟩, by show HT g Ty G_13 t.heap; rw [ht]; exact hH⟩, hS.F ht⟩) hS.2.2 dX12_tellBits_15

def F_X12_tellCame_x (a0 : Int32) : Int32 := a0
set_option maxHeartbeats 4000000 in
set_option maxRecDepth 100000 in
theorem c_X12_tellCame_x (l : Launch) (g : Gx) (Ty : TyM) (G : Gh) (sz : Nat) (h0 : Nat) (a0 : Int32) (k_h0 : Ty h0 = some (22, 0)) : Met l yX12_tellCame (wsG yX12_tellCame cX12_tellCame 2 (some .int)) ({ frames := 1, cells := 0, slots := 0, locals := 22 }) (PcT g Ty G sz [.ref h0, .int a0]) (QwI g Ty sz (fun r u => u.1 = Ty ∧ FR [104] [] [] G u.2 ∧ (rgI (2) (2) (u.2.1 104)) ∧ F_X12_tellCame_x a0 = r)) 0 0 (AF Ty sz) := by
  refine Met.ofW (cc := cX12_tellCame) (maxL := 2) (ret := (some .int)) (by decide) rfl ?_
  intro p e s m args below meth c s₁ B hml hv
  obtain ⟨rfl, hsz, hK, hH⟩ := hv
  subst hsz
  have hx := B.exec
  have hb := B.bytes
  have hr := B.returns
  have hts := atoms_spec (ws := (wsG yX12_tellCame cX12_tellCame 2 (some .int))) B.pre
  have hG : ∀ w ∈ GW, w.before ([.ref h0, .int a0] : List Value).toArray s = true := fun w h => hts w (List.mem_cons_of_mem _ h)
  have hown : s.vm.findClass RX12 = some m.cls := findClass_of_methodNamed B.named
  have hlocks := B.notSynchronized
  have hl := lv_entry [.ref h0, .int a0] (n := 2) (Nat.le_of_ble_eq_true rfl)
  rw [lg_entry_eq]
  generalize (lg_sl [.ref h0, .int a0] ++ List.replicate (2 - (lg_sl [.ref h0, .int a0]).length) Slot.unset).toArray = ls at hl ⊢
  have hl : lv_has ls 2 [(0, .ref h0), (1, .int a0)] := hl
  have hmk : mdK g Ty := mdk_of hH k_h0
  have hv : a0 = F_X12_tellCame_x a0 := rfl
  have hS : va_S (AF Ty s.heap.size) s.heap s.heap [] := va_S.rf
  refine lv_aload_n hx hb dX12_tellCame_0 rfl (lv_at hl 0 rfl) ?_
  refine lv_iconst (v := 0) hx hb dX12_tellCame_1 (by decide) ?_
  obtain ⟨_, ⟨rfl, t_2, hk_3⟩, o_c_1⟩ := hH h0 _ k_h0
  refine hg_put (ty := .int) hx hb hG igX12 tyX12 tyX12_ok nmX12 hown hK hS o_c_1 (AF.of k_h0) rfl 4 (by decide) (hG _ mw_1288) rfl (by decide +kernel) rfl rfl (Nat.le_of_ble_eq_true rfl) dX12_tellCame_2 (fun H locs o_c_1 hz oq hS => ?_)
  obtain ⟨G_4, eG_4⟩ : ∃ z : Gh, z = gset G 104 0 := ⟨_, rfl⟩
  have hH : HT g Ty G_4 H := by rw [eG_4]; exact HT.putN 104 0 hH k_h0 ⟨rfl, t_2, hk_3⟩ o_c_1 oq (Or.inr (Or.inr (Or.inr (Or.inr (Or.inr ⟨by decide, t_2⟩)))))
  have fr_5 : FR [104] [] [] G G_4 := FR.n FR.rf eG_4 (by decide)
  have u_6 : G_4.1 104 = 0 := by rw [eG_4]; exact gs_eq
  clear oq hz
  refine lv_aload_n hx hb dX12_tellCame_5 rfl (lv_at hl 0 rfl) ?_
  refine lv_aload_n hx hb dX12_tellCame_6 rfl (lv_at hl 0 rfl) ?_
  obtain ⟨_, ⟨rfl, t_8, hk_9⟩, o_c_7⟩ := hH h0 _ k_h0
  refine hg_get hx hb hG igX12 hown hK o_c_7 rfl 28 (by decide) (hG _ mw_1312) rfl dX12_tellCame_7 ?_
  refine vp_callSi (W.runS (As := [.int (G_4.1 128)]) (rest := [.ref h0]) ⟨hx, hb, hml, hown, hts⟩ (c_J6_bitCount_x l g Ty G_4 (G_4.1 128) ) (cwSx 1 hts hG (gwC mw_620) mw_99 mw_1553 mw_619 rfl rfl rfl hd_J6_bitCount_0f7a4 ⟨Nat.le_of_ble_eq_true rfl, Nat.le_of_ble_eq_true rfl⟩) ⟨PcH_blind, PcH_pre hK hH⟩ rfl rfl hl.1 rfl (lv_room (Nat.le_of_ble_eq_true rfl)) dX12_tellCame_10 ⟨Nat.zero_le _, Nat.zero_le _⟩) (fun x_10 hx_10 => ?_)
  have rx_10 : rgI (0) (63) x_10 := hx_10.1
  try rw [← hx_10.2] at hv
  try rw [← hx_10.2] at hv
  refine lv_i2l hx hb dX12_tellCame_13 rfl ?_
  refine lv_topl (fun u_11 eu_11 => ?_)
  refine va_callv (va_runV (As := [.long u_11]) (rest := []) ⟨hx, hb, hml, hown, hts⟩ (c_X12_tell l g Ty G_4 H.size h0 u_11 k_h0 (by rw [u_6]; exact rg_w rl_0 (by decide) (by decide))) (cwV 1 hts (gwV mw_1510 mw_1512 mw_48 mw_88 mw_1513) rfl rfl rfl hv_X12_tell ⟨Nat.le_of_ble_eq_true rfl, Nat.le_of_ble_eq_true rfl⟩) ⟨PcT_blind, hg_recv hK o_c_7 rfl, PcT_pre hK hH⟩ rfl rfl hl.1 rfl (lv_room (Nat.le_of_ble_eq_true rfl)) dX12_tellCame_14 ⟨Nat.zero_le _, Nat.zero_le _⟩) hS (fun q _ h => AF.mono hS.1 h) (fun q h => AF.mono hS.1 h) (fun ux_12 t H locs ht hvm hx_12 hB hz hk hS => ?_)
  obtain ⟨eTx_12, eGx_12⟩ := hx_12
  obtain ⟨G_13, eG_13⟩ : ∃ z, z = ux_12.2 := ⟨_, rfl⟩
  rw [← eG_13] at eGx_12
  obtain ⟨x_14, ex_14⟩ : ∃ z : Int32, z = 0 + 1 := ⟨_, rfl⟩
  have e_15 : G_13 = gset G_4 104 x_14 := by rw [ex_14, ← u_6]; exact eGx_12
  have rx_14 : rgI (1) (1) x_14 := by rw [ex_14]; exact rg_w (rg_add rl_0 rl_1 (by decide) (by decide)) (by decide) (by decide)
  have fr_16 : FR [104] [] [] G G_13 := FR.n fr_5 e_15 (by decide)
  have u_17 : G_13.1 104 = x_14 := by rw [e_15]; exact gs_eq
  have hH : HT g Ty G_13 H := by rw [← ht, ← eTx_12, eG_13]; exact hB
  refine lv_aload_n hx hb dX12_tellCame_17 rfl (lv_at hl 0 rfl) ?_
  refine lv_aload_n hx hb dX12_tellCame_18 rfl (lv_at hl 0 rfl) ?_
  obtain ⟨_, ⟨rfl, t_19, hk_20⟩, o_c_18⟩ := hH h0 _ k_h0
  refine hg_get hx hb hG igX12 hown hK o_c_18 rfl 28 (by decide) (hG _ mw_1312) rfl dX12_tellCame_19 ?_
  refine lv_i2l hx hb dX12_tellCame_22 rfl ?_
  refine lv_topl (fun u_21 eu_21 => ?_)
  refine va_callv (va_runV (As := [.long u_21]) (rest := []) ⟨hx, hb, hml, hown, hts⟩ (c_X12_tell l g Ty G_13 H.size h0 u_21 k_h0 (by rw [u_17]; exact rg_w rx_14 (by decide) (by decide))) (cwV 1 hts (gwV mw_1510 mw_1512 mw_48 mw_88 mw_1513) rfl rfl rfl hv_X12_tell ⟨Nat.le_of_ble_eq_true rfl, Nat.le_of_ble_eq_true rfl⟩) ⟨PcT_blind, hg_recv hK o_c_18 rfl, PcT_pre hK hH⟩ rfl rfl hl.1 rfl (lv_room (Nat.le_of_ble_eq_true rfl)) dX12_tellCame_23 ⟨Nat.zero_le _, Nat.zero_le _⟩) hS (fun q _ h => AF.mono hS.1 h) (fun q h => AF.mono hS.1 h) (fun ux_22 t H locs ht hvm hx_22 hB hz hk hS => ?_)
  obtain ⟨eTx_22, eGx_22⟩ := hx_22
  obtain ⟨G_23, eG_23⟩ : ∃ z, z = ux_22.2 := ⟨_, rfl⟩
  rw [← eG_23] at eGx_22
  obtain ⟨x_24, ex_24⟩ : ∃ z : Int32, z = x_14 + 1 := ⟨_, rfl⟩
  have e_25 : G_23 = gset G_13 104 x_24 := by rw [ex_24, ← u_17]; exact eGx_22
  have rx_24 : rgI (2) (2) x_24 := by rw [ex_24]; exact rg_w (rg_add rx_14 rl_1 (by decide) (by decide)) (by decide) (by decide)
  have fr_26 : FR [104] [] [] G G_23 := FR.n fr_16 e_25 (by decide)
  have u_27 : G_23.1 104 = x_24 := by rw [e_25]; exact gs_eq
  have hH : HT g Ty G_23 H := by rw [← ht, ← eTx_22, eG_23]; exact hB
  refine lv_iload_n hx hb dX12_tellCame_26 rfl (lv_at hl 1 rfl) ?_
  exact W.iret hx hb hr (fun t ht hWm => ⟨⟨a0, (Ty, G_23), rfl, ⟨rfl, ⟨fr_26, ⟨(by rw [u_27]; exact (rg_w rx_24 (by decide) (by decide))), hv.symm⟩⟩⟩, by show HT g Ty G_23 t.heap; rw [ht]; exact hH⟩, hS.F ht⟩) hS.2.2 dX12_tellCame_27

def F_X12_bitsOf_x_4 : Nat → Int32 → Int32 → Int32 → (Nat → Int32) → Int32
  | 0, _, y2, _, _ => y2
  | n + 1, y1, y2, y3, yr0 => (if (24 : Int32) ≤ y3 then y2 else (if (F_X12_isThere yr0 y3) = (0 : Int32) then (F_X12_bitsOf_x_4 n y1 (y2 ||| (0 : Int32)) (y3 + (1 : Int32)) yr0) else (if (yr0 (Int32.toNatClampNeg (y1 + y3))) = (0 : Int32) then (F_X12_bitsOf_x_4 n y1 (y2 ||| (0 : Int32)) (y3 + (1 : Int32)) yr0) else (F_X12_bitsOf_x_4 n y1 (y2 ||| ((1 : Int32) <<< (y3 &&& 31))) (y3 + (1 : Int32)) yr0))))
def F_X12_bitsOf_x (r0 : Nat → Int32) (a0 : Int32) : Int32 := (F_X12_bitsOf_x_4 26 a0 (0 : Int32) (0 : Int32) r0)
set_option maxHeartbeats 4000000 in
set_option maxRecDepth 100000 in
theorem c_X12_bitsOf_x (l : Launch) (g : Gx) (Ty : TyM) (G : Gh) (h0 : Nat) (a0 : Int32) (k_h0 : Ty h0 = some (22, 0)) (pr0 : rgI (48) (96) a0) (Bd : Int) (hI : OI g Bd G) (hBd : Bd ≤ 1900000) (hLD : LD g) : Met l yX12_bitsOf (wsG yX12_bitsOf cX12_bitsOf 4 (some .int)) ({ frames := 2, cells := 0, slots := 0, locals := 43 }) (PcH g Ty G [.ref h0, .int a0]) (vp_Si (fun r => r = F_X12_bitsOf_x (G.2.1 (g.2.2 100)) a0)) 0 0 (fun _ => False) := by
  refine Met.ofW (cc := cX12_bitsOf) (maxL := 4) (ret := (some .int)) (by decide) rfl ?_
  intro p e s m args below meth c s₁ B hml hv
  obtain ⟨rfl, hK, hH⟩ := hv
  have hx := B.exec
  have hb := B.bytes
  have hr := B.returns
  have hts := atoms_spec (ws := (wsG yX12_bitsOf cX12_bitsOf 4 (some .int))) B.pre
  have hG : ∀ w ∈ GW, w.before ([.ref h0, .int a0] : List Value).toArray s = true := fun w h => hts w (List.mem_cons_of_mem _ h)
  have hown : s.vm.findClass RX12 = some m.cls := findClass_of_methodNamed B.named
  have hlocks := B.notSynchronized
  have hl := lv_entry [.ref h0, .int a0] (n := 4) (Nat.le_of_ble_eq_true rfl)
  rw [lg_entry_eq]
  generalize (lg_sl [.ref h0, .int a0] ++ List.replicate (4 - (lg_sl [.ref h0, .int a0]).length) Slot.unset).toArray = ls at hl ⊢
  have hl : lv_has ls 4 [(0, .ref h0), (1, .int a0)] := hl
  have hmk : mdK g Ty := mdk_of hH k_h0
  obtain ⟨⟨σ0, hTS0⟩, h10, hBB0⟩ := id hI.ti
  obtain ⟨ρ, hT⟩ := hTS0.1
  have hv : (F_X12_bitsOf_x_4 26 a0 (0 : Int32) (0 : Int32) (G.2.1 (g.2.2 100))) = F_X12_bitsOf_x (G.2.1 (g.2.2 100)) a0 := rfl
  have L_4 : ∀ (n_4 : Nat) (y2_4 : Int32) (y3_4 : Int32) (ls : Array Slot), rgI (48) (96) a0 → rgI (0) (24) y3_4 → (24 - (y3_4).toInt).toNat < n_4 → lv_has ls 4 [(0, .ref h0), (1, .int a0), (2, .int y2_4), (3, .int y3_4)] → (F_X12_bitsOf_x_4 n_4 a0 y2_4 y3_4 (G.2.1 (g.2.2 100))) = F_X12_bitsOf_x (G.2.1 (g.2.2 100)) a0 → Wm p l e (wsG yX12_bitsOf cX12_bitsOf 4 (some .int)) ({ frames := 2, cells := 0, slots := 0, locals := 43 }) s m [.ref h0, .int a0] below meth c s.heap [] (0) (0) (vp_Si (fun r => r = F_X12_bitsOf_x (G.2.1 (g.2.2 100)) a0)) 0 0 (fun _ => False) (F0 m 4 ls []) := by
    intro n_4
    induction n_4 with
    | zero => intro y2_4 y3_4 ls ry1_4 ry3_4 hm; exact absurd hm (Nat.not_lt_zero _)
    | succ n_4 ih_4 =>
      intro y2_4 y3_4 ls ry1_4 ry3_4 hm_4 hl hv
      rw [F_X12_bitsOf_x_4] at hv
      refine lv_iload_n hx hb dX12_bitsOf_4 rfl (lv_at hl 3 rfl) ?_
      refine lv_bipush (v := 24) hx hb dX12_bitsOf_5 (by decide) ?_
      refine lv_icmp_ge (tgt := 48) hx hb dX12_bitsOf_7 (by decide) (fun c_1 => ?_) (fun c_1 => ?_)
      · rw [if_pos c_1] at hv
        have r_2 : rgI (24) (24) y3_4 := rg_w (rg_leR rl_24 ry3_4 c_1) (by decide) (by decide)
        refine lv_iload_n hx hb dX12_bitsOf_48 rfl (lv_at hl 2 rfl) ?_
        exact W.iret hx hb hr (fun t ht hW => ⟨y2_4, rfl, hv, ht⟩) (fun q h => by cases h) dX12_bitsOf_49
      · rw [if_neg c_1] at hv
        have r_3 : rgI (0) (23) y3_4 := rg_w (rg_ltL ry3_4 rl_24 (nle_lt c_1)) (by decide) (by decide)
        refine lv_iload_n hx hb dX12_bitsOf_10 rfl (lv_at hl 2 rfl) ?_
        refine lv_aload_n hx hb dX12_bitsOf_11 rfl (lv_at hl 0 rfl) ?_
        obtain ⟨_, ⟨rfl, t_5, hk_6⟩, o_c_4⟩ := hH h0 _ k_h0
        refine hg_get hx hb hG igX12 hown hK o_c_4 rfl 0 (by decide) (hG _ mw_1284) rfl dX12_bitsOf_12 ?_
        refine lv_iload_n hx hb dX12_bitsOf_15 rfl (lv_at hl 3 rfl) ?_
        refine vp_callSi (W.runS (As := [.ref (g.2.2 100), .int y3_4]) (rest := [.int y2_4]) ⟨hx, hb, hml, hown, hts⟩ (c_X12_isThere l g Ty G (g.2.2 100) y3_4 (hk_6.1)) (cwSx 2 hts hG (gwC mw_1520) mw_88 mw_1518 mw_1519 rfl rfl rfl hd_X12_isThere ⟨Nat.le_of_ble_eq_true rfl, Nat.le_of_ble_eq_true rfl⟩) ⟨PcH_blind, PcH_pre hK hH⟩ rfl rfl hl.1 rfl (lv_room (Nat.le_of_ble_eq_true rfl)) dX12_bitsOf_16 ⟨Nat.zero_le _, Nat.zero_le _⟩) (fun x_7 hx_7 => ?_)
        have rx_7 : rgI (0) (1) x_7 := hx_7.1
        try rw [← hx_7.2.2] at hv
        try rw [← hx_7.2.2] at hv
        refine lv_if_eq (tgt := 39) hx hb dX12_bitsOf_19 (by decide) (fun c_8 => ?_) (fun c_8 => ?_)
        · rw [if_pos c_8] at hv
          have r_9 : rgI (0) (0) x_7 := rg_w (rg_eq rl_0 c_8) (by decide) (by decide)
          refine lv_iconst (v := 0) hx hb dX12_bitsOf_39 (by decide) ?_
          refine lv_ior hx hb dX12_bitsOf_40 ?_
          refine lv_topi (fun x_10 ex_10 => ?_)
          try rw [← ex_10] at hv
          refine lv_istore_n (lv' := [(2, .int x_10), (0, .ref h0), (1, .int a0), (3, .int y3_4)]) hx hb dX12_bitsOf_41 rfl hl (by decide) rfl (fun ls hl => ?_)
          obtain ⟨x_11, ex_11⟩ : ∃ y : Int32, y = y3_4 + 1 := ⟨_, rfl⟩
          try rw [← ex_11] at hv
          have rx_11 : rgI (1) (24) x_11 := by rw [ex_11]; exact rg_w (rg_add r_3 rl_1 (by decide) (by decide)) (by decide) (by decide)
          have qx_11 : x_11.toInt = (y3_4 : Int32).toInt + 1 := by rw [ex_11]; exact rg_addE r_3 rl_1 (by decide) (by decide)
          refine lv_iinc (v := x_11) (lv' := [(3, .int x_11), (2, .int x_10), (0, .ref h0), (1, .int a0)]) hx hb dX12_bitsOf_42 hl (k := 3) rfl (by rw [ex_11]; rfl) (by decide) rfl (fun ls hl => ?_)
          refine lv_goto (tgt := 4) hx hb dX12_bitsOf_45 (by decide) ?_
          exact ih_4 x_10 x_11 ls ry1_4 (rg_w rx_11 (by decide) (by decide)) (by have h1 := qx_11; have h2 := r_3.1; have h3 := r_3.2; have h4 := hm_4; omega) (lv_sub hl [2, 3, 1, 0] rfl) hv
        · rw [if_neg c_8] at hv
          have th_12 : thr (G.2.1 (g.2.2 100)) y3_4 := F_isThere_thr (by rw [← hx_7.2.2]; exact c_8)
          have r_13 : rgI (1) (1) x_7 := rg_w (rg_neL rx_7 rl_0 c_8) (by decide) (by decide)
          refine lv_aload_n hx hb dX12_bitsOf_22 rfl (lv_at hl 0 rfl) ?_
          refine hg_get hx hb hG igX12 hown hK o_c_4 rfl 0 (by decide) (hG _ mw_1284) rfl dX12_bitsOf_23 ?_
          refine lv_iload_n hx hb dX12_bitsOf_26 rfl (lv_at hl 1 rfl) ?_
          refine lv_iload_n hx hb dX12_bitsOf_27 rfl (lv_at hl 3 rfl) ?_
          refine lv_iadd hx hb dX12_bitsOf_28 ?_
          refine lv_topi (fun x_14 ex_14 => ?_)
          try rw [← ex_14] at hv
          have rx_14 : rgI (48) (119) x_14 := by rw [ex_14]; exact rg_w (rg_add ry1_4 r_3 (by decide) (by decide)) (by decide) (by decide)
          obtain ⟨_, rfl, o_c_15⟩ := hH (g.2.2 100) _ hk_6.1
          have o_c_15 : va_at g.1 vwCl ((g.2.2 100), .inl (g.2.1 1, 122, .inl (G.2.1 (g.2.2 100)))) s.heap := o_c_15
          refine hg_iald hx hb hK o_c_15 (rg_in (n := 122) rx_14 (by decide) (by decide)) dX12_bitsOf_29 ?_
          refine lv_topi (fun x_16 ex_16 => ?_)
          try rw [← ex_16] at hv
          refine lv_if_eq (tgt := 39) hx hb dX12_bitsOf_30 (by decide) (fun c_17 => ?_) (fun c_17 => ?_)
          · rw [if_pos c_17] at hv
            have r_18 : rgI (0) (0) x_16 := rg_w (rg_eq rl_0 c_17) (by decide) (by decide)
            refine lv_iconst (v := 0) hx hb dX12_bitsOf_39 (by decide) ?_
            refine lv_ior hx hb dX12_bitsOf_40 ?_
            refine lv_topi (fun x_19 ex_19 => ?_)
            try rw [← ex_19] at hv
            refine lv_istore_n (lv' := [(2, .int x_19), (0, .ref h0), (1, .int a0), (3, .int y3_4)]) hx hb dX12_bitsOf_41 rfl hl (by decide) rfl (fun ls hl => ?_)
            obtain ⟨x_20, ex_20⟩ : ∃ y : Int32, y = y3_4 + 1 := ⟨_, rfl⟩
            try rw [← ex_20] at hv
            have rx_20 : rgI (1) (24) x_20 := by rw [ex_20]; exact rg_w (rg_add r_3 rl_1 (by decide) (by decide)) (by decide) (by decide)
            have qx_20 : x_20.toInt = (y3_4 : Int32).toInt + 1 := by rw [ex_20]; exact rg_addE r_3 rl_1 (by decide) (by decide)
            refine lv_iinc (v := x_20) (lv' := [(3, .int x_20), (2, .int x_19), (0, .ref h0), (1, .int a0)]) hx hb dX12_bitsOf_42 hl (k := 3) rfl (by rw [ex_20]; rfl) (by decide) rfl (fun ls hl => ?_)
            refine lv_goto (tgt := 4) hx hb dX12_bitsOf_45 (by decide) ?_
            exact ih_4 x_19 x_20 ls ry1_4 (rg_w rx_20 (by decide) (by decide)) (by have h1 := qx_20; have h2 := r_3.1; have h3 := r_3.2; have h4 := hm_4; omega) (lv_sub hl [2, 3, 1, 0] rfl) hv
          · rw [if_neg c_17] at hv
            refine lv_iconst (v := 1) hx hb dX12_bitsOf_33 (by decide) ?_
            refine lv_iload_n hx hb dX12_bitsOf_34 rfl (lv_at hl 3 rfl) ?_
            refine lv_ishl hx hb dX12_bitsOf_35 ?_
            refine lv_topi (fun x_21 ex_21 => ?_)
            try rw [← ex_21] at hv
            refine lv_goto (tgt := 40) hx hb dX12_bitsOf_36 (by decide) ?_
            refine lv_ior hx hb dX12_bitsOf_40 ?_
            refine lv_topi (fun x_22 ex_22 => ?_)
            try rw [← ex_22] at hv
            refine lv_istore_n (lv' := [(2, .int x_22), (0, .ref h0), (1, .int a0), (3, .int y3_4)]) hx hb dX12_bitsOf_41 rfl hl (by decide) rfl (fun ls hl => ?_)
            obtain ⟨x_23, ex_23⟩ : ∃ y : Int32, y = y3_4 + 1 := ⟨_, rfl⟩
            try rw [← ex_23] at hv
            have rx_23 : rgI (1) (24) x_23 := by rw [ex_23]; exact rg_w (rg_add r_3 rl_1 (by decide) (by decide)) (by decide) (by decide)
            have qx_23 : x_23.toInt = (y3_4 : Int32).toInt + 1 := by rw [ex_23]; exact rg_addE r_3 rl_1 (by decide) (by decide)
            refine lv_iinc (v := x_23) (lv' := [(3, .int x_23), (2, .int x_22), (0, .ref h0), (1, .int a0)]) hx hb dX12_bitsOf_42 hl (k := 3) rfl (by rw [ex_23]; rfl) (by decide) rfl (fun ls hl => ?_)
            refine lv_goto (tgt := 4) hx hb dX12_bitsOf_45 (by decide) ?_
            exact ih_4 x_22 x_23 ls ry1_4 (rg_w rx_23 (by decide) (by decide)) (by have h1 := qx_23; have h2 := r_3.1; have h3 := r_3.2; have h4 := hm_4; omega) (lv_sub hl [2, 3, 1, 0] rfl) hv
  refine lv_iconst (v := 0) hx hb dX12_bitsOf_0 (by decide) ?_
  refine lv_istore_n (lv' := [(2, .int 0), (0, .ref h0), (1, .int a0)]) hx hb dX12_bitsOf_1 rfl hl (by decide) rfl (fun ls hl => ?_)
  refine lv_iconst (v := 0) hx hb dX12_bitsOf_2 (by decide) ?_
  refine lv_istore_n (lv' := [(3, .int 0), (2, .int 0), (0, .ref h0), (1, .int a0)]) hx hb dX12_bitsOf_3 rfl hl (by decide) rfl (fun ls hl => ?_)
  exact L_4 26 0 0 ls pr0 (rg_w rl_0 (by decide) (by decide)) (by decide) (lv_sub hl [2, 3, 1, 0] rfl) hv

def F_X12_refusesTree_x (r0 : Nat → Int32) (a1 : Int32) (a2 : Int32) (a3 : Int32) : Int32 := (if (F_X12_isThere r0 a1) = (0 : Int32) then (-1 : Int32) else (if (F_X12_isThere r0 a2) = (0 : Int32) then (-1 : Int32) else (if (F_X12_isDir a3) = (0 : Int32) then (-1 : Int32) else (if (F_X12_atOf r0 a2 a3) = (24 : Int32) then (if (r0 (Int32.toNatClampNeg ((96 : Int32) + a1))) = (1 : Int32) then (-3 : Int32) else (if (r0 (Int32.toNatClampNeg ((48 : Int32) + a2))) = (0 : Int32) then (if ((F_J6_bitCount_0f7a4 (F_X12_thereOf r0)) + (nI (TZ r0 25 a1))) ≤ (24 : Int32) then (0 : Int32) else (-9 : Int32)) else (-4 : Int32))) else (-2 : Int32)))))
set_option maxHeartbeats 4000000 in
set_option maxRecDepth 100000 in
theorem c_X12_refusesTree_x (l : Launch) (g : Gx) (Ty : TyM) (G : Gh) (h0 : Nat) (b0 : Nat) (a1 : Int32) (a2 : Int32) (a3 : Int32) (k_h0 : Ty h0 = some (22, 0)) (k_b0 : Ty b0 = some (30, 122)) (ρ : Nat → Nat) (hT : P1 (G.2.1 b0) ρ) : Met l yX12_refusesTree (wsG yX12_refusesTree cX12_refusesTree 5 (some .int)) ({ frames := 27, cells := 0, slots := 0, locals := 647 }) (PcH g Ty G [.ref h0, .ref b0, .int a1, .int a2, .int a3]) (vp_Si (fun r => rgI (-9) (0) r ∧ (r = 0 → (thr (G.2.1 b0) a1 ∧ thr (G.2.1 b0) a2 ∧ rgI 0 3 a3 ∧ F_X12_atOf (G.2.1 b0) a2 a3 = 24 ∧ (G.2.1 b0) (48 + a2.toNatClampNeg) = 0 ∧ ct (isT (G.2.1 b0)) 24 + TZ (G.2.1 b0) 25 a1 ≤ 24)) ∧ r = F_X12_refusesTree_x (G.2.1 b0) a1 a2 a3)) 0 0 (fun _ => False) := by
  refine Met.ofW (cc := cX12_refusesTree) (maxL := 5) (ret := (some .int)) (by decide) rfl ?_
  intro p e s m args below meth c s₁ B hml hv
  obtain ⟨rfl, hK, hH⟩ := hv
  have hx := B.exec
  have hb := B.bytes
  have hr := B.returns
  have hts := atoms_spec (ws := (wsG yX12_refusesTree cX12_refusesTree 5 (some .int))) B.pre
  have hG : ∀ w ∈ GW, w.before ([.ref h0, .ref b0, .int a1, .int a2, .int a3] : List Value).toArray s = true := fun w h => hts w (List.mem_cons_of_mem _ h)
  have hown : s.vm.findClass RX12 = some m.cls := findClass_of_methodNamed B.named
  have hlocks := B.notSynchronized
  have hl := lv_entry [.ref h0, .ref b0, .int a1, .int a2, .int a3] (n := 5) (Nat.le_of_ble_eq_true rfl)
  rw [lg_entry_eq]
  generalize (lg_sl [.ref h0, .ref b0, .int a1, .int a2, .int a3] ++ List.replicate (5 - (lg_sl [.ref h0, .ref b0, .int a1, .int a2, .int a3]).length) Slot.unset).toArray = ls at hl ⊢
  have hl : lv_has ls 5 [(0, .ref h0), (1, .ref b0), (2, .int a1), (3, .int a2), (4, .int a3)] := hl
  have hmk : mdK g Ty := mdk_of hH k_h0
  have hv : (if (F_X12_isThere (G.2.1 b0) a1) = (0 : Int32) then (-1 : Int32) else (if (F_X12_isThere (G.2.1 b0) a2) = (0 : Int32) then (-1 : Int32) else (if (F_X12_isDir a3) = (0 : Int32) then (-1 : Int32) else (if (F_X12_atOf (G.2.1 b0) a2 a3) = (24 : Int32) then (if ((G.2.1 b0) (Int32.toNatClampNeg ((96 : Int32) + a1))) = (1 : Int32) then (-3 : Int32) else (if ((G.2.1 b0) (Int32.toNatClampNeg ((48 : Int32) + a2))) = (0 : Int32) then (if ((F_J6_bitCount_0f7a4 (F_X12_thereOf (G.2.1 b0))) + (nI (TZ (G.2.1 b0) 25 a1))) ≤ (24 : Int32) then (0 : Int32) else (-9 : Int32)) else (-4 : Int32))) else (-2 : Int32))))) = F_X12_refusesTree_x (G.2.1 b0) a1 a2 a3 := rfl
  refine lv_aload_n hx hb dX12_refusesTree_0 rfl (lv_at hl 1 rfl) ?_
  refine lv_iload_n hx hb dX12_refusesTree_1 rfl (lv_at hl 2 rfl) ?_
  refine vp_callSi (W.runS (As := [.ref b0, .int a1]) (rest := []) ⟨hx, hb, hml, hown, hts⟩ (c_X12_isThere l g Ty G b0 a1 k_b0) (cwSx 2 hts hG (gwC mw_1520) mw_88 mw_1518 mw_1519 rfl rfl rfl hd_X12_isThere ⟨Nat.le_of_ble_eq_true rfl, Nat.le_of_ble_eq_true rfl⟩) ⟨PcH_blind, PcH_pre hK hH⟩ rfl rfl hl.1 rfl (lv_room (Nat.le_of_ble_eq_true rfl)) dX12_refusesTree_2 ⟨Nat.zero_le _, Nat.zero_le _⟩) (fun x_1 hx_1 => ?_)
  have rx_1 : rgI (0) (1) x_1 := hx_1.1
  try rw [← hx_1.2.2] at hv
  try rw [← hx_1.2.2] at hv
  refine lv_if_eq (tgt := 24) hx hb dX12_refusesTree_5 (by decide) (fun c_2 => ?_) (fun c_2 => ?_)
  · rw [if_pos c_2] at hv
    have r_3 : rgI (0) (0) x_1 := rg_w (rg_eq rl_0 c_2) (by decide) (by decide)
    refine lv_iconst (v := (-1)) hx hb dX12_refusesTree_24 (by decide) ?_
    exact W.iret hx hb hr (fun t ht hW => ⟨(-1), rfl, ⟨rg_w rl_m1 (by decide) (by decide), (fun q => absurd q (by decide)), hv⟩, ht⟩) (fun q h => by cases h) dX12_refusesTree_25
  · rw [if_neg c_2] at hv
    have th_4 : thr (G.2.1 b0) a1 := F_isThere_thr (by rw [← hx_1.2.2]; exact c_2)
    have r_5 : rgI (1) (1) x_1 := rg_w (rg_neL rx_1 rl_0 c_2) (by decide) (by decide)
    have r_6 : rgI (0) (23) a1 := rg_w (hx_1.2.1.resolve_left c_2) (by decide) (by decide)
    refine lv_aload_n hx hb dX12_refusesTree_8 rfl (lv_at hl 1 rfl) ?_
    refine lv_iload_n hx hb dX12_refusesTree_9 rfl (lv_at hl 3 rfl) ?_
    refine vp_callSi (W.runS (As := [.ref b0, .int a2]) (rest := []) ⟨hx, hb, hml, hown, hts⟩ (c_X12_isThere l g Ty G b0 a2 k_b0) (cwSx 2 hts hG (gwC mw_1520) mw_88 mw_1518 mw_1519 rfl rfl rfl hd_X12_isThere ⟨Nat.le_of_ble_eq_true rfl, Nat.le_of_ble_eq_true rfl⟩) ⟨PcH_blind, PcH_pre hK hH⟩ rfl rfl hl.1 rfl (lv_room (Nat.le_of_ble_eq_true rfl)) dX12_refusesTree_10 ⟨Nat.zero_le _, Nat.zero_le _⟩) (fun x_7 hx_7 => ?_)
    have rx_7 : rgI (0) (1) x_7 := hx_7.1
    try rw [← hx_7.2.2] at hv
    try rw [← hx_7.2.2] at hv
    refine lv_if_eq (tgt := 24) hx hb dX12_refusesTree_13 (by decide) (fun c_8 => ?_) (fun c_8 => ?_)
    · rw [if_pos c_8] at hv
      have r_9 : rgI (0) (0) x_7 := rg_w (rg_eq rl_0 c_8) (by decide) (by decide)
      refine lv_iconst (v := (-1)) hx hb dX12_refusesTree_24 (by decide) ?_
      exact W.iret hx hb hr (fun t ht hW => ⟨(-1), rfl, ⟨rg_w rl_m1 (by decide) (by decide), (fun q => absurd q (by decide)), hv⟩, ht⟩) (fun q h => by cases h) dX12_refusesTree_25
    · rw [if_neg c_8] at hv
      have th_10 : thr (G.2.1 b0) a2 := F_isThere_thr (by rw [← hx_7.2.2]; exact c_8)
      have r_11 : rgI (1) (1) x_7 := rg_w (rg_neL rx_7 rl_0 c_8) (by decide) (by decide)
      have r_12 : rgI (0) (23) a2 := rg_w (hx_7.2.1.resolve_left c_8) (by decide) (by decide)
      refine lv_iload hx hb dX12_refusesTree_16 (lv_at hl 4 rfl) ?_
      refine vp_callSi (W.runS (As := [.int a3]) (rest := []) ⟨hx, hb, hml, hown, hts⟩ (c_X12_isDir l g Ty G a3 ) (cwSx 1 hts hG (gwC mw_1537) mw_88 mw_1535 mw_1536 rfl rfl rfl hd_X12_isDir ⟨Nat.le_of_ble_eq_true rfl, Nat.le_of_ble_eq_true rfl⟩) ⟨PcH_blind, PcH_pre hK hH⟩ rfl rfl hl.1 rfl (lv_room (Nat.le_of_ble_eq_true rfl)) dX12_refusesTree_18 ⟨Nat.zero_le _, Nat.zero_le _⟩) (fun x_13 hx_13 => ?_)
      have rx_13 : rgI (0) (1) x_13 := hx_13.1
      try rw [← hx_13.2] at hv
      try rw [← hx_13.2] at hv
      refine lv_if_ne (tgt := 26) hx hb dX12_refusesTree_21 (by decide) (fun c_14 => ?_) (fun c_14 => ?_)
      · rw [if_neg c_14] at hv
        have r_15 : rgI (1) (1) x_13 := rg_w (rg_neL rx_13 rl_0 c_14) (by decide) (by decide)
        have r_16 : rgI (0) (3) a3 := rg_w (F_isDir_rg (by rw [← hx_13.2]; exact c_14)) (by decide) (by decide)
        refine lv_aload_n hx hb dX12_refusesTree_26 rfl (lv_at hl 1 rfl) ?_
        refine lv_iload_n hx hb dX12_refusesTree_27 rfl (lv_at hl 3 rfl) ?_
        refine lv_iload hx hb dX12_refusesTree_28 (lv_at hl 4 rfl) ?_
        refine vp_callSi (W.runS (As := [.ref b0, .int a2, .int a3]) (rest := []) ⟨hx, hb, hml, hown, hts⟩ (c_X12_atOf l g Ty G b0 a2 a3 k_b0) (cwSx 3 hts hG (gwC mw_1509) mw_88 mw_1507 mw_1508 rfl rfl rfl hd_X12_atOf ⟨Nat.le_of_ble_eq_true rfl, Nat.le_of_ble_eq_true rfl⟩) ⟨PcH_blind, PcH_pre hK hH⟩ rfl rfl hl.1 rfl (lv_room (Nat.le_of_ble_eq_true rfl)) dX12_refusesTree_30 ⟨Nat.zero_le _, Nat.zero_le _⟩) (fun x_17 hx_17 => ?_)
        have rx_17 : rgI (1) (24) x_17 := hx_17.1
        try rw [← hx_17.2] at hv
        try rw [← hx_17.2] at hv
        refine lv_bipush (v := 24) hx hb dX12_refusesTree_33 (by decide) ?_
        refine lv_icmp_eq (tgt := 41) hx hb dX12_refusesTree_35 (by decide) (fun c_18 => ?_) (fun c_18 => ?_)
        · rw [if_pos c_18] at hv
          have r_19 : rgI (24) (24) x_17 := rg_w (rg_eq rl_24 c_18) (by decide) (by decide)
          refine lv_aload_n hx hb dX12_refusesTree_41 rfl (lv_at hl 1 rfl) ?_
          refine lv_bipush (v := 96) hx hb dX12_refusesTree_42 (by decide) ?_
          refine lv_iload_n hx hb dX12_refusesTree_44 rfl (lv_at hl 2 rfl) ?_
          refine lv_iadd hx hb dX12_refusesTree_45 ?_
          refine lv_topi (fun x_20 ex_20 => ?_)
          try rw [← ex_20] at hv
          have rx_20 : rgI (96) (119) x_20 := by rw [ex_20]; exact rg_w (rg_add rl_96 r_6 (by decide) (by decide)) (by decide) (by decide)
          obtain ⟨_, rfl, o_c_21⟩ := hH b0 _ k_b0
          have o_c_21 : va_at g.1 vwCl (b0, .inl (g.2.1 1, 122, .inl (G.2.1 b0))) s.heap := o_c_21
          refine hg_iald hx hb hK o_c_21 (rg_in (n := 122) rx_20 (by decide) (by decide)) dX12_refusesTree_46 ?_
          refine lv_topi (fun x_22 ex_22 => ?_)
          try rw [← ex_22] at hv
          refine lv_iconst (v := 1) hx hb dX12_refusesTree_47 (by decide) ?_
          refine lv_icmp_ne (tgt := 54) hx hb dX12_refusesTree_48 (by decide) (fun c_23 => ?_) (fun c_23 => ?_)
          · rw [if_neg c_23] at hv
            refine lv_aload_n hx hb dX12_refusesTree_54 rfl (lv_at hl 1 rfl) ?_
            refine lv_bipush (v := 48) hx hb dX12_refusesTree_55 (by decide) ?_
            refine lv_iload_n hx hb dX12_refusesTree_57 rfl (lv_at hl 3 rfl) ?_
            refine lv_iadd hx hb dX12_refusesTree_58 ?_
            refine lv_topi (fun x_24 ex_24 => ?_)
            try rw [← ex_24] at hv
            have rx_24 : rgI (48) (71) x_24 := by rw [ex_24]; exact rg_w (rg_add rl_48 r_12 (by decide) (by decide)) (by decide) (by decide)
            refine hg_iald hx hb hK o_c_21 (rg_in (n := 122) rx_24 (by decide) (by decide)) dX12_refusesTree_59 ?_
            refine lv_topi (fun x_25 ex_25 => ?_)
            try rw [← ex_25] at hv
            refine lv_if_eq (tgt := 66) hx hb dX12_refusesTree_60 (by decide) (fun c_26 => ?_) (fun c_26 => ?_)
            · rw [if_pos c_26] at hv
              have r_27 : rgI (0) (0) x_25 := rg_w (rg_eq rl_0 c_26) (by decide) (by decide)
              refine lv_aload_n hx hb dX12_refusesTree_66 rfl (lv_at hl 1 rfl) ?_
              refine vp_callSi (W.runS (As := [.ref b0]) (rest := []) ⟨hx, hb, hml, hown, hts⟩ (c_X12_thereOf l g Ty G b0 k_b0) (cwSx 1 hts hG (gwC mw_1552) mw_88 mw_1550 mw_1551 rfl rfl rfl hd_X12_thereOf ⟨Nat.le_of_ble_eq_true rfl, Nat.le_of_ble_eq_true rfl⟩) ⟨PcH_blind, PcH_pre hK hH⟩ rfl rfl hl.1 rfl (lv_room (Nat.le_of_ble_eq_true rfl)) dX12_refusesTree_67 ⟨Nat.zero_le _, Nat.zero_le _⟩) (fun x_28 hx_28 => ?_)
              try rw [← hx_28] at hv
              try rw [← hx_28] at hv
              refine vp_callSi (W.runS (As := [.int x_28]) (rest := []) ⟨hx, hb, hml, hown, hts⟩ (c_J6_bitCount_x l g Ty G x_28 ) (cwSx 1 hts hG (gwC mw_620) mw_99 mw_1553 mw_619 rfl rfl rfl hd_J6_bitCount_0f7a4 ⟨Nat.le_of_ble_eq_true rfl, Nat.le_of_ble_eq_true rfl⟩) ⟨PcH_blind, PcH_pre hK hH⟩ rfl rfl hl.1 rfl (lv_room (Nat.le_of_ble_eq_true rfl)) dX12_refusesTree_70 ⟨Nat.zero_le _, Nat.zero_le _⟩) (fun x_29 hx_29 => ?_)
              have rx_29 : rgI (0) (63) x_29 := hx_29.1
              try rw [← hx_29.2] at hv
              try rw [← hx_29.2] at hv
              have cq_30 : x_29 = F_J6_bitCount_0f7a4 (F_X12_thereOf (G.2.1 b0)) := by rw [← hx_28]; exact hx_29.2
              refine lv_aload_n hx hb dX12_refusesTree_73 rfl (lv_at hl 1 rfl) ?_
              refine lv_iload_n hx hb dX12_refusesTree_74 rfl (lv_at hl 2 rfl) ?_
              refine vp_callSi (W.runS (As := [.ref b0, .int a1]) (rest := [.int x_29]) ⟨hx, hb, hml, hown, hts⟩ (c_X12_treeOf l g 25 Ty G b0 a1 k_b0 ρ hT th_4 (by omega)) (cwSx 2 hts hG (gwC mw_1627) mw_88 mw_1625 mw_1626 rfl rfl rfl hd_X12_treeOf ⟨Nat.le_of_ble_eq_true rfl, Nat.le_of_ble_eq_true rfl⟩) ⟨PcH_blind, PcH_pre hK hH⟩ rfl rfl hl.1 rfl (lv_room (Nat.le_of_ble_eq_true rfl)) dX12_refusesTree_75 ⟨Nat.zero_le _, Nat.zero_le _⟩) (fun x_31 hx_31 => ?_)
              have tq_32 : x_31 = nI (TZ (G.2.1 b0) 25 a1) := hx_31
              try rw [← tq_32] at hv
              refine lv_iadd hx hb dX12_refusesTree_78 ?_
              refine lv_topi (fun x_33 ex_33 => ?_)
              try rw [← ex_33] at hv
              refine lv_bipush (v := 24) hx hb dX12_refusesTree_79 (by decide) ?_
              refine lv_icmp_le (tgt := 89) hx hb dX12_refusesTree_81 (by decide) (fun c_34 => ?_) (fun c_34 => ?_)
              · rw [if_pos c_34] at hv
                have r_35 : rgI (-2147483648) (24) x_33 := rg_w (rg_leL (rg_top x_33) rl_24 c_34) (by decide) (by decide)
                refine lv_iconst (v := 0) hx hb dX12_refusesTree_89 (by decide) ?_
                exact W.iret hx hb hr (fun t ht hW => ⟨0, rfl, ⟨rg_w rl_0 (by decide) (by decide), (fun _ => ⟨th_4, th_10, r_16, by rw [← hx_17.2]; exact c_18, a48_0 th_10 ex_24 ex_25 c_26, rt_cnt hT th_4 cq_30 hx_31 ex_33 c_34⟩), hv⟩, ht⟩) (fun q h => by cases h) dX12_refusesTree_90
              · rw [if_neg c_34] at hv
                have r_36 : rgI (25) (2147483647) x_33 := rg_w (rg_ltR rl_24 (rg_top x_33) (nle_lt c_34)) (by decide) (by decide)
                refine lv_bipush (v := (-9)) hx hb dX12_refusesTree_84 (by decide) ?_
                refine lv_goto (tgt := 90) hx hb dX12_refusesTree_86 (by decide) ?_
                exact W.iret hx hb hr (fun t ht hW => ⟨(-9), rfl, ⟨rg_w rl_m9 (by decide) (by decide), (fun q => absurd q (by decide)), hv⟩, ht⟩) (fun q h => by cases h) dX12_refusesTree_90
            · rw [if_neg c_26] at hv
              refine lv_bipush (v := (-4)) hx hb dX12_refusesTree_63 (by decide) ?_
              exact W.iret hx hb hr (fun t ht hW => ⟨(-4), rfl, ⟨rg_w rl_m4 (by decide) (by decide), (fun q => absurd q (by decide)), hv⟩, ht⟩) (fun q h => by cases h) dX12_refusesTree_65
          · rw [if_pos c_23] at hv
            have r_37 : rgI (1) (1) x_22 := rg_w (rg_eq rl_1 c_23) (by decide) (by decide)
            refine lv_bipush (v := (-3)) hx hb dX12_refusesTree_51 (by decide) ?_
            exact W.iret hx hb hr (fun t ht hW => ⟨(-3), rfl, ⟨rg_w rl_m3 (by decide) (by decide), (fun q => absurd q (by decide)), hv⟩, ht⟩) (fun q h => by cases h) dX12_refusesTree_53
        · rw [if_neg c_18] at hv
          have r_38 : rgI (1) (23) x_17 := rg_w (rg_neR rx_17 rl_24 c_18) (by decide) (by decide)
          refine lv_bipush (v := (-2)) hx hb dX12_refusesTree_38 (by decide) ?_
          exact W.iret hx hb hr (fun t ht hW => ⟨(-2), rfl, ⟨rg_w rl_m2 (by decide) (by decide), (fun q => absurd q (by decide)), hv⟩, ht⟩) (fun q h => by cases h) dX12_refusesTree_40
      · rw [if_pos c_14] at hv
        have r_39 : rgI (0) (0) x_13 := rg_w (rg_eq rl_0 c_14) (by decide) (by decide)
        refine lv_iconst (v := (-1)) hx hb dX12_refusesTree_24 (by decide) ?_
        exact W.iret hx hb hr (fun t ht hW => ⟨(-1), rfl, ⟨rg_w rl_m1 (by decide) (by decide), (fun q => absurd q (by decide)), hv⟩, ht⟩) (fun q h => by cases h) dX12_refusesTree_25

def F_X12_fitting_x_22 : Nat → Int32 → Int32 → Int32 → Int32 → (Nat → Int32) → Int32
  | 0, _, _, y3, _, _ => y3
  | n + 1, y1, y2, y3, y4, yr0 => y3
def F_X12_fitting_x_4 : Nat → Int32 → Int32 → (Nat → Int32) → Int32
  | 0, y1, _, _ => y1
  | n + 1, y1, y2, yr0 => (if (24 : Int32) ≤ y2 then y1 else (if (F_X12_fitting_x_22 14 y1 y2 (F_X12_isThere yr0 y2) (0 : Int32) yr0) = (0 : Int32) then (F_X12_fitting_x_4 n (y1 ||| (0 : Int32)) (y2 + (1 : Int32)) yr0) else (F_X12_fitting_x_4 n (y1 ||| ((1 : Int32) <<< (y2 &&& 31))) (y2 + (1 : Int32)) yr0)))
def F_X12_fitting_x (r0 : Nat → Int32) : Int32 := (F_X12_fitting_x_4 26 (0 : Int32) (0 : Int32) r0)
set_option maxHeartbeats 4000000 in
set_option maxRecDepth 100000 in
theorem c_X12_fitting_x (l : Launch) (g : Gx) (Ty : TyM) (G : Gh) (h0 : Nat) (k_h0 : Ty h0 = some (22, 0)) (Bd : Int) (hI : OI g Bd G) (hBd : Bd ≤ 1900000) (hLD : LD g) (h133 : G.1 133 = 0) : Met l yX12_fitting (wsG yX12_fitting cX12_fitting 5 (some .int)) ({ frames := 5, cells := 0, slots := 0, locals := 113 }) (PcH g Ty G [.ref h0]) (vp_Si (fun r => (SB (G.2.1 (g.2.2 100)) r) ∧ r = F_X12_fitting_x (G.2.1 (g.2.2 100)))) 0 0 (fun _ => False) := by
  refine Met.ofW (cc := cX12_fitting) (maxL := 5) (ret := (some .int)) (by decide) rfl ?_
  intro p e s m args below meth c s₁ B hml hv
  obtain ⟨rfl, hK, hH⟩ := hv
  have hx := B.exec
  have hb := B.bytes
  have hr := B.returns
  have hts := atoms_spec (ws := (wsG yX12_fitting cX12_fitting 5 (some .int))) B.pre
  have hG : ∀ w ∈ GW, w.before ([.ref h0] : List Value).toArray s = true := fun w h => hts w (List.mem_cons_of_mem _ h)
  have hown : s.vm.findClass RX12 = some m.cls := findClass_of_methodNamed B.named
  have hlocks := B.notSynchronized
  have hl := lv_entry [.ref h0] (n := 5) (Nat.le_of_ble_eq_true rfl)
  rw [lg_entry_eq]
  generalize (lg_sl [.ref h0] ++ List.replicate (5 - (lg_sl [.ref h0]).length) Slot.unset).toArray = ls at hl ⊢
  have hl : lv_has ls 5 [(0, .ref h0)] := hl
  have hmk : mdK g Ty := mdk_of hH k_h0
  obtain ⟨⟨σ0, hTS0⟩, h10, hBB0⟩ := id hI.ti
  obtain ⟨ρ, hT⟩ := hTS0.1
  have hv : (F_X12_fitting_x_4 26 (0 : Int32) (0 : Int32) (G.2.1 (g.2.2 100))) = F_X12_fitting_x (G.2.1 (g.2.2 100)) := rfl
  have L_4 : ∀ (n_4 : Nat) (y1_4 : Int32) (y2_4 : Int32) (ls : Array Slot), rgI (0) (24) y2_4 → SB (G.2.1 (g.2.2 100)) y1_4 → (24 - (y2_4).toInt).toNat < n_4 → lv_has ls 5 [(0, .ref h0), (1, .int y1_4), (2, .int y2_4)] → (F_X12_fitting_x_4 n_4 y1_4 y2_4 (G.2.1 (g.2.2 100))) = F_X12_fitting_x (G.2.1 (g.2.2 100)) → Wm p l e (wsG yX12_fitting cX12_fitting 5 (some .int)) ({ frames := 5, cells := 0, slots := 0, locals := 113 }) s m [.ref h0] below meth c s.heap [] (0) (0) (vp_Si (fun r => (SB (G.2.1 (g.2.2 100)) r) ∧ r = F_X12_fitting_x (G.2.1 (g.2.2 100)))) 0 0 (fun _ => False) (F0 m 4 ls []) := by
    intro n_4
    induction n_4 with
    | zero => intro y1_4 y2_4 ls ry2_4 hi0_4 hm; exact absurd hm (Nat.not_lt_zero _)
    | succ n_4 ih_4 =>
      intro y1_4 y2_4 ls ry2_4 hi0_4 hm_4 hl hv
      have L_22 : ∀ (n_22 : Nat) (y3_22 : Int32) (y4_22 : Int32) (ls : Array Slot), rgI (0) (23) y2_4 → rgI (0) (1) y3_22 → rgI (0) (0) y4_22 → (¬ y3_22 = 0 → thr (G.2.1 (g.2.2 100)) y2_4) → (12 - (y4_22).toInt).toNat < n_22 → lv_has ls 5 [(0, .ref h0), (1, .int y1_4), (2, .int y2_4), (3, .int y3_22), (4, .int y4_22)] → (if (F_X12_fitting_x_22 n_22 y1_4 y2_4 y3_22 y4_22 (G.2.1 (g.2.2 100))) = (0 : Int32) then (F_X12_fitting_x_4 n_4 (y1_4 ||| (0 : Int32)) (y2_4 + (1 : Int32)) (G.2.1 (g.2.2 100))) else (F_X12_fitting_x_4 n_4 (y1_4 ||| ((1 : Int32) <<< (y2_4 &&& 31))) (y2_4 + (1 : Int32)) (G.2.1 (g.2.2 100)))) = F_X12_fitting_x (G.2.1 (g.2.2 100)) → Wm p l e (wsG yX12_fitting cX12_fitting 5 (some .int)) ({ frames := 5, cells := 0, slots := 0, locals := 113 }) s m [.ref h0] below meth c s.heap [] (0) (0) (vp_Si (fun r => (SB (G.2.1 (g.2.2 100)) r) ∧ r = F_X12_fitting_x (G.2.1 (g.2.2 100)))) 0 0 (fun _ => False) (F0 m 22 ls []) := by
        intro n_22
        induction n_22 with
        | zero => intro y3_22 y4_22 ls ry2_22 ry3_22 ry4_22 hi0_22 hm; exact absurd hm (Nat.not_lt_zero _)
        | succ n_22 ih_22 =>
          intro y3_22 y4_22 ls ry2_22 ry3_22 ry4_22 hi0_22 hm_22 hl hv
          rw [F_X12_fitting_x_22] at hv
          refine lv_iload hx hb dX12_fitting_22 (lv_at hl 4 rfl) ?_
          refine lv_aload_n hx hb dX12_fitting_24 rfl (lv_at hl 0 rfl) ?_
          obtain ⟨_, ⟨rfl, t_2, hk_3⟩, o_c_1⟩ := hH h0 _ k_h0
          refine hg_get hx hb hG igX12 hown hK o_c_1 rfl 33 (by decide) (hG _ mw_1317) rfl dX12_fitting_25 ?_
          rw [h133]
          refine lv_icmp_ge (tgt := 61) hx hb dX12_fitting_28 (by decide) (fun c_4 => ?_) (fun c_4 => ?_)
          · refine lv_iload_n hx hb dX12_fitting_61 rfl (lv_at hl 1 rfl) ?_
            refine lv_iload_n hx hb dX12_fitting_62 rfl (lv_at hl 3 rfl) ?_
            refine lv_if_eq (tgt := 72) hx hb dX12_fitting_63 (by decide) (fun c_5 => ?_) (fun c_5 => ?_)
            · rw [if_pos c_5] at hv
              have r_6 : rgI (0) (0) y3_22 := rg_w (rg_eq rl_0 c_5) (by decide) (by decide)
              refine lv_iconst (v := 0) hx hb dX12_fitting_72 (by decide) ?_
              refine lv_ior hx hb dX12_fitting_73 ?_
              refine lv_topi (fun x_7 ex_7 => ?_)
              try rw [← ex_7] at hv
              refine lv_istore_n (lv' := [(1, .int x_7), (0, .ref h0), (2, .int y2_4), (3, .int y3_22), (4, .int y4_22)]) hx hb dX12_fitting_74 rfl hl (by decide) rfl (fun ls hl => ?_)
              obtain ⟨x_8, ex_8⟩ : ∃ y : Int32, y = y2_4 + 1 := ⟨_, rfl⟩
              try rw [← ex_8] at hv
              have rx_8 : rgI (1) (24) x_8 := by rw [ex_8]; exact rg_w (rg_add ry2_22 rl_1 (by decide) (by decide)) (by decide) (by decide)
              have qx_8 : x_8.toInt = (y2_4 : Int32).toInt + 1 := by rw [ex_8]; exact rg_addE ry2_22 rl_1 (by decide) (by decide)
              refine lv_iinc (v := x_8) (lv' := [(2, .int x_8), (1, .int x_7), (0, .ref h0), (3, .int y3_22), (4, .int y4_22)]) hx hb dX12_fitting_75 hl (k := 2) rfl (by rw [ex_8]; rfl) (by decide) rfl (fun ls hl => ?_)
              refine lv_goto (tgt := 4) hx hb dX12_fitting_78 (by decide) ?_
              exact ih_4 x_7 x_8 ls (rg_w rx_8 (by decide) (by decide)) (by rw [ex_7]; exact SB.or hi0_4 SB.zero) (by have h1 := qx_8; have h2 := ry2_22.1; have h3 := ry2_22.2; have h4 := hm_4; omega) (lv_sub hl [2, 1, 0] rfl) hv
            · rw [if_neg c_5] at hv
              have r_9 : rgI (1) (1) y3_22 := rg_w (rg_neL ry3_22 rl_0 c_5) (by decide) (by decide)
              refine lv_iconst (v := 1) hx hb dX12_fitting_66 (by decide) ?_
              refine lv_iload_n hx hb dX12_fitting_67 rfl (lv_at hl 2 rfl) ?_
              refine lv_ishl hx hb dX12_fitting_68 ?_
              refine lv_topi (fun x_10 ex_10 => ?_)
              try rw [← ex_10] at hv
              refine lv_goto (tgt := 73) hx hb dX12_fitting_69 (by decide) ?_
              refine lv_ior hx hb dX12_fitting_73 ?_
              refine lv_topi (fun x_11 ex_11 => ?_)
              try rw [← ex_11] at hv
              refine lv_istore_n (lv' := [(1, .int x_11), (0, .ref h0), (2, .int y2_4), (3, .int y3_22), (4, .int y4_22)]) hx hb dX12_fitting_74 rfl hl (by decide) rfl (fun ls hl => ?_)
              obtain ⟨x_12, ex_12⟩ : ∃ y : Int32, y = y2_4 + 1 := ⟨_, rfl⟩
              try rw [← ex_12] at hv
              have rx_12 : rgI (1) (24) x_12 := by rw [ex_12]; exact rg_w (rg_add ry2_22 rl_1 (by decide) (by decide)) (by decide) (by decide)
              have qx_12 : x_12.toInt = (y2_4 : Int32).toInt + 1 := by rw [ex_12]; exact rg_addE ry2_22 rl_1 (by decide) (by decide)
              refine lv_iinc (v := x_12) (lv' := [(2, .int x_12), (1, .int x_11), (0, .ref h0), (3, .int y3_22), (4, .int y4_22)]) hx hb dX12_fitting_75 hl (k := 2) rfl (by rw [ex_12]; rfl) (by decide) rfl (fun ls hl => ?_)
              refine lv_goto (tgt := 4) hx hb dX12_fitting_78 (by decide) ?_
              exact ih_4 x_11 x_12 ls (rg_w rx_12 (by decide) (by decide)) (by rw [ex_11]; exact SB.or hi0_4 (by rw [ex_10]; exact SB.one (hi0_22 c_5))) (by have h1 := qx_12; have h2 := ry2_22.1; have h3 := ry2_22.2; have h4 := hm_4; omega) (lv_sub hl [2, 1, 0] rfl) hv
          · exact rg_no ry4_22 rl_0 (nle_lt c_4) (by decide)
      rw [F_X12_fitting_x_4] at hv
      refine lv_iload_n hx hb dX12_fitting_4 rfl (lv_at hl 2 rfl) ?_
      refine lv_bipush (v := 24) hx hb dX12_fitting_5 (by decide) ?_
      refine lv_icmp_ge (tgt := 81) hx hb dX12_fitting_7 (by decide) (fun c_13 => ?_) (fun c_13 => ?_)
      · rw [if_pos c_13] at hv
        have r_14 : rgI (24) (24) y2_4 := rg_w (rg_leR rl_24 ry2_4 c_13) (by decide) (by decide)
        refine lv_iload_n hx hb dX12_fitting_81 rfl (lv_at hl 1 rfl) ?_
        exact W.iret hx hb hr (fun t ht hW => ⟨y1_4, rfl, ⟨hi0_4, hv⟩, ht⟩) (fun q h => by cases h) dX12_fitting_82
      · rw [if_neg c_13] at hv
        have r_15 : rgI (0) (23) y2_4 := rg_w (rg_ltL ry2_4 rl_24 (nle_lt c_13)) (by decide) (by decide)
        refine lv_aload_n hx hb dX12_fitting_10 rfl (lv_at hl 0 rfl) ?_
        obtain ⟨_, ⟨rfl, t_17, hk_18⟩, o_c_16⟩ := hH h0 _ k_h0
        refine hg_get hx hb hG igX12 hown hK o_c_16 rfl 0 (by decide) (hG _ mw_1284) rfl dX12_fitting_11 ?_
        refine lv_iload_n hx hb dX12_fitting_14 rfl (lv_at hl 2 rfl) ?_
        refine vp_callSi (W.runS (As := [.ref (g.2.2 100), .int y2_4]) (rest := []) ⟨hx, hb, hml, hown, hts⟩ (c_X12_isThere l g Ty G (g.2.2 100) y2_4 (hk_18.1)) (cwSx 2 hts hG (gwC mw_1520) mw_88 mw_1518 mw_1519 rfl rfl rfl hd_X12_isThere ⟨Nat.le_of_ble_eq_true rfl, Nat.le_of_ble_eq_true rfl⟩) ⟨PcH_blind, PcH_pre hK hH⟩ rfl rfl hl.1 rfl (lv_room (Nat.le_of_ble_eq_true rfl)) dX12_fitting_15 ⟨Nat.zero_le _, Nat.zero_le _⟩) (fun x_19 hx_19 => ?_)
        have rx_19 : rgI (0) (1) x_19 := hx_19.1
        try rw [← hx_19.2.2] at hv
        try rw [← hx_19.2.2] at hv
        refine lv_istore_n (lv' := [(3, .int x_19), (0, .ref h0), (1, .int y1_4), (2, .int y2_4)]) hx hb dX12_fitting_18 rfl hl (by decide) rfl (fun ls hl => ?_)
        refine lv_iconst (v := 0) hx hb dX12_fitting_19 (by decide) ?_
        refine lv_istore (lv' := [(4, .int 0), (3, .int x_19), (0, .ref h0), (1, .int y1_4), (2, .int y2_4)]) hx hb dX12_fitting_20 hl (by decide) rfl (fun ls hl => ?_)
        exact L_22 14 x_19 0 ls r_15 rx_19 (rg_w rl_0 (by decide) (by decide)) (fun h => F_isThere_thr (by rw [← hx_19.2.2]; exact h)) (by decide) (lv_sub hl [2, 3, 4, 1, 0] rfl) hv
  refine lv_iconst (v := 0) hx hb dX12_fitting_0 (by decide) ?_
  refine lv_istore_n (lv' := [(1, .int 0), (0, .ref h0)]) hx hb dX12_fitting_1 rfl hl (by decide) rfl (fun ls hl => ?_)
  refine lv_iconst (v := 0) hx hb dX12_fitting_2 (by decide) ?_
  refine lv_istore_n (lv' := [(2, .int 0), (1, .int 0), (0, .ref h0)]) hx hb dX12_fitting_3 rfl hl (by decide) rfl (fun ls hl => ?_)
  exact L_4 26 0 0 ls (rg_w rl_0 (by decide) (by decide)) SB.zero (by decide) (lv_sub hl [2, 1, 0] rfl) hv

def F_X12_isSo_x (r0 : Nat → Int32) (a0 : Int32) (a1 : Int32) (a2 : Int32) : Int32 := (if a1 = (0 : Int32) then (if (F_X12_kindOf r0 a0) = a2 then (1 : Int32) else (0 : Int32)) else (if a1 = (1 : Int32) then (if (F_X12_stepsOf r0 a0) < a2 then (0 : Int32) else (1 : Int32)) else (if a1 = (2 : Int32) then (if (r0 (Int32.toNatClampNeg ((24 : Int32) + a0))) = a2 then (1 : Int32) else (0 : Int32)) else (if a1 = (3 : Int32) then (if (F_X12_childrenOf r0 a0) = a2 then (1 : Int32) else (0 : Int32)) else (if (F_J6_bitCount_0f7a4 (F_X12_spreadOf r0 a0)) ≤ a2 then (0 : Int32) else (1 : Int32))))))
set_option maxHeartbeats 4000000 in
set_option maxRecDepth 100000 in
theorem c_X12_isSo_x (l : Launch) (g : Gx) (Ty : TyM) (G : Gh) (h0 : Nat) (a0 : Int32) (a1 : Int32) (a2 : Int32) (k_h0 : Ty h0 = some (22, 0)) (pr0 : rgI (0) (23) a0) (Bd : Int) (hI : OI g Bd G) (hBd : Bd ≤ 1900000) (hLD : LD g) (hm0 : thr (G.2.1 (g.2.2 100)) a0) : Met l yX12_isSo (wsG yX12_isSo cX12_isSo 4 (some .boolean)) ({ frames := 4, cells := 0, slots := 0, locals := 90 }) (PcH g Ty G [.ref h0, .int a0, .int a1, .int a2]) (vp_Si (fun r => rgI (0) (1) r ∧ r = F_X12_isSo_x (G.2.1 (g.2.2 100)) a0 a1 a2)) 0 0 (fun _ => False) := by
  refine Met.ofW (cc := cX12_isSo) (maxL := 4) (ret := (some .boolean)) (by decide) rfl ?_
  intro p e s m args below meth c s₁ B hml hv
  obtain ⟨rfl, hK, hH⟩ := hv
  have hx := B.exec
  have hb := B.bytes
  have hr := B.returns
  have hts := atoms_spec (ws := (wsG yX12_isSo cX12_isSo 4 (some .boolean))) B.pre
  have hG : ∀ w ∈ GW, w.before ([.ref h0, .int a0, .int a1, .int a2] : List Value).toArray s = true := fun w h => hts w (List.mem_cons_of_mem _ h)
  have hown : s.vm.findClass RX12 = some m.cls := findClass_of_methodNamed B.named
  have hlocks := B.notSynchronized
  have hl := lv_entry [.ref h0, .int a0, .int a1, .int a2] (n := 4) (Nat.le_of_ble_eq_true rfl)
  rw [lg_entry_eq]
  generalize (lg_sl [.ref h0, .int a0, .int a1, .int a2] ++ List.replicate (4 - (lg_sl [.ref h0, .int a0, .int a1, .int a2]).length) Slot.unset).toArray = ls at hl ⊢
  have hl : lv_has ls 4 [(0, .ref h0), (1, .int a0), (2, .int a1), (3, .int a2)] := hl
  have hmk : mdK g Ty := mdk_of hH k_h0
  obtain ⟨⟨σ0, hTS0⟩, h10, hBB0⟩ := id hI.ti
  obtain ⟨ρ, hT⟩ := hTS0.1
  have hv : (if a1 = (0 : Int32) then (if (F_X12_kindOf (G.2.1 (g.2.2 100)) a0) = a2 then (1 : Int32) else (0 : Int32)) else (if a1 = (1 : Int32) then (if (F_X12_stepsOf (G.2.1 (g.2.2 100)) a0) < a2 then (0 : Int32) else (1 : Int32)) else (if a1 = (2 : Int32) then (if ((G.2.1 (g.2.2 100)) (Int32.toNatClampNeg ((24 : Int32) + a0))) = a2 then (1 : Int32) else (0 : Int32)) else (if a1 = (3 : Int32) then (if (F_X12_childrenOf (G.2.1 (g.2.2 100)) a0) = a2 then (1 : Int32) else (0 : Int32)) else (if (F_J6_bitCount_0f7a4 (F_X12_spreadOf (G.2.1 (g.2.2 100)) a0)) ≤ a2 then (0 : Int32) else (1 : Int32)))))) = F_X12_isSo_x (G.2.1 (g.2.2 100)) a0 a1 a2 := rfl
  refine lv_iload_n hx hb dX12_isSo_0 rfl (lv_at hl 2 rfl) ?_
  by_cases c_1 : a1 = 0
  · refine lv_tableIn (tgt := 32) hx hb dX12_isSo_1 (by rw [c_1]; decide) (by rw [c_1]; decide) (off := 31) (by rw [c_1]; rfl) (by decide) ?_
    rw [if_pos c_1] at hv
    have r_2 : rgI (0) (0) a1 := rg_w (rg_eq rl_0 c_1) (by decide) (by decide)
    refine lv_aload_n hx hb dX12_isSo_32 rfl (lv_at hl 0 rfl) ?_
    obtain ⟨_, ⟨rfl, t_4, hk_5⟩, o_c_3⟩ := hH h0 _ k_h0
    refine hg_get hx hb hG igX12 hown hK o_c_3 rfl 0 (by decide) (hG _ mw_1284) rfl dX12_isSo_33 ?_
    refine lv_iload_n hx hb dX12_isSo_36 rfl (lv_at hl 1 rfl) ?_
    refine vp_callSi (W.runS (As := [.ref (g.2.2 100), .int a0]) (rest := []) ⟨hx, hb, hml, hown, hts⟩ (c_X12_kindOf l g Ty G (g.2.2 100) a0 (hk_5.1) (rg_w pr0 (by decide) (by decide))) (cwSx 2 hts hG (gwC mw_1527) mw_88 mw_1525 mw_1526 rfl rfl rfl hd_X12_kindOf ⟨Nat.le_of_ble_eq_true rfl, Nat.le_of_ble_eq_true rfl⟩) ⟨PcH_blind, PcH_pre hK hH⟩ rfl rfl hl.1 rfl (lv_room (Nat.le_of_ble_eq_true rfl)) dX12_isSo_37 ⟨Nat.zero_le _, Nat.zero_le _⟩) (fun x_6 hx_6 => ?_)
    try rw [← hx_6] at hv
    try rw [← hx_6] at hv
    refine lv_iload_n hx hb dX12_isSo_40 rfl (lv_at hl 3 rfl) ?_
    refine lv_icmp_ne (tgt := 48) hx hb dX12_isSo_41 (by decide) (fun c_7 => ?_) (fun c_7 => ?_)
    · rw [if_neg c_7] at hv
      refine lv_iconst (v := 0) hx hb dX12_isSo_48 (by decide) ?_
      exact W.zret hx hb hr rfl (fun t ht hW => ⟨0, rfl, ⟨rg_w rl_0 (by decide) (by decide), hv⟩, ht⟩) (fun q h => by cases h) dX12_isSo_49
    · rw [if_pos c_7] at hv
      refine lv_iconst (v := 1) hx hb dX12_isSo_44 (by decide) ?_
      refine lv_goto (tgt := 49) hx hb dX12_isSo_45 (by decide) ?_
      exact W.zret hx hb hr rfl (fun t ht hW => ⟨1, rfl, ⟨rg_w rl_1 (by decide) (by decide), hv⟩, ht⟩) (fun q h => by cases h) dX12_isSo_49
  rw [if_neg c_1] at hv
  by_cases c_8 : a1 = 1
  · refine lv_tableIn (tgt := 50) hx hb dX12_isSo_1 (by rw [c_8]; decide) (by rw [c_8]; decide) (off := 49) (by rw [c_8]; rfl) (by decide) ?_
    rw [if_pos c_8] at hv
    have r_9 : rgI (1) (1) a1 := rg_w (rg_eq rl_1 c_8) (by decide) (by decide)
    refine lv_aload_n hx hb dX12_isSo_50 rfl (lv_at hl 0 rfl) ?_
    obtain ⟨_, ⟨rfl, t_11, hk_12⟩, o_c_10⟩ := hH h0 _ k_h0
    refine hg_get hx hb hG igX12 hown hK o_c_10 rfl 0 (by decide) (hG _ mw_1284) rfl dX12_isSo_51 ?_
    refine lv_iload_n hx hb dX12_isSo_54 rfl (lv_at hl 1 rfl) ?_
    refine vp_callSi (W.runS (As := [.ref (g.2.2 100), .int a0]) (rest := []) ⟨hx, hb, hml, hown, hts⟩ (c_X12_stepsOf l g Ty G (g.2.2 100) a0 (hk_12.1) ρ hT hm0) (cwSx 2 hts hG (gwC mw_1530) mw_88 mw_1528 mw_1529 rfl rfl rfl hd_X12_stepsOf ⟨Nat.le_of_ble_eq_true rfl, Nat.le_of_ble_eq_true rfl⟩) ⟨PcH_blind, PcH_pre hK hH⟩ rfl rfl hl.1 rfl (lv_room (Nat.le_of_ble_eq_true rfl)) dX12_isSo_55 ⟨Nat.zero_le _, Nat.zero_le _⟩) (fun x_13 hx_13 => ?_)
    have rx_13 : rgI (0) (23) x_13 := hx_13.1
    try rw [← hx_13.2] at hv
    try rw [← hx_13.2] at hv
    refine lv_iload_n hx hb dX12_isSo_58 rfl (lv_at hl 3 rfl) ?_
    refine lv_icmp_lt (tgt := 66) hx hb dX12_isSo_59 (by decide) (fun c_14 => ?_) (fun c_14 => ?_)
    · rw [if_pos c_14] at hv
      have r_15 : rgI (1) (2147483647) a2 := rg_w (rg_ltR rx_13 (rg_top a2) c_14) (by decide) (by decide)
      refine lv_iconst (v := 0) hx hb dX12_isSo_66 (by decide) ?_
      exact W.zret hx hb hr rfl (fun t ht hW => ⟨0, rfl, ⟨rg_w rl_0 (by decide) (by decide), hv⟩, ht⟩) (fun q h => by cases h) dX12_isSo_67
    · rw [if_neg c_14] at hv
      have r_16 : rgI (-2147483648) (23) a2 := rg_w (rg_leL (rg_top a2) rx_13 (nlt_le c_14)) (by decide) (by decide)
      refine lv_iconst (v := 1) hx hb dX12_isSo_62 (by decide) ?_
      refine lv_goto (tgt := 67) hx hb dX12_isSo_63 (by decide) ?_
      exact W.zret hx hb hr rfl (fun t ht hW => ⟨1, rfl, ⟨rg_w rl_1 (by decide) (by decide), hv⟩, ht⟩) (fun q h => by cases h) dX12_isSo_67
  rw [if_neg c_8] at hv
  by_cases c_17 : a1 = 2
  · refine lv_tableIn (tgt := 68) hx hb dX12_isSo_1 (by rw [c_17]; decide) (by rw [c_17]; decide) (off := 67) (by rw [c_17]; rfl) (by decide) ?_
    rw [if_pos c_17] at hv
    have r_18 : rgI (2) (2) a1 := rg_w (rg_eq rl_2 c_17) (by decide) (by decide)
    refine lv_aload_n hx hb dX12_isSo_68 rfl (lv_at hl 0 rfl) ?_
    obtain ⟨_, ⟨rfl, t_20, hk_21⟩, o_c_19⟩ := hH h0 _ k_h0
    refine hg_get hx hb hG igX12 hown hK o_c_19 rfl 0 (by decide) (hG _ mw_1284) rfl dX12_isSo_69 ?_
    refine lv_bipush (v := 24) hx hb dX12_isSo_72 (by decide) ?_
    refine lv_iload_n hx hb dX12_isSo_74 rfl (lv_at hl 1 rfl) ?_
    refine lv_iadd hx hb dX12_isSo_75 ?_
    refine lv_topi (fun x_22 ex_22 => ?_)
    try rw [← ex_22] at hv
    have rx_22 : rgI (24) (47) x_22 := by rw [ex_22]; exact rg_w (rg_add rl_24 pr0 (by decide) (by decide)) (by decide) (by decide)
    obtain ⟨_, rfl, o_c_23⟩ := hH (g.2.2 100) _ hk_21.1
    have o_c_23 : va_at g.1 vwCl ((g.2.2 100), .inl (g.2.1 1, 122, .inl (G.2.1 (g.2.2 100)))) s.heap := o_c_23
    refine hg_iald hx hb hK o_c_23 (rg_in (n := 122) rx_22 (by decide) (by decide)) dX12_isSo_76 ?_
    refine lv_topi (fun x_24 ex_24 => ?_)
    try rw [← ex_24] at hv
    refine lv_iload_n hx hb dX12_isSo_77 rfl (lv_at hl 3 rfl) ?_
    refine lv_icmp_ne (tgt := 85) hx hb dX12_isSo_78 (by decide) (fun c_25 => ?_) (fun c_25 => ?_)
    · rw [if_neg c_25] at hv
      refine lv_iconst (v := 0) hx hb dX12_isSo_85 (by decide) ?_
      exact W.zret hx hb hr rfl (fun t ht hW => ⟨0, rfl, ⟨rg_w rl_0 (by decide) (by decide), hv⟩, ht⟩) (fun q h => by cases h) dX12_isSo_86
    · rw [if_pos c_25] at hv
      refine lv_iconst (v := 1) hx hb dX12_isSo_81 (by decide) ?_
      refine lv_goto (tgt := 86) hx hb dX12_isSo_82 (by decide) ?_
      exact W.zret hx hb hr rfl (fun t ht hW => ⟨1, rfl, ⟨rg_w rl_1 (by decide) (by decide), hv⟩, ht⟩) (fun q h => by cases h) dX12_isSo_86
  rw [if_neg c_17] at hv
  by_cases c_26 : a1 = 3
  · refine lv_tableIn (tgt := 87) hx hb dX12_isSo_1 (by rw [c_26]; decide) (by rw [c_26]; decide) (off := 86) (by rw [c_26]; rfl) (by decide) ?_
    rw [if_pos c_26] at hv
    have r_27 : rgI (3) (3) a1 := rg_w (rg_eq rl_3 c_26) (by decide) (by decide)
    refine lv_aload_n hx hb dX12_isSo_87 rfl (lv_at hl 0 rfl) ?_
    obtain ⟨_, ⟨rfl, t_29, hk_30⟩, o_c_28⟩ := hH h0 _ k_h0
    refine hg_get hx hb hG igX12 hown hK o_c_28 rfl 0 (by decide) (hG _ mw_1284) rfl dX12_isSo_88 ?_
    refine lv_iload_n hx hb dX12_isSo_91 rfl (lv_at hl 1 rfl) ?_
    refine vp_callSi (W.runS (As := [.ref (g.2.2 100), .int a0]) (rest := []) ⟨hx, hb, hml, hown, hts⟩ (c_X12_childrenOf l g Ty G (g.2.2 100) a0 (hk_30.1)) (cwSx 2 hts hG (gwC mw_1576) mw_88 mw_1574 mw_1575 rfl rfl rfl hd_X12_childrenOf ⟨Nat.le_of_ble_eq_true rfl, Nat.le_of_ble_eq_true rfl⟩) ⟨PcH_blind, PcH_pre hK hH⟩ rfl rfl hl.1 rfl (lv_room (Nat.le_of_ble_eq_true rfl)) dX12_isSo_92 ⟨Nat.zero_le _, Nat.zero_le _⟩) (fun x_31 hx_31 => ?_)
    try rw [← hx_31] at hv
    try rw [← hx_31] at hv
    refine lv_iload_n hx hb dX12_isSo_95 rfl (lv_at hl 3 rfl) ?_
    refine lv_icmp_ne (tgt := 103) hx hb dX12_isSo_96 (by decide) (fun c_32 => ?_) (fun c_32 => ?_)
    · rw [if_neg c_32] at hv
      refine lv_iconst (v := 0) hx hb dX12_isSo_103 (by decide) ?_
      exact W.zret hx hb hr rfl (fun t ht hW => ⟨0, rfl, ⟨rg_w rl_0 (by decide) (by decide), hv⟩, ht⟩) (fun q h => by cases h) dX12_isSo_104
    · rw [if_pos c_32] at hv
      refine lv_iconst (v := 1) hx hb dX12_isSo_99 (by decide) ?_
      refine lv_goto (tgt := 104) hx hb dX12_isSo_100 (by decide) ?_
      exact W.zret hx hb hr rfl (fun t ht hW => ⟨1, rfl, ⟨rg_w rl_1 (by decide) (by decide), hv⟩, ht⟩) (fun q h => by cases h) dX12_isSo_104
  rw [if_neg c_26] at hv
  refine lv_tableOut (tgt := 105) hx hb dX12_isSo_1 (by have := lv_neT (a := 0) c_1 rfl; have := lv_neT (a := 1) c_8 rfl; have := lv_neT (a := 2) c_17 rfl; have := lv_neT (a := 3) c_26 rfl; omega) (by decide) ?_
  refine lv_aload_n hx hb dX12_isSo_105 rfl (lv_at hl 0 rfl) ?_
  obtain ⟨_, ⟨rfl, t_34, hk_35⟩, o_c_33⟩ := hH h0 _ k_h0
  refine hg_get hx hb hG igX12 hown hK o_c_33 rfl 0 (by decide) (hG _ mw_1284) rfl dX12_isSo_106 ?_
  refine lv_iload_n hx hb dX12_isSo_109 rfl (lv_at hl 1 rfl) ?_
  refine vp_callSi (W.runS (As := [.ref (g.2.2 100), .int a0]) (rest := []) ⟨hx, hb, hml, hown, hts⟩ (c_X12_spreadOf l g Ty G (g.2.2 100) a0 (hk_35.1) hm0) (cwSx 2 hts hG (gwC mw_1560) mw_88 mw_1558 mw_1559 rfl rfl rfl hd_X12_spreadOf ⟨Nat.le_of_ble_eq_true rfl, Nat.le_of_ble_eq_true rfl⟩) ⟨PcH_blind, PcH_pre hK hH⟩ rfl rfl hl.1 rfl (lv_room (Nat.le_of_ble_eq_true rfl)) dX12_isSo_110 ⟨Nat.zero_le _, Nat.zero_le _⟩) (fun x_36 hx_36 => ?_)
  try rw [← hx_36.2] at hv
  try rw [← hx_36.2] at hv
  refine vp_callSi (W.runS (As := [.int x_36]) (rest := []) ⟨hx, hb, hml, hown, hts⟩ (c_J6_bitCount_x l g Ty G x_36 ) (cwSx 1 hts hG (gwC mw_620) mw_99 mw_1553 mw_619 rfl rfl rfl hd_J6_bitCount_0f7a4 ⟨Nat.le_of_ble_eq_true rfl, Nat.le_of_ble_eq_true rfl⟩) ⟨PcH_blind, PcH_pre hK hH⟩ rfl rfl hl.1 rfl (lv_room (Nat.le_of_ble_eq_true rfl)) dX12_isSo_113 ⟨Nat.zero_le _, Nat.zero_le _⟩) (fun x_37 hx_37 => ?_)
  have rx_37 : rgI (0) (63) x_37 := hx_37.1
  try rw [← hx_37.2] at hv
  try rw [← hx_37.2] at hv
  refine lv_iload_n hx hb dX12_isSo_116 rfl (lv_at hl 3 rfl) ?_
  refine lv_icmp_le (tgt := 124) hx hb dX12_isSo_117 (by decide) (fun c_38 => ?_) (fun c_38 => ?_)
  · rw [if_pos c_38] at hv
    have r_39 : rgI (0) (2147483647) a2 := rg_w (rg_leR rx_37 (rg_top a2) c_38) (by decide) (by decide)
    refine lv_iconst (v := 0) hx hb dX12_isSo_124 (by decide) ?_
    exact W.zret hx hb hr rfl (fun t ht hW => ⟨0, rfl, ⟨rg_w rl_0 (by decide) (by decide), hv⟩, ht⟩) (fun q h => by cases h) dX12_isSo_125
  · rw [if_neg c_38] at hv
    have r_40 : rgI (-2147483648) (62) a2 := rg_w (rg_ltL (rg_top a2) rx_37 (nle_lt c_38)) (by decide) (by decide)
    refine lv_iconst (v := 1) hx hb dX12_isSo_120 (by decide) ?_
    refine lv_goto (tgt := 125) hx hb dX12_isSo_121 (by decide) ?_
    exact W.zret hx hb hr rfl (fun t ht hW => ⟨1, rfl, ⟨rg_w rl_1 (by decide) (by decide), hv⟩, ht⟩) (fun q h => by cases h) dX12_isSo_125

def F_X12_lost_x (m105 : Int32) : Int32 × Int32 := ((0 : Int32), (1 : Int32))
set_option maxHeartbeats 4000000 in
set_option maxRecDepth 100000 in
theorem c_X12_lost_x (l : Launch) (g : Gx) (Ty : TyM) (G : Gh) (sz : Nat) (h0 : Nat) (k_h0 : Ty h0 = some (22, 0)) : Met l yX12_lost (wsG yX12_lost cX12_lost 1 (some .int)) ({ frames := 0, cells := 0, slots := 0, locals := 0 }) (PcT g Ty G sz [.ref h0]) (QwI g Ty sz (fun r u => u.1 = Ty ∧ FR [105] [] [] G u.2 ∧ F_X12_lost_x (G.1 105) = (r, (u.2.1 105)))) 0 0 (AF Ty sz) := by
  refine Met.ofW (cc := cX12_lost) (maxL := 1) (ret := (some .int)) (by decide) rfl ?_
  intro p e s m args below meth c s₁ B hml hv
  obtain ⟨rfl, hsz, hK, hH⟩ := hv
  subst hsz
  have hx := B.exec
  have hb := B.bytes
  have hr := B.returns
  have hts := atoms_spec (ws := (wsG yX12_lost cX12_lost 1 (some .int))) B.pre
  have hG : ∀ w ∈ GW, w.before ([.ref h0] : List Value).toArray s = true := fun w h => hts w (List.mem_cons_of_mem _ h)
  have hown : s.vm.findClass RX12 = some m.cls := findClass_of_methodNamed B.named
  have hlocks := B.notSynchronized
  have hl := lv_entry [.ref h0] (n := 1) (Nat.le_of_ble_eq_true rfl)
  rw [lg_entry_eq]
  generalize (lg_sl [.ref h0] ++ List.replicate (1 - (lg_sl [.ref h0]).length) Slot.unset).toArray = ls at hl ⊢
  have hl : lv_has ls 1 [(0, .ref h0)] := hl
  have hmk : mdK g Ty := mdk_of hH k_h0
  have hv : ((0 : Int32), (1 : Int32)) = F_X12_lost_x (G.1 105) := rfl
  have hS : va_S (AF Ty s.heap.size) s.heap s.heap [] := va_S.rf
  refine lv_aload_n hx hb dX12_lost_0 rfl (lv_at hl 0 rfl) ?_
  refine lv_iconst (v := 1) hx hb dX12_lost_1 (by decide) ?_
  obtain ⟨_, ⟨rfl, t_2, hk_3⟩, o_c_1⟩ := hH h0 _ k_h0
  refine hg_put (ty := .int) hx hb hG igX12 tyX12 tyX12_ok nmX12 hown hK hS o_c_1 (AF.of k_h0) rfl 5 (by decide) (hG _ mw_1289) rfl (by decide +kernel) rfl rfl (Nat.le_of_ble_eq_true rfl) dX12_lost_2 (fun H locs o_c_1 hz oq hS => ?_)
  obtain ⟨G_4, eG_4⟩ : ∃ z : Gh, z = gset G 105 1 := ⟨_, rfl⟩
  have hH : HT g Ty G_4 H := by rw [eG_4]; exact HT.putN 105 1 hH k_h0 ⟨rfl, t_2, hk_3⟩ o_c_1 oq (Or.inr (Or.inr (Or.inr (Or.inr (Or.inr ⟨by decide, t_2⟩)))))
  have fr_5 : FR [105] [] [] G G_4 := FR.n FR.rf eG_4 (by decide)
  have u_6 : G_4.1 105 = 1 := by rw [eG_4]; exact gs_eq
  clear oq hz
  refine lv_iconst (v := 0) hx hb dX12_lost_5 (by decide) ?_
  exact W.iret hx hb hr (fun t ht hWm => ⟨⟨0, (Ty, G_4), rfl, ⟨rfl, ⟨fr_5, hv.symm.trans (by rw [u_6])⟩⟩, by show HT g Ty G_4 t.heap; rw [ht]; exact hH⟩, hS.F ht⟩) hS.2.2 dX12_lost_6

def F_X12_goTree_x (r0 : Nat → Int32) (r1 : Nat → Int32) (r2 : Nat → Int32) (r3 : Nat → Int32) (m113 : Int32) (m127 : Int32) (a1 : Int32) (a2 : Int32) (a3 : Int32) : Int32 := (tu5 (F_X12_goClone_x r0 r1 r2 r3 m113 m127 a1 a2 a3) (fun z6 z7 z8 z9 z10 => z6))
set_option maxHeartbeats 4000000 in
set_option maxRecDepth 100000 in
theorem c_X12_goTree_x (l : Launch) (g : Gx) (Ty : TyM) (G : Gh) (sz : Nat) (h0 : Nat) (b0 : Nat) (a1 : Int32) (a2 : Int32) (a3 : Int32) (k_h0 : Ty h0 = some (22, 0)) (k_b0 : Ty b0 = some (30, 122)) (pr1 : rgI (0) (23) a1) (pr2 : rgI (0) (23) a2) (pr3 : rgI (0) (3) a3) (hb9 : b0 ≠ g.2.2 129) (Bd : Int) (hTI : TI Bd (G.2.1 b0)) (hBd : Bd ≤ 2000000) (rl : Nat) (krl : Ty rl = some (31, 40)) (hr1 : G.2.2 111 = some rl) (hr3 : rgI 0 40 (G.1 113)) (hLD : LD g) (hRT : (thr (G.2.1 b0) a1 ∧ thr (G.2.1 b0) a2 ∧ rgI 0 3 a3 ∧ F_X12_atOf (G.2.1 b0) a2 a3 = 24 ∧ (G.2.1 b0) (48 + a2.toNatClampNeg) = 0 ∧ ct (isT (G.2.1 b0)) 24 + TZ (G.2.1 b0) 25 a1 ≤ 24)) : Met l yX12_goTree (wsG yX12_goTree cX12_goTree 6 (some .int)) ({ frames := 341, cells := 0, slots := 0, locals := 8001 }) (PcT g Ty G sz [.ref h0, .ref b0, .int a1, .int a2, .int a3]) (QwI g Ty sz (fun r u => u.1 = Ty ∧ FR [107, 108, 109, 110, 114, 127, 128] [b0, (g.2.2 115), (g.2.2 125), (g.2.2 126), (g.2.2 129)] [106] G u.2 ∧ (TI (Bd + 25) (u.2.2.1 b0)) ∧ F_X12_goTree_x (G.2.1 b0) (G.2.1 rl) (G.2.1 (g.2.2 125)) (G.2.1 (g.2.2 126)) (G.1 113) (G.1 127) a1 a2 a3 = r)) 0 0 (AF Ty sz) := by
  refine Met.ofW (cc := cX12_goTree) (maxL := 6) (ret := (some .int)) (by decide) rfl ?_
  intro p e s m args below meth c s₁ B hml hv
  obtain ⟨rfl, hsz, hK, hH⟩ := hv
  subst hsz
  have hx := B.exec
  have hb := B.bytes
  have hr := B.returns
  have hts := atoms_spec (ws := (wsG yX12_goTree cX12_goTree 6 (some .int))) B.pre
  have hG : ∀ w ∈ GW, w.before ([.ref h0, .ref b0, .int a1, .int a2, .int a3] : List Value).toArray s = true := fun w h => hts w (List.mem_cons_of_mem _ h)
  have hown : s.vm.findClass RX12 = some m.cls := findClass_of_methodNamed B.named
  have hlocks := B.notSynchronized
  have hl := lv_entry [.ref h0, .ref b0, .int a1, .int a2, .int a3] (n := 6) (Nat.le_of_ble_eq_true rfl)
  rw [lg_entry_eq]
  generalize (lg_sl [.ref h0, .ref b0, .int a1, .int a2, .int a3] ++ List.replicate (6 - (lg_sl [.ref h0, .ref b0, .int a1, .int a2, .int a3]).length) Slot.unset).toArray = ls at hl ⊢
  have hl : lv_has ls 6 [(0, .ref h0), (1, .ref b0), (2, .int a1), (3, .int a2), (4, .int a3)] := hl
  have hmk : mdK g Ty := mdk_of hH k_h0
  have hv : (tu5 (F_X12_goClone_x (G.2.1 b0) (G.2.1 rl) (G.2.1 (g.2.2 125)) (G.2.1 (g.2.2 126)) (G.1 113) (G.1 127) a1 a2 a3) (fun z1 z2 z3 z4 z5 => z1)) = F_X12_goTree_x (G.2.1 b0) (G.2.1 rl) (G.2.1 (g.2.2 125)) (G.2.1 (g.2.2 126)) (G.1 113) (G.1 127) a1 a2 a3 := rfl
  have hS : va_S (AF Ty s.heap.size) s.heap s.heap [] := va_S.rf
  obtain ⟨⟨σ0, hTS0⟩, h10, hBB0⟩ := id hTI
  obtain ⟨ρ, hT⟩ := hTS0.1
  have hUB0 := hTS0.2.2.2.1
  have hcom := com_tree (rl := G.2.1 rl) (size := G.1 113) hRT.2.1 hRT.2.2.1 hRT.2.2.2.1 hRT.2.2.2.2.1 (TZ_1 25 a1) hRT.2.2.2.2.2
  refine lv_aload_n hx hb dX12_goTree_0 rfl (lv_at hl 1 rfl) ?_
  refine lv_aload_n hx hb dX12_goTree_1 rfl (lv_at hl 0 rfl) ?_
  obtain ⟨_, ⟨rfl, t_2, hk_3⟩, o_c_1⟩ := hH h0 _ k_h0
  refine hg_get hx hb hG igX12 hown hK o_c_1 rfl 29 (by decide) (hG _ mw_1313) rfl dX12_goTree_2 ?_
  refine lv_iconst (v := 0) hx hb dX12_goTree_5 (by decide) ?_
  refine va_callv (va_runS (As := [.ref b0, .ref (g.2.2 129), .int 0]) (rest := []) ⟨hx, hb, hml, hown, hts⟩ (c_X12_lay_a l g Ty G s.heap.size b0 (g.2.2 129) 0 k_b0 (hk_3.2.2.2.2.2.2.2.2.2.2.1) (rg_w rl_0 (by decide) (by decide)) hb9) (cwSx 3 hts hG (gwC mw_1583) mw_88 mw_1581 mw_1582 rfl rfl rfl hd_X12_lay ⟨Nat.le_of_ble_eq_true rfl, Nat.le_of_ble_eq_true rfl⟩) ⟨PcT_blind, PcT_pre hK hH⟩ rfl rfl hl.1 rfl (lv_room (Nat.le_of_ble_eq_true rfl)) dX12_goTree_6 ⟨Nat.zero_le _, Nat.zero_le _⟩) hS (fun q _ h => AF.mono hS.1 h) (fun q h => AF.mono hS.1 h) (fun ux_4 t H locs ht hvm hx_4 hB hz hk hS => ?_)
  obtain ⟨eTx_4, eGx_4⟩ := hx_4
  obtain ⟨G_5, eG_5⟩ : ∃ z, z = ux_4.2 := ⟨_, rfl⟩
  rw [← eG_5] at eGx_4
  obtain ⟨hfr_6, hex_7⟩ := eGx_4
  have fr_8 : FR [107, 108, 109, 110, 114, 127, 128] [b0, (g.2.2 115), (g.2.2 125), (g.2.2 126), (g.2.2 129)] [106] G G_5 := FR.tr FR.rf hfr_6 (by decide) (fun b h => ⟨h.2.2.2.2.1, trivial⟩) (by decide)
  have u_9 : G_5.1 113 = (G.1 113) := (hfr_6.1 113 (by decide))
  have u_10 : G_5.1 127 = (G.1 127) := (hfr_6.1 127 (by decide))
  have w_11 : G_5.2.1 b0 = (G.2.1 b0) := (hfr_6.2.1 b0 ⟨hb9, trivial⟩)
  have w_12 : G_5.2.1 rl = (G.2.1 rl) := (hfr_6.2.1 rl ⟨(ne_kd krl hmk.2.2.2.2.2.2.2.2.2.2.1 (by decide)), trivial⟩)
  have w_13 : G_5.2.1 (g.2.2 125) = (G.2.1 (g.2.2 125)) := (hfr_6.2.1 (g.2.2 125) ⟨(ne_kd hmk.2.2.2.2.2.2.2.2.1 hmk.2.2.2.2.2.2.2.2.2.2.1 (by decide)), trivial⟩)
  have w_14 : G_5.2.1 (g.2.2 126) = (G.2.1 (g.2.2 126)) := (hfr_6.2.1 (g.2.2 126) ⟨(ne_kd hmk.2.2.2.2.2.2.2.2.2.1 hmk.2.2.2.2.2.2.2.2.2.2.1 (by decide)), trivial⟩)
  have u_15 : G_5.2.2 111 = some rl := (hfr_6.2.2 111 (by decide)).trans hr1
  obtain ⟨f_16, ef_16⟩ : ∃ z : Nat → Int32, G_5.2.1 (g.2.2 129) = z := ⟨_, rfl⟩
  have ly_17 := hex_7
  rw [ef_16] at ly_17
  have hH : HT g Ty G_5 H := by rw [← ht, ← eTx_4, eG_5]; exact hB
  have sr_18 : SR (G.2.1 b0) f_16 := LY_sr ly_17
  obtain ⟨⟨σ_19, hts_20⟩, h1_21, hb_22⟩ := id hTI
  refine lv_aload_n hx hb dX12_goTree_9 rfl (lv_at hl 0 rfl) ?_
  refine lv_aload_n hx hb dX12_goTree_10 rfl (lv_at hl 1 rfl) ?_
  refine lv_iload_n hx hb dX12_goTree_11 rfl (lv_at hl 2 rfl) ?_
  refine lv_iload_n hx hb dX12_goTree_12 rfl (lv_at hl 3 rfl) ?_
  refine lv_iload hx hb dX12_goTree_13 (lv_at hl 4 rfl) ?_
  obtain ⟨_, ⟨rfl, t_24, hk_25⟩, o_c_23⟩ := hH h0 _ k_h0
  refine va_calli (va_runV (As := [.ref b0, .int a1, .int a2, .int a3]) (rest := []) ⟨hx, hb, hml, hown, hts⟩ (c_X12_goClone_x l g Ty G_5 H.size h0 b0 a1 a2 a3 k_h0 k_b0 (rg_w pr1 (by decide) (by decide)) (rg_w pr2 (by decide) (by decide)) (rg_w pr3 (by decide) (by decide)) rl krl u_15 (by rw [u_9]; exact hr3) hLD σ_19 (by rw [w_11]; exact hts_20) (by rw [w_11]; exact h1_21) Bd (by rw [w_11]; exact hb_22) (by rw [w_11]; exact (Int.le_trans hb_22 hBd)) (by rw [w_11]; exact (Or.inr hRT.1)) (by rw [w_11, w_12, u_9]; exact hcom.1)) (cwV 4 hts (gwV mw_1584 mw_1586 mw_54 mw_88 mw_1587) rfl rfl rfl hv_X12_goClone ⟨Nat.le_of_ble_eq_true rfl, Nat.le_of_ble_eq_true rfl⟩) ⟨PcT_blind, hg_recv hK o_c_23 rfl, PcT_pre hK hH⟩ rfl rfl hl.1 rfl (lv_room (Nat.le_of_ble_eq_true rfl)) dX12_goTree_15 ⟨Nat.zero_le _, Nat.zero_le _⟩) hS (fun q _ h => AF.mono hS.1 h) (fun q h => AF.mono hS.1 h) (fun x_26 ux_26 t H locs ht hvm hx_26 hB hz hk hS => ?_)
  obtain ⟨eTx_26, eGx_26⟩ := hx_26
  obtain ⟨G_27, eG_27⟩ : ∃ z, z = ux_26.2 := ⟨_, rfl⟩
  rw [← eG_27] at eGx_26
  obtain ⟨hfr_28, hex_29⟩ := eGx_26
  have fr_30 : FR [107, 108, 109, 110, 114, 127, 128] [b0, (g.2.2 115), (g.2.2 125), (g.2.2 126), (g.2.2 129)] [106] G G_27 := FR.tr fr_8 hfr_28 (by decide) (fun b h => ⟨h.1, h.2.1, h.2.2.1, h.2.2.2.1, trivial⟩) (by decide)
  have u_31 : G_27.1 113 = (G.1 113) := (hfr_28.1 113 (by decide)).trans u_9
  have w_32 : G_27.2.1 rl = (G.2.1 rl) := (hfr_28.2.1 rl ⟨(ne_kd krl k_b0 (by decide)), (ne_kd krl hmk.2.2.2.1 (by decide)), (ne_kd krl hmk.2.2.2.2.2.2.2.2.1 (by decide)), (ne_kd krl hmk.2.2.2.2.2.2.2.2.2.1 (by decide)), trivial⟩).trans w_12
  have w_33 : G_27.2.1 (g.2.2 129) = f_16 := (hfr_28.2.1 (g.2.2 129) ⟨(Ne.symm hb9), (ne_kd hmk.2.2.2.2.2.2.2.2.2.2.1 hmk.2.2.2.1 (by decide)), (ne_kd hmk.2.2.2.2.2.2.2.2.2.2.1 hmk.2.2.2.2.2.2.2.2.1 (by decide)), (ne_kd hmk.2.2.2.2.2.2.2.2.2.2.1 hmk.2.2.2.2.2.2.2.2.2.1 (by decide)), trivial⟩).trans ef_16
  have u_34 : G_27.2.2 111 = some rl := (hfr_28.2.2 111 (by decide)).trans u_15
  obtain ⟨xa_35, xb_36⟩ := hex_29
  obtain ⟨f_37, ef_37⟩ : ∃ z : Nat → Int32, G_27.2.1 b0 = z := ⟨_, rfl⟩
  obtain ⟨f_38, ef_38⟩ : ∃ z : Nat → Int32, G_27.2.1 (g.2.2 125) = z := ⟨_, rfl⟩
  obtain ⟨f_39, ef_39⟩ : ∃ z : Nat → Int32, G_27.2.1 (g.2.2 126) = z := ⟨_, rfl⟩
  obtain ⟨n_40, en_40⟩ : ∃ z : Int32, G_27.1 127 = z := ⟨_, rfl⟩
  have hq_41 : F_X12_goClone_x (G.2.1 b0) (G.2.1 rl) (G.2.1 (g.2.2 125)) (G.2.1 (g.2.2 126)) (G.1 113) (G.1 127) a1 a2 a3 = (x_26, f_37, f_38, f_39, n_40) := by have q := xb_36; rw [w_11, w_12, w_13, w_14, u_9, u_10, ef_37, ef_38, ef_39, en_40] at q; exact q
  rw [hq_41, tu5_eq] at hv
  obtain ⟨f_42, ef_42⟩ : ∃ z : Nat → Int32, G_27.2.1 b0 = z := ⟨_, rfl⟩
  have gc_43 := xa_35
  rw [ef_42, w_11, w_12, u_9] at gc_43
  try rw [(ef_37).symm.trans (ef_42)] at hv
  have hH : HT g Ty G_27 H := by rw [← ht, ← eTx_26, eG_27]; exact hB
  obtain ⟨σ_44, hts_45⟩ := gc_43.1.1
  refine lv_istore (lv' := [(5, .int x_26), (0, .ref h0), (1, .ref b0), (2, .int a1), (3, .int a2), (4, .int a3)]) hx hb dX12_goTree_18 hl (by decide) rfl (fun ls hl => ?_)
  refine lv_aload_n hx hb dX12_goTree_20 rfl (lv_at hl 1 rfl) ?_
  refine lv_aload_n hx hb dX12_goTree_21 rfl (lv_at hl 2 rfl) ?_
  refine lv_iload_n hx hb dX12_goTree_22 rfl (lv_at hl 3 rfl) ?_
  refine lv_iload hx hb dX12_goTree_23 (lv_at hl 0 rfl) ?_
  obtain ⟨_, ⟨rfl, t_47, hk_48⟩, o_c_46⟩ := hH h0 _ k_h0
  refine va_callv (va_runV (As := [.ref b0, .int a1, .int x_26]) (rest := []) ⟨hx, hb, hml, hown, hts⟩ (c_X12_goInside l g 25 Ty G_27 H.size h0 b0 a1 x_26 k_h0 k_b0 (rg_w pr1 (by decide) (by decide)) hb9 ρ (by rw [w_33]; exact (SR_p1 sr_18 hT)) (by rw [w_33]; exact (SR_ub sr_18 hUB0)) (by rw [w_33]; exact (sr_18.thr hRT.1)) σ_44 (f_42 121) (by rw [ef_42]; exact hts_45) (by rw [ef_42]; exact gc_43.2.1) (by rw [w_33]; exact (PV_of sr_18 gc_43.2.2.1 hts_45)) (by rw [ef_42, w_33]; exact gt_cnt sr_18 gc_43.2.2.2 hcom.2 hRT.2.2.2.2.2) (by omega)) (cwV 3 hts (gwV mw_1632 mw_1634 mw_61 mw_88 mw_1635) rfl rfl rfl hv_X12_goInside ⟨Nat.le_of_ble_eq_true rfl, Nat.le_of_ble_eq_true rfl⟩) ⟨PcT_blind, hg_recv hK o_c_46 rfl, PcT_pre hK hH⟩ rfl rfl hl.1 rfl (lv_room (Nat.le_of_ble_eq_true rfl)) dX12_goTree_25 ⟨Nat.zero_le _, Nat.zero_le _⟩) hS (fun q _ h => AF.mono hS.1 h) (fun q h => AF.mono hS.1 h) (fun ux_49 t H locs ht hvm hx_49 hB hz hk hS => ?_)
  obtain ⟨eTx_49, eGx_49⟩ := hx_49
  obtain ⟨G_50, eG_50⟩ : ∃ z, z = ux_49.2 := ⟨_, rfl⟩
  rw [← eG_50] at eGx_49
  obtain ⟨hfr_51, hex_52⟩ := eGx_49
  have fr_53 : FR [107, 108, 109, 110, 114, 127, 128] [b0, (g.2.2 115), (g.2.2 125), (g.2.2 126), (g.2.2 129)] [106] G G_50 := FR.tr fr_30 hfr_51 (by decide) (fun b h => ⟨h.1, trivial⟩) (by decide)
  have u_54 : G_50.1 113 = (G.1 113) := (hfr_51.1 113 (by decide)).trans u_31
  have u_55 : G_50.1 127 = n_40 := (hfr_51.1 127 (by decide)).trans en_40
  have w_56 : G_50.2.1 rl = (G.2.1 rl) := (hfr_51.2.1 rl ⟨(ne_kd krl k_b0 (by decide)), trivial⟩).trans w_32
  have w_57 : G_50.2.1 (g.2.2 129) = f_16 := (hfr_51.2.1 (g.2.2 129) ⟨(Ne.symm hb9), trivial⟩).trans w_33
  have w_58 : G_50.2.1 (g.2.2 125) = f_38 := (hfr_51.2.1 (g.2.2 125) ⟨(ne_kd hmk.2.2.2.2.2.2.2.2.1 k_b0 (by decide)), trivial⟩).trans ef_38
  have w_59 : G_50.2.1 (g.2.2 126) = f_39 := (hfr_51.2.1 (g.2.2 126) ⟨(ne_kd hmk.2.2.2.2.2.2.2.2.2.1 k_b0 (by decide)), trivial⟩).trans ef_39
  have u_60 : G_50.2.2 111 = some rl := (hfr_51.2.2 111 (by decide)).trans u_34
  obtain ⟨f_61, ef_61⟩ : ∃ z : Nat → Int32, G_50.2.1 b0 = z := ⟨_, rfl⟩
  have gi_62 := hex_52
  rw [ef_61, ef_42, w_33] at gi_62
  have hH : HT g Ty G_50 H := by rw [← ht, ← eTx_49, eG_50]; exact hB
  refine lv_iload hx hb dX12_goTree_28 (lv_at hl 0 rfl) ?_
  exact W.iret hx hb hr (fun t ht hWm => ⟨⟨x_26, (Ty, G_50), rfl, ⟨rfl, ⟨fr_53, ⟨(by rw [ef_61]; exact gt_end gi_62 gc_43.1), hv.symm⟩⟩⟩, by show HT g Ty G_50 t.heap; rw [ht]; exact hH⟩, hS.F ht⟩) hS.2.2 dX12_goTree_30
