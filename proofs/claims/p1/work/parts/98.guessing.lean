theorem cn_s {n k n1 k1 : Int32} {a b : Int} (h : 0 ≤ n.toInt ∧ n.toInt ≤ k.toInt) (e : n1 = n + 1) (e1 : k1.toInt = k.toInt + 1) (hk : rgI a b k) (hb : b ≤ 1000 := by decide) : 0 ≤ n1.toInt ∧ n1.toInt ≤ k1.toInt := by
  have := hk.2
  have q : n1.toInt = n.toInt + 1 := by rw [e]; exact ti_add (y := 1) (by show _ ≤ n.toInt + 1; omega) (by show n.toInt + 1 ≤ _; omega)
  omega
theorem cn_n {n k n1 : Int32} {a b : Int} (h : 0 ≤ n.toInt ∧ n.toInt ≤ k.toInt) (e : n1 = n + 1) (hk : rgI a b k) (hb : b ≤ 1000 := by decide) : ¬ n1 = 0 := fun z => by
  have := hk.2
  have q : n1.toInt = n.toInt + 1 := by rw [e]; exact ti_add (y := 1) (by show _ ≤ n.toInt + 1; omega) (by show n.toInt + 1 ≤ _; omega)
  rw [z] at q
  have w : (0 : Int32).toInt = 0 := rfl
  omega

set_option maxHeartbeats 4000000 in
set_option maxRecDepth 100000 in
theorem c_X12_isSo (l : Launch) (g : Gx) (Ty : TyM) (G : Gh) (h0 : Nat) (a0 : Int32) (a1 : Int32) (a2 : Int32) (k_h0 : Ty h0 = some (22, 0)) (pr0 : rgI (0) (23) a0) (Bd : Int) (hI : OI g Bd G) (hBd : Bd ≤ 1900000) (hLD : LD g) (hm0 : thr (G.2.1 (g.2.2 100)) a0) : Met l yX12_isSo (wsG yX12_isSo cX12_isSo 4 (some .boolean)) ({ frames := 4, cells := 0, slots := 0, locals := 90 }) (PcH g Ty G [.ref h0, .int a0, .int a1, .int a2]) (vp_Si (fun r => rgI (0) (1) r)) 0 0 (fun _ => False) := by
  refine Met.ofW (cc := cX12_isSo) (maxL := 4) (ret := (some .boolean)) (by decide) rfl ?_
  intro p e s m args below meth c s₁ B hml hv
  obtain ⟨rfl, hK, hH⟩ := hv
  have hx := B.exec
  have hb := B.bytes
  have hr := B.returns
  have hts := atoms_spec (ws := (wsG yX12_isSo cX12_isSo 4 (some .boolean))) B.pre
  have hG : ∀ w ∈ GW, w.before ([.ref h0, .int a0, .int a1, .int a2] : List Value).toArray s = true := fun w h => hts w (List.mem_cons_of_mem _ h)
  have hown : s.vm.findClass RX12 = some m.cls := findClass_of_methodNamed B.named
  have hlocks := B.notSynchronized
  have hl := lv_entry [.ref h0, .int a0, .int a1, .int a2] (n := 4) (Nat.le_of_ble_eq_true rfl)
  rw [lg_entry_eq]
  generalize (lg_sl [.ref h0, .int a0, .int a1, .int a2] ++ List.replicate (4 - (lg_sl [.ref h0, .int a0, .int a1, .int a2]).length) Slot.unset).toArray = ls at hl ⊢
  have hl : lv_has ls 4 [(0, .ref h0), (1, .int a0), (2, .int a1), (3, .int a2)] := hl
  have hmk : mdK g Ty := mdk_of hH k_h0
  obtain ⟨⟨σ0, hTS0⟩, h10, hBB0⟩ := id hI.ti
  obtain ⟨ρ, hT⟩ := hTS0.1
  refine lv_iload_n hx hb dX12_isSo_0 rfl (lv_at hl 2 rfl) ?_
  by_cases c_1 : a1 = 0
  · refine lv_tableIn (tgt := 32) hx hb dX12_isSo_1 (by rw [c_1]; decide) (by rw [c_1]; decide) (off := 31) (by rw [c_1]; rfl) (by decide) ?_
    have r_2 : rgI (0) (0) a1 := rg_w (rg_eq rl_0 c_1) (by decide) (by decide)
    refine lv_aload_n hx hb dX12_isSo_32 rfl (lv_at hl 0 rfl) ?_
    obtain ⟨_, ⟨rfl, t_4, hk_5⟩, o_c_3⟩ := hH h0 _ k_h0
    refine hg_get hx hb hG igX12 hown hK o_c_3 rfl 0 (by decide) (hG _ mw_1284) rfl dX12_isSo_33 ?_
    refine lv_iload_n hx hb dX12_isSo_36 rfl (lv_at hl 1 rfl) ?_
    refine vp_callSi (W.runS (As := [.ref (g.2.2 100), .int a0]) (rest := []) ⟨hx, hb, hml, hown, hts⟩ (c_X12_kindOf l g Ty G (g.2.2 100) a0 (hk_5.1) (rg_w pr0 (by decide) (by decide))) (cwSx 2 hts hG (gwC mw_1527) mw_88 mw_1525 mw_1526 rfl rfl rfl hd_X12_kindOf ⟨Nat.le_of_ble_eq_true rfl, Nat.le_of_ble_eq_true rfl⟩) ⟨PcH_blind, PcH_pre hK hH⟩ rfl rfl hl.1 rfl (lv_room (Nat.le_of_ble_eq_true rfl)) dX12_isSo_37 ⟨Nat.zero_le _, Nat.zero_le _⟩) (fun x_6 hx_6 => ?_)
    refine lv_iload_n hx hb dX12_isSo_40 rfl (lv_at hl 3 rfl) ?_
    refine lv_icmp_ne (tgt := 48) hx hb dX12_isSo_41 (by decide) (fun c_7 => ?_) (fun c_7 => ?_)
    · refine lv_iconst (v := 0) hx hb dX12_isSo_48 (by decide) ?_
      exact W.zret hx hb hr rfl (fun t ht hW => ⟨0, rfl, rg_w rl_0 (by decide) (by decide), ht⟩) (fun q h => by cases h) dX12_isSo_49
    · refine lv_iconst (v := 1) hx hb dX12_isSo_44 (by decide) ?_
      refine lv_goto (tgt := 49) hx hb dX12_isSo_45 (by decide) ?_
      exact W.zret hx hb hr rfl (fun t ht hW => ⟨1, rfl, rg_w rl_1 (by decide) (by decide), ht⟩) (fun q h => by cases h) dX12_isSo_49
  by_cases c_8 : a1 = 1
  · refine lv_tableIn (tgt := 50) hx hb dX12_isSo_1 (by rw [c_8]; decide) (by rw [c_8]; decide) (off := 49) (by rw [c_8]; rfl) (by decide) ?_
    have r_9 : rgI (1) (1) a1 := rg_w (rg_eq rl_1 c_8) (by decide) (by decide)
    refine lv_aload_n hx hb dX12_isSo_50 rfl (lv_at hl 0 rfl) ?_
    obtain ⟨_, ⟨rfl, t_11, hk_12⟩, o_c_10⟩ := hH h0 _ k_h0
    refine hg_get hx hb hG igX12 hown hK o_c_10 rfl 0 (by decide) (hG _ mw_1284) rfl dX12_isSo_51 ?_
    refine lv_iload_n hx hb dX12_isSo_54 rfl (lv_at hl 1 rfl) ?_
    refine vp_callSi (W.runS (As := [.ref (g.2.2 100), .int a0]) (rest := []) ⟨hx, hb, hml, hown, hts⟩ (c_X12_stepsOf l g Ty G (g.2.2 100) a0 (hk_12.1) ρ hT hm0) (cwSx 2 hts hG (gwC mw_1530) mw_88 mw_1528 mw_1529 rfl rfl rfl hd_X12_stepsOf ⟨Nat.le_of_ble_eq_true rfl, Nat.le_of_ble_eq_true rfl⟩) ⟨PcH_blind, PcH_pre hK hH⟩ rfl rfl hl.1 rfl (lv_room (Nat.le_of_ble_eq_true rfl)) dX12_isSo_55 ⟨Nat.zero_le _, Nat.zero_le _⟩) (fun x_13 hx_13 => ?_)
    have rx_13 : rgI (0) (23) x_13 := hx_13.1
    refine lv_iload_n hx hb dX12_isSo_58 rfl (lv_at hl 3 rfl) ?_
    refine lv_icmp_lt (tgt := 66) hx hb dX12_isSo_59 (by decide) (fun c_14 => ?_) (fun c_14 => ?_)
    · have r_15 : rgI (1) (2147483647) a2 := rg_w (rg_ltR rx_13 (rg_top a2) c_14) (by decide) (by decide)
      refine lv_iconst (v := 0) hx hb dX12_isSo_66 (by decide) ?_
      exact W.zret hx hb hr rfl (fun t ht hW => ⟨0, rfl, rg_w rl_0 (by decide) (by decide), ht⟩) (fun q h => by cases h) dX12_isSo_67
    · have r_16 : rgI (-2147483648) (23) a2 := rg_w (rg_leL (rg_top a2) rx_13 (nlt_le c_14)) (by decide) (by decide)
      refine lv_iconst (v := 1) hx hb dX12_isSo_62 (by decide) ?_
      refine lv_goto (tgt := 67) hx hb dX12_isSo_63 (by decide) ?_
      exact W.zret hx hb hr rfl (fun t ht hW => ⟨1, rfl, rg_w rl_1 (by decide) (by decide), ht⟩) (fun q h => by cases h) dX12_isSo_67
  by_cases c_17 : a1 = 2
  · refine lv_tableIn (tgt := 68) hx hb dX12_isSo_1 (by rw [c_17]; decide) (by rw [c_17]; decide) (off := 67) (by rw [c_17]; rfl) (by decide) ?_
    have r_18 : rgI (2) (2) a1 := rg_w (rg_eq rl_2 c_17) (by decide) (by decide)
    refine lv_aload_n hx hb dX12_isSo_68 rfl (lv_at hl 0 rfl) ?_
    obtain ⟨_, ⟨rfl, t_20, hk_21⟩, o_c_19⟩ := hH h0 _ k_h0
    refine hg_get hx hb hG igX12 hown hK o_c_19 rfl 0 (by decide) (hG _ mw_1284) rfl dX12_isSo_69 ?_
    refine lv_bipush (v := 24) hx hb dX12_isSo_72 (by decide) ?_
    refine lv_iload_n hx hb dX12_isSo_74 rfl (lv_at hl 1 rfl) ?_
    refine lv_iadd hx hb dX12_isSo_75 ?_
    refine lv_topi (fun x_22 ex_22 => ?_)
    have rx_22 : rgI (24) (47) x_22 := by rw [ex_22]; exact rg_w (rg_add rl_24 pr0 (by decide) (by decide)) (by decide) (by decide)
    obtain ⟨_, rfl, o_c_23⟩ := hH (g.2.2 100) _ hk_21.1
    have o_c_23 : va_at g.1 vwCl ((g.2.2 100), .inl (g.2.1 1, 122, .inl (G.2.1 (g.2.2 100)))) s.heap := o_c_23
    refine hg_iald hx hb hK o_c_23 (rg_in (n := 122) rx_22 (by decide) (by decide)) dX12_isSo_76 ?_
    refine lv_topi (fun x_24 ex_24 => ?_)
    refine lv_iload_n hx hb dX12_isSo_77 rfl (lv_at hl 3 rfl) ?_
    refine lv_icmp_ne (tgt := 85) hx hb dX12_isSo_78 (by decide) (fun c_25 => ?_) (fun c_25 => ?_)
    · refine lv_iconst (v := 0) hx hb dX12_isSo_85 (by decide) ?_
      exact W.zret hx hb hr rfl (fun t ht hW => ⟨0, rfl, rg_w rl_0 (by decide) (by decide), ht⟩) (fun q h => by cases h) dX12_isSo_86
    · refine lv_iconst (v := 1) hx hb dX12_isSo_81 (by decide) ?_
      refine lv_goto (tgt := 86) hx hb dX12_isSo_82 (by decide) ?_
      exact W.zret hx hb hr rfl (fun t ht hW => ⟨1, rfl, rg_w rl_1 (by decide) (by decide), ht⟩) (fun q h => by cases h) dX12_isSo_86
  by_cases c_26 : a1 = 3
  · refine lv_tableIn (tgt := 87) hx hb dX12_isSo_1 (by rw [c_26]; decide) (by rw [c_26]; decide) (off := 86) (by rw [c_26]; rfl) (by decide) ?_
    have r_27 : rgI (3) (3) a1 := rg_w (rg_eq rl_3 c_26) (by decide) (by decide)
    refine lv_aload_n hx hb dX12_isSo_87 rfl (lv_at hl 0 rfl) ?_
    obtain ⟨_, ⟨rfl, t_29, hk_30⟩, o_c_28⟩ := hH h0 _ k_h0
    refine hg_get hx hb hG igX12 hown hK o_c_28 rfl 0 (by decide) (hG _ mw_1284) rfl dX12_isSo_88 ?_
    refine lv_iload_n hx hb dX12_isSo_91 rfl (lv_at hl 1 rfl) ?_
    refine vp_callSi (W.runS (As := [.ref (g.2.2 100), .int a0]) (rest := []) ⟨hx, hb, hml, hown, hts⟩ (c_X12_childrenOf l g Ty G (g.2.2 100) a0 (hk_30.1)) (cwSx 2 hts hG (gwC mw_1576) mw_88 mw_1574 mw_1575 rfl rfl rfl hd_X12_childrenOf ⟨Nat.le_of_ble_eq_true rfl, Nat.le_of_ble_eq_true rfl⟩) ⟨PcH_blind, PcH_pre hK hH⟩ rfl rfl hl.1 rfl (lv_room (Nat.le_of_ble_eq_true rfl)) dX12_isSo_92 ⟨Nat.zero_le _, Nat.zero_le _⟩) (fun x_31 hx_31 => ?_)
    refine lv_iload_n hx hb dX12_isSo_95 rfl (lv_at hl 3 rfl) ?_
    refine lv_icmp_ne (tgt := 103) hx hb dX12_isSo_96 (by decide) (fun c_32 => ?_) (fun c_32 => ?_)
    · refine lv_iconst (v := 0) hx hb dX12_isSo_103 (by decide) ?_
      exact W.zret hx hb hr rfl (fun t ht hW => ⟨0, rfl, rg_w rl_0 (by decide) (by decide), ht⟩) (fun q h => by cases h) dX12_isSo_104
    · refine lv_iconst (v := 1) hx hb dX12_isSo_99 (by decide) ?_
      refine lv_goto (tgt := 104) hx hb dX12_isSo_100 (by decide) ?_
      exact W.zret hx hb hr rfl (fun t ht hW => ⟨1, rfl, rg_w rl_1 (by decide) (by decide), ht⟩) (fun q h => by cases h) dX12_isSo_104
  refine lv_tableOut (tgt := 105) hx hb dX12_isSo_1 (by have := lv_neT (a := 0) c_1 rfl; have := lv_neT (a := 1) c_8 rfl; have := lv_neT (a := 2) c_17 rfl; have := lv_neT (a := 3) c_26 rfl; omega) (by decide) ?_
  refine lv_aload_n hx hb dX12_isSo_105 rfl (lv_at hl 0 rfl) ?_
  obtain ⟨_, ⟨rfl, t_34, hk_35⟩, o_c_33⟩ := hH h0 _ k_h0
  refine hg_get hx hb hG igX12 hown hK o_c_33 rfl 0 (by decide) (hG _ mw_1284) rfl dX12_isSo_106 ?_
  refine lv_iload_n hx hb dX12_isSo_109 rfl (lv_at hl 1 rfl) ?_
  refine vp_callSi (W.runS (As := [.ref (g.2.2 100), .int a0]) (rest := []) ⟨hx, hb, hml, hown, hts⟩ (c_X12_spreadOf l g Ty G (g.2.2 100) a0 (hk_35.1) hm0) (cwSx 2 hts hG (gwC mw_1560) mw_88 mw_1558 mw_1559 rfl rfl rfl hd_X12_spreadOf ⟨Nat.le_of_ble_eq_true rfl, Nat.le_of_ble_eq_true rfl⟩) ⟨PcH_blind, PcH_pre hK hH⟩ rfl rfl hl.1 rfl (lv_room (Nat.le_of_ble_eq_true rfl)) dX12_isSo_110 ⟨Nat.zero_le _, Nat.zero_le _⟩) (fun x_36 hx_36 => ?_)
  refine vp_callSi (W.runS (As := [.int x_36]) (rest := []) ⟨hx, hb, hml, hown, hts⟩ (c_J6_bitCount_x l g Ty G x_36 ) (cwSx 1 hts hG (gwC mw_620) mw_99 mw_1553 mw_619 rfl rfl rfl hd_J6_bitCount_0f7a4 ⟨Nat.le_of_ble_eq_true rfl, Nat.le_of_ble_eq_true rfl⟩) ⟨PcH_blind, PcH_pre hK hH⟩ rfl rfl hl.1 rfl (lv_room (Nat.le_of_ble_eq_true rfl)) dX12_isSo_113 ⟨Nat.zero_le _, Nat.zero_le _⟩) (fun x_37 hx_37 => ?_)
  have rx_37 : rgI (0) (63) x_37 := hx_37.1
  refine lv_iload_n hx hb dX12_isSo_116 rfl (lv_at hl 3 rfl) ?_
  refine lv_icmp_le (tgt := 124) hx hb dX12_isSo_117 (by decide) (fun c_38 => ?_) (fun c_38 => ?_)
  · have r_39 : rgI (0) (2147483647) a2 := rg_w (rg_leR rx_37 (rg_top a2) c_38) (by decide) (by decide)
    refine lv_iconst (v := 0) hx hb dX12_isSo_124 (by decide) ?_
    exact W.zret hx hb hr rfl (fun t ht hW => ⟨0, rfl, rg_w rl_0 (by decide) (by decide), ht⟩) (fun q h => by cases h) dX12_isSo_125
  · have r_40 : rgI (-2147483648) (62) a2 := rg_w (rg_ltL (rg_top a2) rx_37 (nle_lt c_38)) (by decide) (by decide)
    refine lv_iconst (v := 1) hx hb dX12_isSo_120 (by decide) ?_
    refine lv_goto (tgt := 125) hx hb dX12_isSo_121 (by decide) ?_
    exact W.zret hx hb hr rfl (fun t ht hW => ⟨1, rfl, rg_w rl_1 (by decide) (by decide), ht⟩) (fun q h => by cases h) dX12_isSo_125

set_option maxHeartbeats 4000000 in
set_option maxRecDepth 100000 in
theorem c_X12_fitting (l : Launch) (g : Gx) (Ty : TyM) (G : Gh) (h0 : Nat) (k_h0 : Ty h0 = some (22, 0)) (Bd : Int) (hI : OI g Bd G) (hBd : Bd ≤ 1900000) (hLD : LD g) : Met l yX12_fitting (wsG yX12_fitting cX12_fitting 5 (some .int)) ({ frames := 5, cells := 0, slots := 0, locals := 113 }) (PcH g Ty G [.ref h0]) (vp_Si (fun r => (SB (G.2.1 (g.2.2 100)) r))) 0 0 (fun _ => False) := by
  refine Met.ofW (cc := cX12_fitting) (maxL := 5) (ret := (some .int)) (by decide) rfl ?_
  intro p e s m args below meth c s₁ B hml hv
  obtain ⟨rfl, hK, hH⟩ := hv
  have hx := B.exec
  have hb := B.bytes
  have hr := B.returns
  have hts := atoms_spec (ws := (wsG yX12_fitting cX12_fitting 5 (some .int))) B.pre
  have hG : ∀ w ∈ GW, w.before ([.ref h0] : List Value).toArray s = true := fun w h => hts w (List.mem_cons_of_mem _ h)
  have hown : s.vm.findClass RX12 = some m.cls := findClass_of_methodNamed B.named
  have hlocks := B.notSynchronized
  have hl := lv_entry [.ref h0] (n := 5) (Nat.le_of_ble_eq_true rfl)
  rw [lg_entry_eq]
  generalize (lg_sl [.ref h0] ++ List.replicate (5 - (lg_sl [.ref h0]).length) Slot.unset).toArray = ls at hl ⊢
  have hl : lv_has ls 5 [(0, .ref h0)] := hl
  have hmk : mdK g Ty := mdk_of hH k_h0
  obtain ⟨⟨σ0, hTS0⟩, h10, hBB0⟩ := id hI.ti
  obtain ⟨ρ, hT⟩ := hTS0.1
  have L_4 : ∀ (n : Nat) (y1_4 : Int32) (y2_4 : Int32) (ls : Array Slot), rgI (0) (24) y2_4 → SB (G.2.1 (g.2.2 100)) y1_4 → (24 - (y2_4).toInt).toNat < n → lv_has ls 5 [(0, .ref h0), (1, .int y1_4), (2, .int y2_4)] → Wm p l e (wsG yX12_fitting cX12_fitting 5 (some .int)) ({ frames := 5, cells := 0, slots := 0, locals := 113 }) s m [.ref h0] below meth c s.heap [] (0) (0) (vp_Si (fun r => (SB (G.2.1 (g.2.2 100)) r))) 0 0 (fun _ => False) (F0 m 4 ls []) := by
    intro n
    induction n with
    | zero => intro y1_4 y2_4 ls ry2_4 hi0_4 hm; exact absurd hm (Nat.not_lt_zero _)
    | succ n ih_4 =>
      intro y1_4 y2_4 ls ry2_4 hi0_4 hm_4 hl
      have L_22 : ∀ (n : Nat) (y3_22 : Int32) (y4_22 : Int32) (ls : Array Slot), rgI (0) (23) y2_4 → rgI (0) (1) y3_22 → rgI (0) (23) y4_22 → (¬ y3_22 = 0 → thr (G.2.1 (g.2.2 100)) y2_4) → (12 - (y4_22).toInt).toNat < n → lv_has ls 5 [(0, .ref h0), (1, .int y1_4), (2, .int y2_4), (3, .int y3_22), (4, .int y4_22)] → Wm p l e (wsG yX12_fitting cX12_fitting 5 (some .int)) ({ frames := 5, cells := 0, slots := 0, locals := 113 }) s m [.ref h0] below meth c s.heap [] (0) (0) (vp_Si (fun r => (SB (G.2.1 (g.2.2 100)) r))) 0 0 (fun _ => False) (F0 m 22 ls []) := by
        intro n
        induction n with
        | zero => intro y3_22 y4_22 ls ry2_22 ry3_22 ry4_22 hi0_22 hm; exact absurd hm (Nat.not_lt_zero _)
        | succ n ih_22 =>
          intro y3_22 y4_22 ls ry2_22 ry3_22 ry4_22 hi0_22 hm_22 hl
          refine lv_iload hx hb dX12_fitting_22 (lv_at hl 4 rfl) ?_
          refine lv_aload_n hx hb dX12_fitting_24 rfl (lv_at hl 0 rfl) ?_
          obtain ⟨_, ⟨rfl, t_2, hk_3⟩, o_c_1⟩ := hH h0 _ k_h0
          refine hg_get hx hb hG igX12 hown hK o_c_1 rfl 33 (by decide) (hG _ mw_1317) rfl dX12_fitting_25 ?_
          refine lv_icmp_ge (tgt := 61) hx hb dX12_fitting_28 (by decide) (fun c_4 => ?_) (fun c_4 => ?_)
          · refine lv_iload_n hx hb dX12_fitting_61 rfl (lv_at hl 1 rfl) ?_
            refine lv_iload_n hx hb dX12_fitting_62 rfl (lv_at hl 3 rfl) ?_
            refine lv_if_eq (tgt := 72) hx hb dX12_fitting_63 (by decide) (fun c_5 => ?_) (fun c_5 => ?_)
            · have r_6 : rgI (0) (0) y3_22 := rg_w (rg_eq rl_0 c_5) (by decide) (by decide)
              refine lv_iconst (v := 0) hx hb dX12_fitting_72 (by decide) ?_
              refine lv_ior hx hb dX12_fitting_73 ?_
              refine lv_topi (fun x_7 ex_7 => ?_)
              refine lv_istore_n (lv' := [(1, .int x_7), (0, .ref h0), (2, .int y2_4), (3, .int y3_22), (4, .int y4_22)]) hx hb dX12_fitting_74 rfl hl (by decide) rfl (fun ls hl => ?_)
              obtain ⟨x_8, ex_8⟩ : ∃ y : Int32, y = y2_4 + 1 := ⟨_, rfl⟩
              have rx_8 : rgI (1) (24) x_8 := by rw [ex_8]; exact rg_w (rg_add ry2_22 rl_1 (by decide) (by decide)) (by decide) (by decide)
              have qx_8 : x_8.toInt = (y2_4 : Int32).toInt + 1 := by rw [ex_8]; exact rg_addE ry2_22 rl_1 (by decide) (by decide)
              refine lv_iinc (v := x_8) (lv' := [(2, .int x_8), (1, .int x_7), (0, .ref h0), (3, .int y3_22), (4, .int y4_22)]) hx hb dX12_fitting_75 hl (k := 2) rfl (by rw [ex_8]; rfl) (by decide) rfl (fun ls hl => ?_)
              refine lv_goto (tgt := 4) hx hb dX12_fitting_78 (by decide) ?_
              exact ih_4 x_7 x_8 ls (rg_w rx_8 (by decide) (by decide)) (by rw [ex_7]; exact SB.or hi0_4 SB.zero) (by have h1 := qx_8; have h2 := ry2_22.1; have h3 := ry2_22.2; have h4 := hm_4; omega) (lv_sub hl [2, 1, 0] rfl)
            · have r_9 : rgI (1) (1) y3_22 := rg_w (rg_neL ry3_22 rl_0 c_5) (by decide) (by decide)
              refine lv_iconst (v := 1) hx hb dX12_fitting_66 (by decide) ?_
              refine lv_iload_n hx hb dX12_fitting_67 rfl (lv_at hl 2 rfl) ?_
              refine lv_ishl hx hb dX12_fitting_68 ?_
              refine lv_topi (fun x_10 ex_10 => ?_)
              refine lv_goto (tgt := 73) hx hb dX12_fitting_69 (by decide) ?_
              refine lv_ior hx hb dX12_fitting_73 ?_
              refine lv_topi (fun x_11 ex_11 => ?_)
              refine lv_istore_n (lv' := [(1, .int x_11), (0, .ref h0), (2, .int y2_4), (3, .int y3_22), (4, .int y4_22)]) hx hb dX12_fitting_74 rfl hl (by decide) rfl (fun ls hl => ?_)
              obtain ⟨x_12, ex_12⟩ : ∃ y : Int32, y = y2_4 + 1 := ⟨_, rfl⟩
              have rx_12 : rgI (1) (24) x_12 := by rw [ex_12]; exact rg_w (rg_add ry2_22 rl_1 (by decide) (by decide)) (by decide) (by decide)
              have qx_12 : x_12.toInt = (y2_4 : Int32).toInt + 1 := by rw [ex_12]; exact rg_addE ry2_22 rl_1 (by decide) (by decide)
              refine lv_iinc (v := x_12) (lv' := [(2, .int x_12), (1, .int x_11), (0, .ref h0), (3, .int y3_22), (4, .int y4_22)]) hx hb dX12_fitting_75 hl (k := 2) rfl (by rw [ex_12]; rfl) (by decide) rfl (fun ls hl => ?_)
              refine lv_goto (tgt := 4) hx hb dX12_fitting_78 (by decide) ?_
              exact ih_4 x_11 x_12 ls (rg_w rx_12 (by decide) (by decide)) (by rw [ex_11]; exact SB.or hi0_4 (by rw [ex_10]; exact SB.one (hi0_22 c_5))) (by have h1 := qx_12; have h2 := ry2_22.1; have h3 := ry2_22.2; have h4 := hm_4; omega) (lv_sub hl [2, 1, 0] rfl)
          · have r_13 : rgI (0) (11) y4_22 := rg_w (rg_ltL ry4_22 hI.a133 (nle_lt c_4)) (by decide) (by decide)
            have r_14 : rgI (1) (12) (G.1 133) := rg_w (rg_ltR ry4_22 hI.a133 (nle_lt c_4)) (by decide) (by decide)
            refine lv_iload_n hx hb dX12_fitting_31 rfl (lv_at hl 3 rfl) ?_
            refine lv_if_eq (tgt := 61) hx hb dX12_fitting_32 (by decide) (fun c_15 => ?_) (fun c_15 => ?_)
            · have r_16 : rgI (0) (0) y3_22 := rg_w (rg_eq rl_0 c_15) (by decide) (by decide)
              refine lv_iload_n hx hb dX12_fitting_61 rfl (lv_at hl 1 rfl) ?_
              refine lv_iload_n hx hb dX12_fitting_62 rfl (lv_at hl 3 rfl) ?_
              refine lv_if_eq (tgt := 72) hx hb dX12_fitting_63 (by decide) (fun c_17 => ?_) (fun c_17 => ?_)
              · refine lv_iconst (v := 0) hx hb dX12_fitting_72 (by decide) ?_
                refine lv_ior hx hb dX12_fitting_73 ?_
                refine lv_topi (fun x_18 ex_18 => ?_)
                refine lv_istore_n (lv' := [(1, .int x_18), (0, .ref h0), (2, .int y2_4), (3, .int y3_22), (4, .int y4_22)]) hx hb dX12_fitting_74 rfl hl (by decide) rfl (fun ls hl => ?_)
                obtain ⟨x_19, ex_19⟩ : ∃ y : Int32, y = y2_4 + 1 := ⟨_, rfl⟩
                have rx_19 : rgI (1) (24) x_19 := by rw [ex_19]; exact rg_w (rg_add ry2_22 rl_1 (by decide) (by decide)) (by decide) (by decide)
                have qx_19 : x_19.toInt = (y2_4 : Int32).toInt + 1 := by rw [ex_19]; exact rg_addE ry2_22 rl_1 (by decide) (by decide)
                refine lv_iinc (v := x_19) (lv' := [(2, .int x_19), (1, .int x_18), (0, .ref h0), (3, .int y3_22), (4, .int y4_22)]) hx hb dX12_fitting_75 hl (k := 2) rfl (by rw [ex_19]; rfl) (by decide) rfl (fun ls hl => ?_)
                refine lv_goto (tgt := 4) hx hb dX12_fitting_78 (by decide) ?_
                exact ih_4 x_18 x_19 ls (rg_w rx_19 (by decide) (by decide)) (by rw [ex_18]; exact SB.or hi0_4 SB.zero) (by have h1 := qx_19; have h2 := ry2_22.1; have h3 := ry2_22.2; have h4 := hm_4; omega) (lv_sub hl [2, 1, 0] rfl)
              · exact rg_clash (rg_neL r_16 rl_0 c_17) (r_16) (by decide)
            · have r_20 : rgI (1) (1) y3_22 := rg_w (rg_neL ry3_22 rl_0 c_15) (by decide) (by decide)
              have th_21 : thr (G.2.1 (g.2.2 100)) y2_4 := hi0_22 c_15
              refine lv_aload_n hx hb dX12_fitting_35 rfl (lv_at hl 0 rfl) ?_
              refine lv_iload_n hx hb dX12_fitting_36 rfl (lv_at hl 2 rfl) ?_
              refine lv_aload_n hx hb dX12_fitting_37 rfl (lv_at hl 0 rfl) ?_
              refine hg_get hx hb hG igX12 hown hK o_c_1 rfl 31 (by decide) (hG _ mw_1315) rfl dX12_fitting_38 ?_
              refine lv_iload hx hb dX12_fitting_41 (lv_at hl 4 rfl) ?_
              obtain ⟨_, ⟨f_23, rfl⟩, o_c_22⟩ := hH (g.2.2 131) _ hk_3.2.2.2.2.2.2.2.2.2.2.2.2.1
              refine hg_iald hx hb hK o_c_22 (rg_in (n := 12) r_13 (by decide) (by decide)) dX12_fitting_43 ?_
              refine lv_topi (fun x_24 ex_24 => ?_)
              refine lv_aload_n hx hb dX12_fitting_44 rfl (lv_at hl 0 rfl) ?_
              refine hg_get hx hb hG igX12 hown hK o_c_1 rfl 32 (by decide) (hG _ mw_1316) rfl dX12_fitting_45 ?_
              refine lv_iload hx hb dX12_fitting_48 (lv_at hl 4 rfl) ?_
              obtain ⟨_, ⟨f_26, rfl⟩, o_c_25⟩ := hH (g.2.2 132) _ hk_3.2.2.2.2.2.2.2.2.2.2.2.2.2.1
              refine hg_iald hx hb hK o_c_25 (rg_in (n := 12) r_13 (by decide) (by decide)) dX12_fitting_50 ?_
              refine lv_topi (fun x_27 ex_27 => ?_)
              refine vp_callSi (W.runV (As := [.int y2_4, .int x_24, .int x_27]) (rest := []) ⟨hx, hb, hml, hown, hts⟩ (c_X12_isSo l g Ty G h0 y2_4 x_24 x_27 k_h0 (rg_w ry2_22 (by decide) (by decide)) Bd hI hBd hLD th_21) (cwV 3 hts (gwV mw_1789 mw_1791 mw_70 mw_88 mw_1792) rfl rfl rfl hv_X12_isSo ⟨Nat.le_of_ble_eq_true rfl, Nat.le_of_ble_eq_true rfl⟩) ⟨PcH_blind, hg_recv hK o_c_1 rfl, PcH_pre hK hH⟩ rfl rfl hl.1 rfl (lv_room (Nat.le_of_ble_eq_true rfl)) dX12_fitting_51 ⟨Nat.zero_le _, Nat.zero_le _⟩) (fun x_28 hx_28 => ?_)
              have rx_28 : rgI (0) (1) x_28 := hx_28
              refine lv_istore_n (lv' := [(3, .int x_28), (0, .ref h0), (1, .int y1_4), (2, .int y2_4), (4, .int y4_22)]) hx hb dX12_fitting_54 rfl hl (by decide) rfl (fun ls hl => ?_)
              obtain ⟨x_29, ex_29⟩ : ∃ y : Int32, y = y4_22 + 1 := ⟨_, rfl⟩
              have rx_29 : rgI (1) (12) x_29 := by rw [ex_29]; exact rg_w (rg_add r_13 rl_1 (by decide) (by decide)) (by decide) (by decide)
              have qx_29 : x_29.toInt = (y4_22 : Int32).toInt + 1 := by rw [ex_29]; exact rg_addE r_13 rl_1 (by decide) (by decide)
              refine lv_iinc (v := x_29) (lv' := [(4, .int x_29), (3, .int x_28), (0, .ref h0), (1, .int y1_4), (2, .int y2_4)]) hx hb dX12_fitting_55 hl (k := 4) rfl (by rw [ex_29]; rfl) (by decide) rfl (fun ls hl => ?_)
              refine lv_goto (tgt := 22) hx hb dX12_fitting_58 (by decide) ?_
              exact ih_22 x_28 x_29 ls ry2_22 rx_28 (rg_w rx_29 (by decide) (by decide)) (fun _ => th_21) (by have h1 := qx_29; have h2 := r_13.1; have h3 := r_13.2; have h4 := hm_22; omega) (lv_sub hl [2, 3, 4, 1, 0] rfl)
      refine lv_iload_n hx hb dX12_fitting_4 rfl (lv_at hl 2 rfl) ?_
      refine lv_bipush (v := 24) hx hb dX12_fitting_5 (by decide) ?_
      refine lv_icmp_ge (tgt := 81) hx hb dX12_fitting_7 (by decide) (fun c_30 => ?_) (fun c_30 => ?_)
      · have r_31 : rgI (24) (24) y2_4 := rg_w (rg_leR rl_24 ry2_4 c_30) (by decide) (by decide)
        refine lv_iload_n hx hb dX12_fitting_81 rfl (lv_at hl 1 rfl) ?_
        exact W.iret hx hb hr (fun t ht hW => ⟨y1_4, rfl, hi0_4, ht⟩) (fun q h => by cases h) dX12_fitting_82
      · have r_32 : rgI (0) (23) y2_4 := rg_w (rg_ltL ry2_4 rl_24 (nle_lt c_30)) (by decide) (by decide)
        refine lv_aload_n hx hb dX12_fitting_10 rfl (lv_at hl 0 rfl) ?_
        obtain ⟨_, ⟨rfl, t_34, hk_35⟩, o_c_33⟩ := hH h0 _ k_h0
        refine hg_get hx hb hG igX12 hown hK o_c_33 rfl 0 (by decide) (hG _ mw_1284) rfl dX12_fitting_11 ?_
        refine lv_iload_n hx hb dX12_fitting_14 rfl (lv_at hl 2 rfl) ?_
        refine vp_callSi (W.runS (As := [.ref (g.2.2 100), .int y2_4]) (rest := []) ⟨hx, hb, hml, hown, hts⟩ (c_X12_isThere l g Ty G (g.2.2 100) y2_4 (hk_35.1)) (cwSx 2 hts hG (gwC mw_1520) mw_88 mw_1518 mw_1519 rfl rfl rfl hd_X12_isThere ⟨Nat.le_of_ble_eq_true rfl, Nat.le_of_ble_eq_true rfl⟩) ⟨PcH_blind, PcH_pre hK hH⟩ rfl rfl hl.1 rfl (lv_room (Nat.le_of_ble_eq_true rfl)) dX12_fitting_15 ⟨Nat.zero_le _, Nat.zero_le _⟩) (fun x_36 hx_36 => ?_)
        have rx_36 : rgI (0) (1) x_36 := hx_36.1
        refine lv_istore_n (lv' := [(3, .int x_36), (0, .ref h0), (1, .int y1_4), (2, .int y2_4)]) hx hb dX12_fitting_18 rfl hl (by decide) rfl (fun ls hl => ?_)
        refine lv_iconst (v := 0) hx hb dX12_fitting_19 (by decide) ?_
        refine lv_istore (lv' := [(4, .int 0), (3, .int x_36), (0, .ref h0), (1, .int y1_4), (2, .int y2_4)]) hx hb dX12_fitting_20 hl (by decide) rfl (fun ls hl => ?_)
        exact L_22 _ x_36 0 ls r_32 rx_36 (rg_w rl_0 (by decide) (by decide)) (fun h => F_isThere_thr (by rw [← hx_36.2.2]; exact h)) (Nat.lt_succ_self _) (lv_sub hl [2, 3, 4, 1, 0] rfl)
  refine lv_iconst (v := 0) hx hb dX12_fitting_0 (by decide) ?_
  refine lv_istore_n (lv' := [(1, .int 0), (0, .ref h0)]) hx hb dX12_fitting_1 rfl hl (by decide) rfl (fun ls hl => ?_)
  refine lv_iconst (v := 0) hx hb dX12_fitting_2 (by decide) ?_
  refine lv_istore_n (lv' := [(2, .int 0), (1, .int 0), (0, .ref h0)]) hx hb dX12_fitting_3 rfl hl (by decide) rfl (fun ls hl => ?_)
  exact L_4 _ 0 0 ls (rg_w rl_0 (by decide) (by decide)) SB.zero (Nat.lt_succ_self _) (lv_sub hl [2, 1, 0] rfl)

set_option maxHeartbeats 4000000 in
set_option maxRecDepth 100000 in
theorem c_X12_fits (l : Launch) (g : Gx) (Ty : TyM) (G : Gh) (sz : Nat) (h0 : Nat) (k_h0 : Ty h0 = some (22, 0)) (Bd : Int) (hI : OI g Bd G) (hBd : Bd ≤ 1900000) (hLD : LD g) : Met l yX12_fits (wsG yX12_fits cX12_fits 1 (some .int)) ({ frames := 6, cells := 0, slots := 0, locals := 137 }) (PcT g Ty G sz [.ref h0]) (QwI g Ty sz (fun r u => u.1 = Ty ∧ FR [104, 105] [] [] G u.2 ∧ OI g (Bd + 1000) u.2)) 0 0 (AF Ty sz) := by
  refine Met.ofW (cc := cX12_fits) (maxL := 1) (ret := (some .int)) (by decide) rfl ?_
  intro p e s m args below meth c s₁ B hml hv
  obtain ⟨rfl, hsz, hK, hH⟩ := hv
  subst hsz
  have hx := B.exec
  have hb := B.bytes
  have hr := B.returns
  have hts := atoms_spec (ws := (wsG yX12_fits cX12_fits 1 (some .int))) B.pre
  have hG : ∀ w ∈ GW, w.before ([.ref h0] : List Value).toArray s = true := fun w h => hts w (List.mem_cons_of_mem _ h)
  have hown : s.vm.findClass RX12 = some m.cls := findClass_of_methodNamed B.named
  have hlocks := B.notSynchronized
  have hl := lv_entry [.ref h0] (n := 1) (Nat.le_of_ble_eq_true rfl)
  rw [lg_entry_eq]
  generalize (lg_sl [.ref h0] ++ List.replicate (1 - (lg_sl [.ref h0]).length) Slot.unset).toArray = ls at hl ⊢
  have hl : lv_has ls 1 [(0, .ref h0)] := hl
  have hmk : mdK g Ty := mdk_of hH k_h0
  have hS : va_S (AF Ty s.heap.size) s.heap s.heap [] := va_S.rf
  obtain ⟨⟨σ0, hTS0⟩, h10, hBB0⟩ := id hI.ti
  obtain ⟨ρ, hT⟩ := hTS0.1
  refine lv_aload_n hx hb dX12_fits_0 rfl (lv_at hl 0 rfl) ?_
  refine lv_iconst (v := 0) hx hb dX12_fits_1 (by decide) ?_
  obtain ⟨_, ⟨rfl, t_2, hk_3⟩, o_c_1⟩ := hH h0 _ k_h0
  refine hg_put (ty := .int) hx hb hG igX12 tyX12 tyX12_ok nmX12 hown hK hS o_c_1 (AF.of k_h0) rfl 5 (by decide) (hG _ mw_1289) rfl (by decide +kernel) rfl rfl (Nat.le_of_ble_eq_true rfl) dX12_fits_2 (fun H locs o_c_1 hz oq hS => ?_)
  obtain ⟨G_4, eG_4⟩ : ∃ z : Gh, z = gset G 105 0 := ⟨_, rfl⟩
  have hH : HT g Ty G_4 H := by rw [eG_4]; exact HT.putN 105 0 hH k_h0 ⟨rfl, t_2, hk_3⟩ o_c_1 oq (Or.inr (Or.inr (Or.inr (Or.inr (Or.inr ⟨by decide, t_2⟩)))))
  have fr_5 : FR [104, 105] [] [] G G_4 := FR.n FR.rf eG_4 (by decide)
  have u_6 : G_4.1 102 = (G.1 102) := by rw [eG_4]; exact (gs_ne (by decide))
  have u_7 : G_4.1 104 = (G.1 104) := by rw [eG_4]; exact (gs_ne (by decide))
  have u_8 : G_4.1 113 = (G.1 113) := by rw [eG_4]; exact (gs_ne (by decide))
  have u_9 : G_4.1 122 = (G.1 122) := by rw [eG_4]; exact (gs_ne (by decide))
  have u_10 : G_4.1 133 = (G.1 133) := by rw [eG_4]; exact (gs_ne (by decide))
  have u_11 : G_4.1 137 = (G.1 137) := by rw [eG_4]; exact (gs_ne (by decide))
  have u_12 : G_4.1 105 = 0 := by rw [eG_4]; exact gs_eq
  have w_13 : G_4.2.1 (g.2.2 100) = (G.2.1 (g.2.2 100)) := by rw [eG_4]; exact rfl
  have w_14 : G_4.2.1 (g.2.2 121) = (G.2.1 (g.2.2 121)) := by rw [eG_4]; exact rfl
  have w_15 : G_4.2.1 (g.2.2 140) = (G.2.1 (g.2.2 140)) := by rw [eG_4]; exact rfl
  have w_16 : G_4.2.1 (g.2.2 141) = (G.2.1 (g.2.2 141)) := by rw [eG_4]; exact rfl
  have w_17 : G_4.2.1 (g.2.2 111) = (G.2.1 (g.2.2 111)) := by rw [eG_4]; exact rfl
  have u_18 : G_4.2.2 111 = some (g.2.2 111) := by rw [eG_4]; exact hI.r111
  have u_19 : G_4.2.2 112 = some (g.2.2 112) := by rw [eG_4]; exact hI.r112
  clear oq hz
  refine lv_aload_n hx hb dX12_fits_5 rfl (lv_at hl 0 rfl) ?_
  refine lv_aload_n hx hb dX12_fits_6 rfl (lv_at hl 0 rfl) ?_
  obtain ⟨_, ⟨rfl, t_21, hk_22⟩, o_c_20⟩ := hH h0 _ k_h0
  refine vp_callSi (W.runV (As := []) (rest := [.ref h0]) ⟨hx, hb, hml, hown, hts⟩ (c_X12_fitting l g Ty G_4 h0 k_h0 Bd ⟨(by rw [u_6]; exact (rg_w hI.a102 (by decide) (by decide))), (by rw [u_7]; exact (rg_w hI.a104 (by decide) (by decide))), (by rw [u_8]; exact (rg_w hI.a113 (by decide) (by decide))), (by rw [u_9]; exact (rg_w hI.a122 (by decide) (by decide))), (by rw [u_10]; exact (rg_w hI.a133 (by decide) (by decide))), (by rw [u_11]; exact (rg_w hI.a137 (by decide) (by decide))), u_18, u_19, (by rw [w_13]; exact (hI.ti.hi (show Bd ≤ Bd by omega))), (hI.un2 (show Bd ≤ Bd by omega) w_14 u_9), (hI.ke2 (show Bd ≤ Bd by omega) w_15 w_16)⟩ hBd hLD) (cwV 0 hts (gwV mw_1785 mw_1787 mw_69 mw_88 mw_1788) rfl rfl rfl hv_X12_fitting ⟨Nat.le_of_ble_eq_true rfl, Nat.le_of_ble_eq_true rfl⟩) ⟨PcH_blind, hg_recv hK o_c_20 rfl, PcH_pre hK hH⟩ rfl rfl hl.1 rfl (lv_room (Nat.le_of_ble_eq_true rfl)) dX12_fits_7 ⟨Nat.zero_le _, Nat.zero_le _⟩) (fun x_23 hx_23 => ?_)
  have tx_24 := hx_23
  try rw [w_17] at tx_24
  try rw [u_8] at tx_24
  try rw [w_13] at tx_24
  refine va_calli (va_runV (As := [.int x_23]) (rest := []) ⟨hx, hb, hml, hown, hts⟩ (c_X12_tellBits l g Ty G_4 H.size h0 x_23 k_h0) (cwV 1 hts (gwV mw_1704 mw_1706 mw_67 mw_88 mw_1707) rfl rfl rfl hv_X12_tellBits ⟨Nat.le_of_ble_eq_true rfl, Nat.le_of_ble_eq_true rfl⟩) ⟨PcT_blind, hg_recv hK o_c_20 rfl, PcT_pre hK hH⟩ rfl rfl hl.1 rfl (lv_room (Nat.le_of_ble_eq_true rfl)) dX12_fits_10 ⟨Nat.zero_le _, Nat.zero_le _⟩) hS (fun q _ h => AF.mono hS.1 h) (fun q h => AF.mono hS.1 h) (fun x_25 ux_25 t H locs ht hvm hx_25 hB hz hk hS => ?_)
  obtain ⟨eTx_25, eGx_25⟩ := hx_25
  obtain ⟨G_26, eG_26⟩ : ∃ z, z = ux_25.2 := ⟨_, rfl⟩
  rw [← eG_26] at eGx_25
  obtain ⟨hfr_27, hex_28⟩ := eGx_25
  have fr_29 : FR [104, 105] [] [] G G_26 := FR.tr fr_5 hfr_27 (by decide) (fun _ _ => trivial) (by decide)
  have u_30 : G_26.1 102 = (G.1 102) := (hfr_27.1 102 (by decide)).trans u_6
  have u_31 : G_26.1 113 = (G.1 113) := (hfr_27.1 113 (by decide)).trans u_8
  have u_32 : G_26.1 122 = (G.1 122) := (hfr_27.1 122 (by decide)).trans u_9
  have u_33 : G_26.1 133 = (G.1 133) := (hfr_27.1 133 (by decide)).trans u_10
  have u_34 : G_26.1 137 = (G.1 137) := (hfr_27.1 137 (by decide)).trans u_11
  have u_35 : G_26.1 105 = 0 := (hfr_27.1 105 (by decide)).trans u_12
  have w_36 : G_26.2.1 (g.2.2 100) = (G.2.1 (g.2.2 100)) := (hfr_27.2.1 (g.2.2 100) trivial).trans w_13
  have w_37 : G_26.2.1 (g.2.2 121) = (G.2.1 (g.2.2 121)) := (hfr_27.2.1 (g.2.2 121) trivial).trans w_14
  have w_38 : G_26.2.1 (g.2.2 140) = (G.2.1 (g.2.2 140)) := (hfr_27.2.1 (g.2.2 140) trivial).trans w_15
  have w_39 : G_26.2.1 (g.2.2 141) = (G.2.1 (g.2.2 141)) := (hfr_27.2.1 (g.2.2 141) trivial).trans w_16
  have w_40 : G_26.2.1 (g.2.2 111) = (G.2.1 (g.2.2 111)) := (hfr_27.2.1 (g.2.2 111) trivial).trans w_17
  have u_41 : G_26.2.2 111 = some (g.2.2 111) := (hfr_27.2.2 111 (by decide)).trans u_18
  have u_42 : G_26.2.2 112 = some (g.2.2 112) := (hfr_27.2.2 112 (by decide)).trans u_19
  have t4_43 : rgI (1) (1) (G_26.1 104) := hex_28
  have hH : HT g Ty G_26 H := by rw [← ht, ← eTx_25, eG_26]; exact hB
  exact W.iret hx hb hr (fun t ht hWm => ⟨⟨x_25, (Ty, G_26), rfl, ⟨rfl, ⟨fr_29, ⟨(by rw [u_30]; exact (rg_w hI.a102 (by decide) (by decide))), (rg_w t4_43 (by decide) (by decide)), (by rw [u_31]; exact (rg_w hI.a113 (by decide) (by decide))), (by rw [u_32]; exact (rg_w hI.a122 (by decide) (by decide))), (by rw [u_33]; exact (rg_w hI.a133 (by decide) (by decide))), (by rw [u_34]; exact (rg_w hI.a137 (by decide) (by decide))), u_41, u_42, (by rw [w_36]; exact (hI.ti.hi (show Bd ≤ Bd + 1000 by omega))), (hI.un2 (show Bd ≤ Bd + 1000 by omega) w_37 u_32), (hI.ke2 (show Bd ≤ Bd + 1000 by omega) w_38 w_39)⟩⟩⟩, by show HT g Ty G_26 t.heap; rw [ht]; exact hH⟩, hS.F ht⟩) hS.2.2 dX12_fits_13

set_option maxHeartbeats 4000000 in
set_option maxRecDepth 100000 in
theorem c_X12_asks (l : Launch) (g : Gx) (Ty : TyM) (G : Gh) (sz : Nat) (h0 : Nat) (k_h0 : Ty h0 = some (22, 0)) (Bd : Int) (hI : OI g Bd G) (hBd : Bd ≤ 1900000) (hLD : LD g) : Met l yX12_asks (wsG yX12_asks cX12_asks 7 (some .int)) ({ frames := 6, cells := 0, slots := 0, locals := 137 }) (PcT g Ty G sz [.ref h0]) (QwI g Ty sz (fun r u => u.1 = Ty ∧ FR [104, 105] [] [] G u.2 ∧ OI g (Bd + 1000) u.2)) 0 0 (AF Ty sz) := by
  refine Met.ofW (cc := cX12_asks) (maxL := 7) (ret := (some .int)) (by decide) rfl ?_
  intro p e s m args below meth c s₁ B hml hv
  obtain ⟨rfl, hsz, hK, hH⟩ := hv
  subst hsz
  have hx := B.exec
  have hb := B.bytes
  have hr := B.returns
  have hts := atoms_spec (ws := (wsG yX12_asks cX12_asks 7 (some .int))) B.pre
  have hG : ∀ w ∈ GW, w.before ([.ref h0] : List Value).toArray s = true := fun w h => hts w (List.mem_cons_of_mem _ h)
  have hown : s.vm.findClass RX12 = some m.cls := findClass_of_methodNamed B.named
  have hlocks := B.notSynchronized
  have hl := lv_entry [.ref h0] (n := 7) (Nat.le_of_ble_eq_true rfl)
  rw [lg_entry_eq]
  generalize (lg_sl [.ref h0] ++ List.replicate (7 - (lg_sl [.ref h0]).length) Slot.unset).toArray = ls at hl ⊢
  have hl : lv_has ls 7 [(0, .ref h0)] := hl
  have hmk : mdK g Ty := mdk_of hH k_h0
  have hS : va_S (AF Ty s.heap.size) s.heap s.heap [] := va_S.rf
  obtain ⟨⟨σ0, hTS0⟩, h10, hBB0⟩ := id hI.ti
  obtain ⟨ρ, hT⟩ := hTS0.1
  have L_26 : ∀ (n : Nat) (H : Heap) (locs : List Loc) (G_26 : Gh) (y1_26 : Int32) (y2_26 : Int32) (y3_26 : Int32) (y4_26 : Int32) (ls : Array Slot), rgI (0) (32) (G_26.1 104) → FR [104, 105] [] [] G G_26 → rgI (-1) (49) y2_26 → rgI (-2147483648) (1000000) y3_26 → rgI (0) (50) y4_26 → SB (G.2.1 (g.2.2 100)) y1_26 → (50 - (y4_26).toInt).toNat < n → lv_has ls 7 [(0, .ref h0), (1, .int y1_26), (2, .int y2_26), (3, .int y3_26), (4, .int y4_26)] → HT g Ty G_26 H → va_S (AF Ty s.heap.size) s.heap H locs → Wm p l e (wsG yX12_asks cX12_asks 7 (some .int)) ({ frames := 6, cells := 0, slots := 0, locals := 137 }) s m [.ref h0] below meth c H locs (0) (0) (QwI g Ty s.heap.size (fun r u => u.1 = Ty ∧ FR [104, 105] [] [] G u.2 ∧ OI g (Bd + 1000) u.2)) 0 0 (AF Ty s.heap.size) (F0 m 26 ls []) := by
    intro n
    induction n with
    | zero => intro H locs G_26 y1_26 y2_26 y3_26 y4_26 ls rg104_26 fr_26 ry2_26 ry3_26 ry4_26 hi0_26 hm; exact absurd hm (Nat.not_lt_zero _)
    | succ n ih_26 =>
      intro H locs G_26 y1_26 y2_26 y3_26 y4_26 ls rg104_26 fr_26 ry2_26 ry3_26 ry4_26 hi0_26 hm_26 hl hH hS
      have L_58 : ∀ (n : Nat) (H : Heap) (locs : List Loc) (G_58 : Gh) (y5_58 : Int32) (y6_58 : Int32) (ls : Array Slot), rgI (0) (32) (G_58.1 104) → FR [104, 105] [] [] G G_58 → rgI (-1) (49) y2_26 → rgI (-2147483648) (1000000) y3_26 → rgI (0) (49) y4_26 → rgI (0) (24) y6_58 → (24 - (y6_58).toInt).toNat < n → lv_has ls 7 [(0, .ref h0), (1, .int y1_26), (2, .int y2_26), (3, .int y3_26), (4, .int y4_26), (5, .int y5_58), (6, .int y6_58)] → HT g Ty G_58 H → va_S (AF Ty s.heap.size) s.heap H locs → Wm p l e (wsG yX12_asks cX12_asks 7 (some .int)) ({ frames := 6, cells := 0, slots := 0, locals := 137 }) s m [.ref h0] below meth c H locs (0) (0) (QwI g Ty s.heap.size (fun r u => u.1 = Ty ∧ FR [104, 105] [] [] G u.2 ∧ OI g (Bd + 1000) u.2)) 0 0 (AF Ty s.heap.size) (F0 m 58 ls []) := by
        intro n
        induction n with
        | zero => intro H locs G_58 y5_58 y6_58 ls rg104_58 fr_58 ry2_58 ry3_58 ry4_58 ry6_58 hm; exact absurd hm (Nat.not_lt_zero _)
        | succ n ih_58 =>
          intro H locs G_58 y5_58 y6_58 ls rg104_58 fr_58 ry2_58 ry3_58 ry4_58 ry6_58 hm_58 hl hH hS
          refine lv_iload hx hb dX12_asks_58 (lv_at hl 6 rfl) ?_
          refine lv_bipush (v := 24) hx hb dX12_asks_60 (by decide) ?_
          refine lv_icmp_ge (tgt := 109) hx hb dX12_asks_62 (by decide) (fun c_1 => ?_) (fun c_1 => ?_)
          · have r_2 : rgI (24) (24) y6_58 := rg_w (rg_leR rl_24 ry6_58 c_1) (by decide) (by decide)
            refine lv_iload hx hb dX12_asks_109 (lv_at hl 5 rfl) ?_
            refine lv_iload_n hx hb dX12_asks_111 rfl (lv_at hl 1 rfl) ?_
            refine vp_callSi (W.runS (As := [.int y1_26]) (rest := [.int y5_58]) ⟨hx, hb, hml, hown, hts⟩ (c_J6_bitCount_x l g Ty G_58 y1_26 ) (cwSx 1 hts hG (gwC mw_620) mw_99 mw_1553 mw_619 rfl rfl rfl hd_J6_bitCount_0f7a4 ⟨Nat.le_of_ble_eq_true rfl, Nat.le_of_ble_eq_true rfl⟩) ⟨PcH_blind, PcH_pre hK hH⟩ rfl rfl hl.1 rfl (lv_room (Nat.le_of_ble_eq_true rfl)) dX12_asks_112 ⟨Nat.zero_le _, Nat.zero_le _⟩) (fun x_3 hx_3 => ?_)
            have rx_3 : rgI (0) (63) x_3 := hx_3.1
            refine lv_iload hx hb dX12_asks_115 (lv_at hl 5 rfl) ?_
            refine lv_isub hx hb dX12_asks_117 ?_
            refine lv_topi (fun x_4 ex_4 => ?_)
            refine va_mmax hx hb (by rw [hml]; exact hl.1.symm) hown (hG _ mw_1741) (hG _ mw_473) (hG _ mw_91) (hG _ mw_474) (Nat.le_of_ble_eq_true rfl) (Nat.le_of_ble_eq_true rfl) (Nat.le_of_ble_eq_true rfl) (Nat.le_of_ble_eq_true rfl) dX12_asks_118 ?_
            refine lv_topi (fun x_5 ex_5 => ?_)
            refine lv_istore (lv' := [(6, .int x_5), (0, .ref h0), (1, .int y1_26), (2, .int y2_26), (3, .int y3_26), (4, .int y4_26), (5, .int y5_58)]) hx hb dX12_asks_121 hl (by decide) rfl (fun ls hl => ?_)
            refine lv_iload hx hb dX12_asks_123 (lv_at hl 0 rfl) ?_
            refine lv_iload_n hx hb dX12_asks_125 rfl (lv_at hl 4 rfl) ?_
            refine lv_icmp_lt (tgt := 132) hx hb dX12_asks_126 (by decide) (fun c_6 => ?_) (fun c_6 => ?_)
            · have r_7 : rgI (-2147483648) (999999) x_5 := rg_w (rg_ltL (rg_top x_5) ry3_58 c_6) (by decide) (by decide)
              have r_8 : rgI (-2147483647) (1000000) y3_26 := rg_w (rg_ltR (rg_top x_5) ry3_58 c_6) (by decide) (by decide)
              refine lv_iload hx hb dX12_asks_132 (lv_at hl 5 rfl) ?_
              refine lv_istore_n (lv' := [(2, .int y4_26), (6, .int x_5), (0, .ref h0), (1, .int y1_26), (3, .int y3_26), (4, .int y4_26), (5, .int y5_58)]) hx hb dX12_asks_134 rfl hl (by decide) rfl (fun ls hl => ?_)
              refine lv_iload hx hb dX12_asks_135 (lv_at hl 1 rfl) ?_
              refine lv_istore_n (lv' := [(3, .int x_5), (2, .int y4_26), (6, .int x_5), (0, .ref h0), (1, .int y1_26), (4, .int y4_26), (5, .int y5_58)]) hx hb dX12_asks_137 rfl hl (by decide) rfl (fun ls hl => ?_)
              obtain ⟨x_9, ex_9⟩ : ∃ y : Int32, y = y4_26 + 1 := ⟨_, rfl⟩
              have rx_9 : rgI (1) (50) x_9 := by rw [ex_9]; exact rg_w (rg_add ry4_58 rl_1 (by decide) (by decide)) (by decide) (by decide)
              have qx_9 : x_9.toInt = (y4_26 : Int32).toInt + 1 := by rw [ex_9]; exact rg_addE ry4_58 rl_1 (by decide) (by decide)
              refine lv_iinc (v := x_9) (lv' := [(4, .int x_9), (3, .int x_5), (2, .int y4_26), (6, .int x_5), (0, .ref h0), (1, .int y1_26), (5, .int y5_58)]) hx hb dX12_asks_138 hl (k := 5) rfl (by rw [ex_9]; rfl) (by decide) rfl (fun ls hl => ?_)
              refine lv_goto (tgt := 26) hx hb dX12_asks_141 (by decide) ?_
              exact ih_26 H locs G_58 y1_26 y4_26 x_5 x_9 ls (rg_w rg104_58 (by decide) (by decide)) fr_58 (rg_w ry4_58 (by decide) (by decide)) (rg_w r_7 (by decide) (by decide)) (rg_w rx_9 (by decide) (by decide)) hi0_26 (by have h1 := qx_9; have h2 := ry4_58.1; have h3 := ry4_58.2; have h4 := hm_26; omega) (lv_sub hl [4, 5, 2, 1, 0] rfl) hH hS
            · refine lv_goto (tgt := 138) hx hb dX12_asks_129 (by decide) ?_
              obtain ⟨x_10, ex_10⟩ : ∃ y : Int32, y = y4_26 + 1 := ⟨_, rfl⟩
              have rx_10 : rgI (1) (50) x_10 := by rw [ex_10]; exact rg_w (rg_add ry4_58 rl_1 (by decide) (by decide)) (by decide) (by decide)
              have qx_10 : x_10.toInt = (y4_26 : Int32).toInt + 1 := by rw [ex_10]; exact rg_addE ry4_58 rl_1 (by decide) (by decide)
              refine lv_iinc (v := x_10) (lv' := [(4, .int x_10), (6, .int x_5), (0, .ref h0), (1, .int y1_26), (2, .int y2_26), (3, .int y3_26), (5, .int y5_58)]) hx hb dX12_asks_138 hl (k := 5) rfl (by rw [ex_10]; rfl) (by decide) rfl (fun ls hl => ?_)
              refine lv_goto (tgt := 26) hx hb dX12_asks_141 (by decide) ?_
              exact ih_26 H locs G_58 y1_26 y2_26 y3_26 x_10 ls (rg_w rg104_58 (by decide) (by decide)) fr_58 ry2_58 ry3_58 (rg_w rx_10 (by decide) (by decide)) hi0_26 (by have h1 := qx_10; have h2 := ry4_58.1; have h3 := ry4_58.2; have h4 := hm_26; omega) (lv_sub hl [2, 3, 4, 5, 0] rfl) hH hS
          · have r_11 : rgI (0) (23) y6_58 := rg_w (rg_ltL ry6_58 rl_24 (nle_lt c_1)) (by decide) (by decide)
            refine lv_iload hx hb dX12_asks_65 (lv_at hl 5 rfl) ?_
            refine lv_iload_n hx hb dX12_asks_67 rfl (lv_at hl 1 rfl) ?_
            refine lv_iload hx hb dX12_asks_68 (lv_at hl 6 rfl) ?_
            refine vp_callSi (W.runS (As := [.int y1_26, .int y6_58]) (rest := [.int y5_58]) ⟨hx, hb, hml, hown, hts⟩ (c_X12_has l g Ty G_58 y1_26 y6_58 ) (cwSx 2 hts hG (gwC mw_1563) mw_88 mw_1561 mw_1562 rfl rfl rfl hd_X12_has ⟨Nat.le_of_ble_eq_true rfl, Nat.le_of_ble_eq_true rfl⟩) ⟨PcH_blind, PcH_pre hK hH⟩ rfl rfl hl.1 rfl (lv_room (Nat.le_of_ble_eq_true rfl)) dX12_asks_70 ⟨Nat.zero_le _, Nat.zero_le _⟩) (fun x_12 hx_12 => ?_)
            have rx_12 : rgI (0) (1) x_12 := hx_12.1
            refine lv_if_eq (tgt := 99) hx hb dX12_asks_73 (by decide) (fun c_13 => ?_) (fun c_13 => ?_)
            · have r_14 : rgI (0) (0) x_12 := rg_w (rg_eq rl_0 c_13) (by decide) (by decide)
              have hb_15 : bt y1_26 (y6_58 : Int32).toNatClampNeg = false := has_0 (rg_w r_11 (by decide) (by decide)) (by rw [← hx_12.2]; exact c_13)
              refine lv_iconst (v := 0) hx hb dX12_asks_99 (by decide) ?_
              refine lv_iadd hx hb dX12_asks_100 ?_
              refine lv_topi (fun x_16 ex_16 => ?_)
              refine lv_istore (lv' := [(5, .int x_16), (0, .ref h0), (1, .int y1_26), (2, .int y2_26), (3, .int y3_26), (4, .int y4_26), (6, .int y6_58)]) hx hb dX12_asks_101 hl (by decide) rfl (fun ls hl => ?_)
              obtain ⟨x_17, ex_17⟩ : ∃ y : Int32, y = y6_58 + 1 := ⟨_, rfl⟩
              have rx_17 : rgI (1) (24) x_17 := by rw [ex_17]; exact rg_w (rg_add r_11 rl_1 (by decide) (by decide)) (by decide) (by decide)
              have qx_17 : x_17.toInt = (y6_58 : Int32).toInt + 1 := by rw [ex_17]; exact rg_addE r_11 rl_1 (by decide) (by decide)
              refine lv_iinc (v := x_17) (lv' := [(6, .int x_17), (5, .int x_16), (0, .ref h0), (1, .int y1_26), (2, .int y2_26), (3, .int y3_26), (4, .int y4_26)]) hx hb dX12_asks_103 hl (k := 6) rfl (by rw [ex_17]; rfl) (by decide) rfl (fun ls hl => ?_)
              refine lv_goto (tgt := 58) hx hb dX12_asks_106 (by decide) ?_
              exact ih_58 H locs G_58 x_16 x_17 ls (rg_w rg104_58 (by decide) (by decide)) fr_58 ry2_58 ry3_58 ry4_58 (rg_w rx_17 (by decide) (by decide)) (by have h1 := qx_17; have h2 := r_11.1; have h3 := r_11.2; have h4 := hm_58; omega) (lv_sub hl [2, 3, 4, 5, 6, 1, 0] rfl) hH hS
            · have r_18 : rgI (1) (1) x_12 := rg_w (rg_neL rx_12 rl_0 c_13) (by decide) (by decide)
              have hb_19 : bt y1_26 (y6_58 : Int32).toNatClampNeg = true := has_1 (rg_w r_11 (by decide) (by decide)) (by rw [← hx_12.2]; exact c_13)
              have th_20 : thr (G.2.1 (g.2.2 100)) y6_58 := SB.th hi0_26 r_11 hb_19
              refine lv_aload_n hx hb dX12_asks_76 rfl (lv_at hl 0 rfl) ?_
              refine lv_iload hx hb dX12_asks_77 (lv_at hl 6 rfl) ?_
              refine lv_iload hx hb dX12_asks_79 (lv_at hl 4 rfl) ?_
              refine lv_bipush (v := 10) hx hb dX12_asks_81 (by decide) ?_
              refine lv_idiv hx hb dX12_asks_83 (by decide) ?_
              refine lv_topi (fun x_21 ex_21 => ?_)
              have rx_21 : rgI (0) (4) x_21 := by rw [ex_21]; exact rg_w (rg_div ry4_58 rl_10 (by decide) (by decide)) (by decide) (by decide)
              refine lv_iload hx hb dX12_asks_84 (lv_at hl 4 rfl) ?_
              refine lv_bipush (v := 10) hx hb dX12_asks_86 (by decide) ?_
              refine lv_irem hx hb dX12_asks_88 (by decide) ?_
              refine lv_topi (fun x_22 ex_22 => ?_)
              have rx_22 : rgI (0) (9) x_22 := by rw [ex_22]; exact rg_w (rg_rem ry4_58 rl_10 (by decide) (by decide)) (by decide) (by decide)
              obtain ⟨_, ⟨rfl, t_24, hk_25⟩, o_c_23⟩ := hH h0 _ k_h0
              refine vp_callSi (W.runV (As := [.int y6_58, .int x_21, .int x_22]) (rest := [.int y5_58]) ⟨hx, hb, hml, hown, hts⟩ (c_X12_isSo l g Ty G_58 h0 y6_58 x_21 x_22 k_h0 (rg_w r_11 (by decide) (by decide)) Bd ⟨(by rw [(fr_58.1 102 (by decide))]; exact (rg_w hI.a102 (by decide) (by decide))), (rg_w rg104_58 (by decide) (by decide)), (by rw [(fr_58.1 113 (by decide))]; exact (rg_w hI.a113 (by decide) (by decide))), (by rw [(fr_58.1 122 (by decide))]; exact (rg_w hI.a122 (by decide) (by decide))), (by rw [(fr_58.1 133 (by decide))]; exact (rg_w hI.a133 (by decide) (by decide))), (by rw [(fr_58.1 137 (by decide))]; exact (rg_w hI.a137 (by decide) (by decide))), ((fr_58.2.2 111 (by decide)).trans hI.r111), ((fr_58.2.2 112 (by decide)).trans hI.r112), (by rw [(fr_58.2.1 (g.2.2 100) trivial)]; exact (hI.ti.hi (show Bd ≤ Bd by omega))), (hI.un2 (show Bd ≤ Bd by omega) (fr_58.2.1 (g.2.2 121) trivial) (fr_58.1 122 (by decide))), (hI.ke2 (show Bd ≤ Bd by omega) (fr_58.2.1 (g.2.2 140) trivial) (fr_58.2.1 (g.2.2 141) trivial))⟩ hBd hLD (by rw [(fr_58.2.1 (g.2.2 100) trivial)]; exact th_20)) (cwV 3 hts (gwV mw_1789 mw_1791 mw_70 mw_88 mw_1792) rfl rfl rfl hv_X12_isSo ⟨Nat.le_of_ble_eq_true rfl, Nat.le_of_ble_eq_true rfl⟩) ⟨PcH_blind, hg_recv hK o_c_23 rfl, PcH_pre hK hH⟩ rfl rfl hl.1 rfl (lv_room (Nat.le_of_ble_eq_true rfl)) dX12_asks_89 ⟨Nat.zero_le _, Nat.zero_le _⟩) (fun x_26 hx_26 => ?_)
              have rx_26 : rgI (0) (1) x_26 := hx_26
              refine lv_if_eq (tgt := 99) hx hb dX12_asks_92 (by decide) (fun c_27 => ?_) (fun c_27 => ?_)
              · have r_28 : rgI (0) (0) x_26 := rg_w (rg_eq rl_0 c_27) (by decide) (by decide)
                refine lv_iconst (v := 0) hx hb dX12_asks_99 (by decide) ?_
                refine lv_iadd hx hb dX12_asks_100 ?_
                refine lv_topi (fun x_29 ex_29 => ?_)
                refine lv_istore (lv' := [(5, .int x_29), (0, .ref h0), (1, .int y1_26), (2, .int y2_26), (3, .int y3_26), (4, .int y4_26), (6, .int y6_58)]) hx hb dX12_asks_101 hl (by decide) rfl (fun ls hl => ?_)
                obtain ⟨x_30, ex_30⟩ : ∃ y : Int32, y = y6_58 + 1 := ⟨_, rfl⟩
                have rx_30 : rgI (1) (24) x_30 := by rw [ex_30]; exact rg_w (rg_add r_11 rl_1 (by decide) (by decide)) (by decide) (by decide)
                have qx_30 : x_30.toInt = (y6_58 : Int32).toInt + 1 := by rw [ex_30]; exact rg_addE r_11 rl_1 (by decide) (by decide)
                refine lv_iinc (v := x_30) (lv' := [(6, .int x_30), (5, .int x_29), (0, .ref h0), (1, .int y1_26), (2, .int y2_26), (3, .int y3_26), (4, .int y4_26)]) hx hb dX12_asks_103 hl (k := 6) rfl (by rw [ex_30]; rfl) (by decide) rfl (fun ls hl => ?_)
                refine lv_goto (tgt := 58) hx hb dX12_asks_106 (by decide) ?_
                exact ih_58 H locs G_58 x_29 x_30 ls (rg_w rg104_58 (by decide) (by decide)) fr_58 ry2_58 ry3_58 ry4_58 (rg_w rx_30 (by decide) (by decide)) (by have h1 := qx_30; have h2 := r_11.1; have h3 := r_11.2; have h4 := hm_58; omega) (lv_sub hl [2, 3, 4, 5, 6, 1, 0] rfl) hH hS
              · have r_31 : rgI (1) (1) x_26 := rg_w (rg_neL rx_26 rl_0 c_27) (by decide) (by decide)
                refine lv_iconst (v := 1) hx hb dX12_asks_95 (by decide) ?_
                refine lv_goto (tgt := 100) hx hb dX12_asks_96 (by decide) ?_
                refine lv_iadd hx hb dX12_asks_100 ?_
                refine lv_topi (fun x_32 ex_32 => ?_)
                refine lv_istore (lv' := [(5, .int x_32), (0, .ref h0), (1, .int y1_26), (2, .int y2_26), (3, .int y3_26), (4, .int y4_26), (6, .int y6_58)]) hx hb dX12_asks_101 hl (by decide) rfl (fun ls hl => ?_)
                obtain ⟨x_33, ex_33⟩ : ∃ y : Int32, y = y6_58 + 1 := ⟨_, rfl⟩
                have rx_33 : rgI (1) (24) x_33 := by rw [ex_33]; exact rg_w (rg_add r_11 rl_1 (by decide) (by decide)) (by decide) (by decide)
                have qx_33 : x_33.toInt = (y6_58 : Int32).toInt + 1 := by rw [ex_33]; exact rg_addE r_11 rl_1 (by decide) (by decide)
                refine lv_iinc (v := x_33) (lv' := [(6, .int x_33), (5, .int x_32), (0, .ref h0), (1, .int y1_26), (2, .int y2_26), (3, .int y3_26), (4, .int y4_26)]) hx hb dX12_asks_103 hl (k := 6) rfl (by rw [ex_33]; rfl) (by decide) rfl (fun ls hl => ?_)
                refine lv_goto (tgt := 58) hx hb dX12_asks_106 (by decide) ?_
                exact ih_58 H locs G_58 x_32 x_33 ls (rg_w rg104_58 (by decide) (by decide)) fr_58 ry2_58 ry3_58 ry4_58 (rg_w rx_33 (by decide) (by decide)) (by have h1 := qx_33; have h2 := r_11.1; have h3 := r_11.2; have h4 := hm_58; omega) (lv_sub hl [2, 3, 4, 5, 6, 1, 0] rfl) hH hS
      refine lv_iload hx hb dX12_asks_26 (lv_at hl 4 rfl) ?_
      refine lv_bipush (v := 50) hx hb dX12_asks_28 (by decide) ?_
      refine lv_icmp_ge (tgt := 144) hx hb dX12_asks_30 (by decide) (fun c_34 => ?_) (fun c_34 => ?_)
      · have r_35 : rgI (50) (50) y4_26 := rg_w (rg_leR rl_50 ry4_26 c_34) (by decide) (by decide)
        refine lv_aload_n hx hb dX12_asks_144 rfl (lv_at hl 0 rfl) ?_
        refine lv_iconst (v := 0) hx hb dX12_asks_145 (by decide) ?_
        obtain ⟨_, ⟨rfl, t_37, hk_38⟩, o_c_36⟩ := hH h0 _ k_h0
        refine hg_put (ty := .int) hx hb hG igX12 tyX12 tyX12_ok nmX12 hown hK hS o_c_36 (AF.of k_h0) rfl 4 (by decide) (hG _ mw_1288) rfl (by decide +kernel) rfl rfl (Nat.le_of_ble_eq_true rfl) dX12_asks_146 (fun H locs o_c_36 hz oq hS => ?_)
        obtain ⟨G_39, eG_39⟩ : ∃ z : Gh, z = gset G_26 104 0 := ⟨_, rfl⟩
        have hH : HT g Ty G_39 H := by rw [eG_39]; exact HT.putN 104 0 hH k_h0 ⟨rfl, t_37, hk_38⟩ o_c_36 oq (Or.inr (Or.inr (Or.inr (Or.inr (Or.inr ⟨by decide, t_37⟩)))))
        have fr_40 : FR [104, 105] [] [] G G_39 := FR.n fr_26 eG_39 (by decide)
        have u_41 : G_39.1 102 = (G.1 102) := by rw [eG_39]; exact (gs_ne (by decide)).trans (fr_26.1 102 (by decide))
        have u_42 : G_39.1 113 = (G.1 113) := by rw [eG_39]; exact (gs_ne (by decide)).trans (fr_26.1 113 (by decide))
        have u_43 : G_39.1 122 = (G.1 122) := by rw [eG_39]; exact (gs_ne (by decide)).trans (fr_26.1 122 (by decide))
        have u_44 : G_39.1 133 = (G.1 133) := by rw [eG_39]; exact (gs_ne (by decide)).trans (fr_26.1 133 (by decide))
        have u_45 : G_39.1 137 = (G.1 137) := by rw [eG_39]; exact (gs_ne (by decide)).trans (fr_26.1 137 (by decide))
        have u_46 : G_39.1 104 = 0 := by rw [eG_39]; exact gs_eq
        have w_47 : G_39.2.1 (g.2.2 100) = (G.2.1 (g.2.2 100)) := by rw [eG_39]; exact (fr_26.2.1 (g.2.2 100) trivial)
        have w_48 : G_39.2.1 (g.2.2 121) = (G.2.1 (g.2.2 121)) := by rw [eG_39]; exact (fr_26.2.1 (g.2.2 121) trivial)
        have w_49 : G_39.2.1 (g.2.2 140) = (G.2.1 (g.2.2 140)) := by rw [eG_39]; exact (fr_26.2.1 (g.2.2 140) trivial)
        have w_50 : G_39.2.1 (g.2.2 141) = (G.2.1 (g.2.2 141)) := by rw [eG_39]; exact (fr_26.2.1 (g.2.2 141) trivial)
        have w_51 : G_39.2.1 (g.2.2 111) = (G.2.1 (g.2.2 111)) := by rw [eG_39]; exact (fr_26.2.1 (g.2.2 111) trivial)
        have u_52 : G_39.2.2 111 = some (g.2.2 111) := by rw [eG_39]; exact ((fr_26.2.2 111 (by decide)).trans hI.r111)
        have u_53 : G_39.2.2 112 = some (g.2.2 112) := by rw [eG_39]; exact ((fr_26.2.2 112 (by decide)).trans hI.r112)
        clear oq hz
        refine lv_aload_n hx hb dX12_asks_149 rfl (lv_at hl 0 rfl) ?_
        refine lv_iload_n hx hb dX12_asks_150 rfl (lv_at hl 3 rfl) ?_
        refine lv_i2l hx hb dX12_asks_151 rfl ?_
        refine lv_topl (fun u_54 eu_54 => ?_)
        obtain ⟨_, ⟨rfl, t_56, hk_57⟩, o_c_55⟩ := hH h0 _ k_h0
        refine va_callv (va_runV (As := [.long u_54]) (rest := []) ⟨hx, hb, hml, hown, hts⟩ (c_X12_tell l g Ty G_39 H.size h0 u_54 k_h0 (by rw [u_46]; exact rg_w rl_0 (by decide) (by decide))) (cwV 1 hts (gwV mw_1510 mw_1512 mw_48 mw_88 mw_1513) rfl rfl rfl hv_X12_tell ⟨Nat.le_of_ble_eq_true rfl, Nat.le_of_ble_eq_true rfl⟩) ⟨PcT_blind, hg_recv hK o_c_55 rfl, PcT_pre hK hH⟩ rfl rfl hl.1 rfl (lv_room (Nat.le_of_ble_eq_true rfl)) dX12_asks_152 ⟨Nat.zero_le _, Nat.zero_le _⟩) hS (fun q _ h => AF.mono hS.1 h) (fun q h => AF.mono hS.1 h) (fun ux_58 t H locs ht hvm hx_58 hB hz hk hS => ?_)
        obtain ⟨eTx_58, eGx_58⟩ := hx_58
        obtain ⟨G_59, eG_59⟩ : ∃ z, z = ux_58.2 := ⟨_, rfl⟩
        rw [← eG_59] at eGx_58
        obtain ⟨x_60, ex_60⟩ : ∃ z : Int32, z = 0 + 1 := ⟨_, rfl⟩
        have e_61 : G_59 = gset G_39 104 x_60 := by rw [ex_60, ← u_46]; exact eGx_58
        have rx_60 : rgI (1) (1) x_60 := by rw [ex_60]; exact rg_w (rg_add rl_0 rl_1 (by decide) (by decide)) (by decide) (by decide)
        have fr_62 : FR [104, 105] [] [] G G_59 := FR.n fr_40 e_61 (by decide)
        have u_63 : G_59.1 102 = (G.1 102) := by rw [e_61]; exact (gs_ne (by decide)).trans u_41
        have u_64 : G_59.1 113 = (G.1 113) := by rw [e_61]; exact (gs_ne (by decide)).trans u_42
        have u_65 : G_59.1 122 = (G.1 122) := by rw [e_61]; exact (gs_ne (by decide)).trans u_43
        have u_66 : G_59.1 133 = (G.1 133) := by rw [e_61]; exact (gs_ne (by decide)).trans u_44
        have u_67 : G_59.1 137 = (G.1 137) := by rw [e_61]; exact (gs_ne (by decide)).trans u_45
        have u_68 : G_59.1 104 = x_60 := by rw [e_61]; exact gs_eq
        have w_69 : G_59.2.1 (g.2.2 100) = (G.2.1 (g.2.2 100)) := by rw [e_61]; exact w_47
        have w_70 : G_59.2.1 (g.2.2 121) = (G.2.1 (g.2.2 121)) := by rw [e_61]; exact w_48
        have w_71 : G_59.2.1 (g.2.2 140) = (G.2.1 (g.2.2 140)) := by rw [e_61]; exact w_49
        have w_72 : G_59.2.1 (g.2.2 141) = (G.2.1 (g.2.2 141)) := by rw [e_61]; exact w_50
        have w_73 : G_59.2.1 (g.2.2 111) = (G.2.1 (g.2.2 111)) := by rw [e_61]; exact w_51
        have u_74 : G_59.2.2 111 = some (g.2.2 111) := by rw [e_61]; exact u_52
        have u_75 : G_59.2.2 112 = some (g.2.2 112) := by rw [e_61]; exact u_53
        have hH : HT g Ty G_59 H := by rw [← ht, ← eTx_58, eG_59]; exact hB
        refine lv_iload_n hx hb dX12_asks_155 rfl (lv_at hl 2 rfl) ?_
        exact W.iret hx hb hr (fun t ht hWm => ⟨⟨y2_26, (Ty, G_59), rfl, ⟨rfl, ⟨fr_62, ⟨(by rw [u_63]; exact (rg_w hI.a102 (by decide) (by decide))), (by rw [u_68]; exact (rg_w rx_60 (by decide) (by decide))), (by rw [u_64]; exact (rg_w hI.a113 (by decide) (by decide))), (by rw [u_65]; exact (rg_w hI.a122 (by decide) (by decide))), (by rw [u_66]; exact (rg_w hI.a133 (by decide) (by decide))), (by rw [u_67]; exact (rg_w hI.a137 (by decide) (by decide))), u_74, u_75, (by rw [w_69]; exact (hI.ti.hi (show Bd ≤ Bd + 1000 by omega))), (hI.un2 (show Bd ≤ Bd + 1000 by omega) w_70 u_65), (hI.ke2 (show Bd ≤ Bd + 1000 by omega) w_71 w_72)⟩⟩⟩, by show HT g Ty G_59 t.heap; rw [ht]; exact hH⟩, hS.F ht⟩) hS.2.2 dX12_asks_156
      · have r_76 : rgI (0) (49) y4_26 := rg_w (rg_ltL ry4_26 rl_50 (nle_lt c_34)) (by decide) (by decide)
        refine lv_iload hx hb dX12_asks_33 (lv_at hl 4 rfl) ?_
        refine lv_bipush (v := 10) hx hb dX12_asks_35 (by decide) ?_
        refine lv_irem hx hb dX12_asks_37 (by decide) ?_
        refine lv_topi (fun x_77 ex_77 => ?_)
        have rx_77 : rgI (0) (9) x_77 := by rw [ex_77]; exact rg_w (rg_rem r_76 rl_10 (by decide) (by decide)) (by decide) (by decide)
        refine lv_iload hx hb dX12_asks_38 (lv_at hl 4 rfl) ?_
        refine lv_bipush (v := 10) hx hb dX12_asks_40 (by decide) ?_
        refine lv_idiv hx hb dX12_asks_42 (by decide) ?_
        refine lv_topi (fun x_78 ex_78 => ?_)
        have rx_78 : rgI (0) (4) x_78 := by rw [ex_78]; exact rg_w (rg_div r_76 rl_10 (by decide) (by decide)) (by decide) (by decide)
        refine vp_callSi (W.runS (As := [.int x_78]) (rest := [.int x_77]) ⟨hx, hb, hml, hown, hts⟩ (c_X12_highOf l g Ty G_26 x_78 ) (cwSx 1 hts hG (gwC mw_1776) mw_88 mw_1774 mw_1775 rfl rfl rfl hd_X12_highOf ⟨Nat.le_of_ble_eq_true rfl, Nat.le_of_ble_eq_true rfl⟩) ⟨PcH_blind, PcH_pre hK hH⟩ rfl rfl hl.1 rfl (lv_room (Nat.le_of_ble_eq_true rfl)) dX12_asks_43 ⟨Nat.zero_le _, Nat.zero_le _⟩) (fun x_79 hx_79 => ?_)
        have rx_79 : rgI (4) (9) x_79 := hx_79.1
        refine lv_icmp_le (tgt := 52) hx hb dX12_asks_46 (by decide) (fun c_80 => ?_) (fun c_80 => ?_)
        · refine lv_iconst (v := 0) hx hb dX12_asks_52 (by decide) ?_
          refine lv_istore (lv' := [(5, .int 0), (0, .ref h0), (1, .int y1_26), (2, .int y2_26), (3, .int y3_26), (4, .int y4_26)]) hx hb dX12_asks_53 hl (by decide) rfl (fun ls hl => ?_)
          refine lv_iconst (v := 0) hx hb dX12_asks_55 (by decide) ?_
          refine lv_istore (lv' := [(6, .int 0), (5, .int 0), (0, .ref h0), (1, .int y1_26), (2, .int y2_26), (3, .int y3_26), (4, .int y4_26)]) hx hb dX12_asks_56 hl (by decide) rfl (fun ls hl => ?_)
          exact L_58 _ H locs G_26 0 0 ls (rg_w rg104_26 (by decide) (by decide)) fr_26 ry2_26 ry3_26 r_76 (rg_w rl_0 (by decide) (by decide)) (Nat.lt_succ_self _) (lv_sub hl [2, 3, 4, 5, 6, 1, 0] rfl) hH hS
        · have r_81 : rgI (4) (8) x_79 := rg_w (rg_ltL rx_79 rx_77 (nle_lt c_80)) (by decide) (by decide)
          have r_82 : rgI (5) (9) x_77 := rg_w (rg_ltR rx_79 rx_77 (nle_lt c_80)) (by decide) (by decide)
          refine lv_goto (tgt := 138) hx hb dX12_asks_49 (by decide) ?_
          obtain ⟨x_83, ex_83⟩ : ∃ y : Int32, y = y4_26 + 1 := ⟨_, rfl⟩
          have rx_83 : rgI (1) (50) x_83 := by rw [ex_83]; exact rg_w (rg_add r_76 rl_1 (by decide) (by decide)) (by decide) (by decide)
          have qx_83 : x_83.toInt = (y4_26 : Int32).toInt + 1 := by rw [ex_83]; exact rg_addE r_76 rl_1 (by decide) (by decide)
          refine lv_iinc (v := x_83) (lv' := [(4, .int x_83), (0, .ref h0), (1, .int y1_26), (2, .int y2_26), (3, .int y3_26)]) hx hb dX12_asks_138 hl (k := 4) rfl (by rw [ex_83]; rfl) (by decide) rfl (fun ls hl => ?_)
          refine lv_goto (tgt := 26) hx hb dX12_asks_141 (by decide) ?_
          exact ih_26 H locs G_26 y1_26 y2_26 y3_26 x_83 ls (rg_w rg104_26 (by decide) (by decide)) fr_26 ry2_26 ry3_26 (rg_w rx_83 (by decide) (by decide)) hi0_26 (by have h1 := qx_83; have h2 := r_76.1; have h3 := r_76.2; have h4 := hm_26; omega) (lv_sub hl [1, 2, 3, 4, 0] rfl) hH hS
  refine lv_aload_n hx hb dX12_asks_0 rfl (lv_at hl 0 rfl) ?_
  refine lv_iconst (v := 0) hx hb dX12_asks_1 (by decide) ?_
  obtain ⟨_, ⟨rfl, t_85, hk_86⟩, o_c_84⟩ := hH h0 _ k_h0
  refine hg_put (ty := .int) hx hb hG igX12 tyX12 tyX12_ok nmX12 hown hK hS o_c_84 (AF.of k_h0) rfl 5 (by decide) (hG _ mw_1289) rfl (by decide +kernel) rfl rfl (Nat.le_of_ble_eq_true rfl) dX12_asks_2 (fun H locs o_c_84 hz oq hS => ?_)
  obtain ⟨G_87, eG_87⟩ : ∃ z : Gh, z = gset G 105 0 := ⟨_, rfl⟩
  have hH : HT g Ty G_87 H := by rw [eG_87]; exact HT.putN 105 0 hH k_h0 ⟨rfl, t_85, hk_86⟩ o_c_84 oq (Or.inr (Or.inr (Or.inr (Or.inr (Or.inr ⟨by decide, t_85⟩)))))
  have fr_88 : FR [104, 105] [] [] G G_87 := FR.n FR.rf eG_87 (by decide)
  have u_89 : G_87.1 102 = (G.1 102) := by rw [eG_87]; exact (gs_ne (by decide))
  have u_90 : G_87.1 104 = (G.1 104) := by rw [eG_87]; exact (gs_ne (by decide))
  have u_91 : G_87.1 113 = (G.1 113) := by rw [eG_87]; exact (gs_ne (by decide))
  have u_92 : G_87.1 122 = (G.1 122) := by rw [eG_87]; exact (gs_ne (by decide))
  have u_93 : G_87.1 133 = (G.1 133) := by rw [eG_87]; exact (gs_ne (by decide))
  have u_94 : G_87.1 137 = (G.1 137) := by rw [eG_87]; exact (gs_ne (by decide))
  have u_95 : G_87.1 105 = 0 := by rw [eG_87]; exact gs_eq
  have w_96 : G_87.2.1 (g.2.2 100) = (G.2.1 (g.2.2 100)) := by rw [eG_87]; exact rfl
  have w_97 : G_87.2.1 (g.2.2 121) = (G.2.1 (g.2.2 121)) := by rw [eG_87]; exact rfl
  have w_98 : G_87.2.1 (g.2.2 140) = (G.2.1 (g.2.2 140)) := by rw [eG_87]; exact rfl
  have w_99 : G_87.2.1 (g.2.2 141) = (G.2.1 (g.2.2 141)) := by rw [eG_87]; exact rfl
  have w_100 : G_87.2.1 (g.2.2 111) = (G.2.1 (g.2.2 111)) := by rw [eG_87]; exact rfl
  have u_101 : G_87.2.2 111 = some (g.2.2 111) := by rw [eG_87]; exact hI.r111
  have u_102 : G_87.2.2 112 = some (g.2.2 112) := by rw [eG_87]; exact hI.r112
  clear oq hz
  refine lv_aload_n hx hb dX12_asks_5 rfl (lv_at hl 0 rfl) ?_
  obtain ⟨_, ⟨rfl, t_104, hk_105⟩, o_c_103⟩ := hH h0 _ k_h0
  refine vp_callSi (W.runV (As := []) (rest := []) ⟨hx, hb, hml, hown, hts⟩ (c_X12_fitting l g Ty G_87 h0 k_h0 Bd ⟨(by rw [u_89]; exact (rg_w hI.a102 (by decide) (by decide))), (by rw [u_90]; exact (rg_w hI.a104 (by decide) (by decide))), (by rw [u_91]; exact (rg_w hI.a113 (by decide) (by decide))), (by rw [u_92]; exact (rg_w hI.a122 (by decide) (by decide))), (by rw [u_93]; exact (rg_w hI.a133 (by decide) (by decide))), (by rw [u_94]; exact (rg_w hI.a137 (by decide) (by decide))), u_101, u_102, (by rw [w_96]; exact (hI.ti.hi (show Bd ≤ Bd by omega))), (hI.un2 (show Bd ≤ Bd by omega) w_97 u_92), (hI.ke2 (show Bd ≤ Bd by omega) w_98 w_99)⟩ hBd hLD) (cwV 0 hts (gwV mw_1785 mw_1787 mw_69 mw_88 mw_1788) rfl rfl rfl hv_X12_fitting ⟨Nat.le_of_ble_eq_true rfl, Nat.le_of_ble_eq_true rfl⟩) ⟨PcH_blind, hg_recv hK o_c_103 rfl, PcH_pre hK hH⟩ rfl rfl hl.1 rfl (lv_room (Nat.le_of_ble_eq_true rfl)) dX12_asks_6 ⟨Nat.zero_le _, Nat.zero_le _⟩) (fun x_106 hx_106 => ?_)
  have tx_107 := hx_106
  try rw [w_100] at tx_107
  try rw [u_91] at tx_107
  try rw [w_96] at tx_107
  refine lv_istore_n (lv' := [(1, .int x_106), (0, .ref h0)]) hx hb dX12_asks_9 rfl hl (by decide) rfl (fun ls hl => ?_)
  refine lv_iload_n hx hb dX12_asks_10 rfl (lv_at hl 0 rfl) ?_
  refine lv_if_ne (tgt := 17) hx hb dX12_asks_11 (by decide) (fun c_108 => ?_) (fun c_108 => ?_)
  · refine lv_iconst (v := (-1)) hx hb dX12_asks_17 (by decide) ?_
    refine lv_istore_n (lv' := [(2, .int (-1)), (1, .int x_106), (0, .ref h0)]) hx hb dX12_asks_18 rfl hl (by decide) rfl (fun ls hl => ?_)
    refine lv_ldcw (v := 1000000) hx hb hown (hG _ mw_1797) dX12_asks_19 ?_
    refine lv_istore_n (lv' := [(3, .int 1000000), (2, .int (-1)), (1, .int x_106), (0, .ref h0)]) hx hb dX12_asks_22 rfl hl (by decide) rfl (fun ls hl => ?_)
    refine lv_iconst (v := 0) hx hb dX12_asks_23 (by decide) ?_
    refine lv_istore (lv' := [(4, .int 0), (3, .int 1000000), (2, .int (-1)), (1, .int x_106), (0, .ref h0)]) hx hb dX12_asks_24 hl (by decide) rfl (fun ls hl => ?_)
    exact L_26 _ H locs G_87 x_106 (-1) 1000000 0 ls (by rw [u_90]; exact rg_w hI.a104 (by decide) (by decide)) fr_88 (rg_w rl_m1 (by decide) (by decide)) (rg_w rl_1000000 (by decide) (by decide)) (rg_w rl_0 (by decide) (by decide)) tx_107 (Nat.lt_succ_self _) (lv_sub hl [4, 3, 2, 1, 0] rfl) hH hS
  · have r_109 : rgI (0) (0) x_106 := rg_w (rg_eq rl_0 c_108) (by decide) (by decide)
    refine lv_bipush (v := (-2)) hx hb dX12_asks_14 (by decide) ?_
    exact W.iret hx hb hr (fun t ht hWm => ⟨⟨(-2), (Ty, G_87), rfl, ⟨rfl, ⟨fr_88, ⟨(by rw [u_89]; exact (rg_w hI.a102 (by decide) (by decide))), (by rw [u_90]; exact (rg_w hI.a104 (by decide) (by decide))), (by rw [u_91]; exact (rg_w hI.a113 (by decide) (by decide))), (by rw [u_92]; exact (rg_w hI.a122 (by decide) (by decide))), (by rw [u_93]; exact (rg_w hI.a133 (by decide) (by decide))), (by rw [u_94]; exact (rg_w hI.a137 (by decide) (by decide))), u_101, u_102, (by rw [w_96]; exact (hI.ti.hi (show Bd ≤ Bd + 1000 by omega))), (hI.un2 (show Bd ≤ Bd + 1000 by omega) w_97 u_92), (hI.ke2 (show Bd ≤ Bd + 1000 by omega) w_98 w_99)⟩⟩⟩, by show HT g Ty G_87 t.heap; rw [ht]; exact hH⟩, hS.F ht⟩) hS.2.2 dX12_asks_16

set_option maxHeartbeats 4000000 in
set_option maxRecDepth 100000 in
theorem c_X12_isLaw (l : Launch) (g : Gx) (Ty : TyM) (G : Gh) (h0 : Nat) (a0 : Int32) (k_h0 : Ty h0 = some (22, 0)) (Bd : Int) (hI : OI g Bd G) (hBd : Bd ≤ 1900000) (hLD : LD g) : Met l yX12_isLaw (wsG yX12_isLaw cX12_isLaw 3 (some .boolean)) ({ frames := 1, cells := 0, slots := 0, locals := 22 }) (PcH g Ty G [.ref h0, .int a0]) (vp_Si (fun r => rgI (0) (1) r)) 0 0 (fun _ => False) := by
  refine Met.ofW (cc := cX12_isLaw) (maxL := 3) (ret := (some .boolean)) (by decide) rfl ?_
  intro p e s m args below meth c s₁ B hml hv
  obtain ⟨rfl, hK, hH⟩ := hv
  have hx := B.exec
  have hb := B.bytes
  have hr := B.returns
  have hts := atoms_spec (ws := (wsG yX12_isLaw cX12_isLaw 3 (some .boolean))) B.pre
  have hG : ∀ w ∈ GW, w.before ([.ref h0, .int a0] : List Value).toArray s = true := fun w h => hts w (List.mem_cons_of_mem _ h)
  have hown : s.vm.findClass RX12 = some m.cls := findClass_of_methodNamed B.named
  have hlocks := B.notSynchronized
  have hl := lv_entry [.ref h0, .int a0] (n := 3) (Nat.le_of_ble_eq_true rfl)
  rw [lg_entry_eq]
  generalize (lg_sl [.ref h0, .int a0] ++ List.replicate (3 - (lg_sl [.ref h0, .int a0]).length) Slot.unset).toArray = ls at hl ⊢
  have hl : lv_has ls 3 [(0, .ref h0), (1, .int a0)] := hl
  have hmk : mdK g Ty := mdk_of hH k_h0
  obtain ⟨⟨σ0, hTS0⟩, h10, hBB0⟩ := id hI.ti
  obtain ⟨ρ, hT⟩ := hTS0.1
  have L_2 : ∀ (n : Nat) (y2_2 : Int32) (ls : Array Slot), rgI (0) (23) y2_2 → (10 - (y2_2).toInt).toNat < n → lv_has ls 3 [(0, .ref h0), (1, .int a0), (2, .int y2_2)] → Wm p l e (wsG yX12_isLaw cX12_isLaw 3 (some .boolean)) ({ frames := 1, cells := 0, slots := 0, locals := 22 }) s m [.ref h0, .int a0] below meth c s.heap [] (0) (0) (vp_Si (fun r => rgI (0) (1) r)) 0 0 (fun _ => False) (F0 m 2 ls []) := by
    intro n
    induction n with
    | zero => intro y2_2 ls ry2_2 hm; exact absurd hm (Nat.not_lt_zero _)
    | succ n ih_2 =>
      intro y2_2 ls ry2_2 hm_2 hl
      refine lv_iload_n hx hb dX12_isLaw_2 rfl (lv_at hl 2 rfl) ?_
      refine lv_aload_n hx hb dX12_isLaw_3 rfl (lv_at hl 0 rfl) ?_
      obtain ⟨_, ⟨rfl, t_2, hk_3⟩, o_c_1⟩ := hH h0 _ k_h0
      refine hg_get hx hb hG igX12 hown hK o_c_1 rfl 37 (by decide) (hG _ mw_1321) rfl dX12_isLaw_4 ?_
      refine lv_icmp_ge (tgt := 52) hx hb dX12_isLaw_7 (by decide) (fun c_4 => ?_) (fun c_4 => ?_)
      · refine lv_iconst (v := 1) hx hb dX12_isLaw_52 (by decide) ?_
        exact W.zret hx hb hr rfl (fun t ht hW => ⟨1, rfl, rg_w rl_1 (by decide) (by decide), ht⟩) (fun q h => by cases h) dX12_isLaw_53
      · have r_5 : rgI (0) (9) y2_2 := rg_w (rg_ltL ry2_2 hI.a137 (nle_lt c_4)) (by decide) (by decide)
        have r_6 : rgI (1) (10) (G.1 137) := rg_w (rg_ltR ry2_2 hI.a137 (nle_lt c_4)) (by decide) (by decide)
        refine lv_iload_n hx hb dX12_isLaw_10 rfl (lv_at hl 1 rfl) ?_
        refine lv_aload_n hx hb dX12_isLaw_11 rfl (lv_at hl 0 rfl) ?_
        refine hg_get hx hb hG igX12 hown hK o_c_1 rfl 34 (by decide) (hG _ mw_1318) rfl dX12_isLaw_12 ?_
        refine lv_iload_n hx hb dX12_isLaw_15 rfl (lv_at hl 2 rfl) ?_
        obtain ⟨_, rfl, o_c_7⟩ := hH (g.2.2 134) _ hk_3.2.2.2.2.2.2.2.2.2.2.2.2.2.2.1
        have o_c_7 : va_at g.1 vwCl ((g.2.2 134), .inl (g.2.1 1, 10, .inl (G.2.1 (g.2.2 134)))) s.heap := o_c_7
        refine hg_iald hx hb hK o_c_7 (rg_in (n := 10) r_5 (by decide) (by decide)) dX12_isLaw_16 ?_
        refine lv_topi (fun x_9 ex_9 => ?_)
        refine lv_aload_n hx hb dX12_isLaw_17 rfl (lv_at hl 0 rfl) ?_
        refine hg_get hx hb hG igX12 hown hK o_c_1 rfl 35 (by decide) (hG _ mw_1319) rfl dX12_isLaw_18 ?_
        refine lv_iload_n hx hb dX12_isLaw_21 rfl (lv_at hl 2 rfl) ?_
        obtain ⟨_, rfl, o_c_10⟩ := hH (g.2.2 135) _ hk_3.2.2.2.2.2.2.2.2.2.2.2.2.2.2.2.1
        have o_c_10 : va_at g.1 vwCl ((g.2.2 135), .inl (g.2.1 1, 10, .inl (G.2.1 (g.2.2 135)))) s.heap := o_c_10
        refine hg_iald hx hb hK o_c_10 (rg_in (n := 10) r_5 (by decide) (by decide)) dX12_isLaw_22 ?_
        refine lv_topi (fun x_12 ex_12 => ?_)
        refine vp_callSi (W.runS (As := [.int a0, .int x_9, .int x_12]) (rest := []) ⟨hx, hb, hml, hown, hts⟩ (c_X12_comesBy l g Ty G a0 x_9 x_12 ) (cwSx 3 hts hG (gwC mw_1816) mw_88 mw_1814 mw_1815 rfl rfl rfl hd_X12_comesBy ⟨Nat.le_of_ble_eq_true rfl, Nat.le_of_ble_eq_true rfl⟩) ⟨PcH_blind, PcH_pre hK hH⟩ rfl rfl hl.1 rfl (lv_room (Nat.le_of_ble_eq_true rfl)) dX12_isLaw_23 ⟨Nat.zero_le _, Nat.zero_le _⟩) (fun x_13 hx_13 => ?_)
        have rx_13 : rgI (0) (1) x_13 := hx_13.1
        refine lv_aload_n hx hb dX12_isLaw_26 rfl (lv_at hl 0 rfl) ?_
        refine hg_get hx hb hG igX12 hown hK o_c_1 rfl 36 (by decide) (hG _ mw_1320) rfl dX12_isLaw_27 ?_
        refine lv_iload_n hx hb dX12_isLaw_30 rfl (lv_at hl 2 rfl) ?_
        obtain ⟨_, rfl, o_c_14⟩ := hH (g.2.2 136) _ hk_3.2.2.2.2.2.2.2.2.2.2.2.2.2.2.2.2.1
        have o_c_14 : va_at g.1 vwCl ((g.2.2 136), .inl (g.2.1 1, 10, .inl (G.2.1 (g.2.2 136)))) s.heap := o_c_14
        refine hg_iald hx hb hK o_c_14 (rg_in (n := 10) r_5 (by decide) (by decide)) dX12_isLaw_31 ?_
        refine lv_topi (fun x_16 ex_16 => ?_)
        refine lv_iconst (v := 1) hx hb dX12_isLaw_32 (by decide) ?_
        refine lv_icmp_ne (tgt := 40) hx hb dX12_isLaw_33 (by decide) (fun c_17 => ?_) (fun c_17 => ?_)
        · refine lv_iconst (v := 0) hx hb dX12_isLaw_40 (by decide) ?_
          refine lv_icmp_eq (tgt := 46) hx hb dX12_isLaw_41 (by decide) (fun c_18 => ?_) (fun c_18 => ?_)
          · have r_19 : rgI (0) (0) x_13 := rg_w (rg_eq rl_0 c_18) (by decide) (by decide)
            obtain ⟨x_20, ex_20⟩ : ∃ y : Int32, y = y2_2 + 1 := ⟨_, rfl⟩
            have rx_20 : rgI (1) (10) x_20 := by rw [ex_20]; exact rg_w (rg_add r_5 rl_1 (by decide) (by decide)) (by decide) (by decide)
            have qx_20 : x_20.toInt = (y2_2 : Int32).toInt + 1 := by rw [ex_20]; exact rg_addE r_5 rl_1 (by decide) (by decide)
            refine lv_iinc (v := x_20) (lv' := [(2, .int x_20), (0, .ref h0), (1, .int a0)]) hx hb dX12_isLaw_46 hl (k := 2) rfl (by rw [ex_20]; rfl) (by decide) rfl (fun ls hl => ?_)
            refine lv_goto (tgt := 2) hx hb dX12_isLaw_49 (by decide) ?_
            exact ih_2 x_20 ls (rg_w rx_20 (by decide) (by decide)) (by have h1 := qx_20; have h2 := r_5.1; have h3 := r_5.2; have h4 := hm_2; omega) (lv_sub hl [1, 2, 0] rfl)
          · have r_21 : rgI (1) (1) x_13 := rg_w (rg_neL rx_13 rl_0 c_18) (by decide) (by decide)
            refine lv_iconst (v := 0) hx hb dX12_isLaw_44 (by decide) ?_
            exact W.zret hx hb hr rfl (fun t ht hW => ⟨0, rfl, rg_w rl_0 (by decide) (by decide), ht⟩) (fun q h => by cases h) dX12_isLaw_45
        · have r_22 : rgI (1) (1) x_16 := rg_w (rg_eq rl_1 c_17) (by decide) (by decide)
          refine lv_iconst (v := 1) hx hb dX12_isLaw_36 (by decide) ?_
          refine lv_goto (tgt := 41) hx hb dX12_isLaw_37 (by decide) ?_
          refine lv_icmp_eq (tgt := 46) hx hb dX12_isLaw_41 (by decide) (fun c_23 => ?_) (fun c_23 => ?_)
          · have r_24 : rgI (1) (1) x_13 := rg_w (rg_eq rl_1 c_23) (by decide) (by decide)
            obtain ⟨x_25, ex_25⟩ : ∃ y : Int32, y = y2_2 + 1 := ⟨_, rfl⟩
            have rx_25 : rgI (1) (10) x_25 := by rw [ex_25]; exact rg_w (rg_add r_5 rl_1 (by decide) (by decide)) (by decide) (by decide)
            have qx_25 : x_25.toInt = (y2_2 : Int32).toInt + 1 := by rw [ex_25]; exact rg_addE r_5 rl_1 (by decide) (by decide)
            refine lv_iinc (v := x_25) (lv' := [(2, .int x_25), (0, .ref h0), (1, .int a0)]) hx hb dX12_isLaw_46 hl (k := 2) rfl (by rw [ex_25]; rfl) (by decide) rfl (fun ls hl => ?_)
            refine lv_goto (tgt := 2) hx hb dX12_isLaw_49 (by decide) ?_
            exact ih_2 x_25 ls (rg_w rx_25 (by decide) (by decide)) (by have h1 := qx_25; have h2 := r_5.1; have h3 := r_5.2; have h4 := hm_2; omega) (lv_sub hl [1, 2, 0] rfl)
          · have r_26 : rgI (0) (0) x_13 := rg_w (rg_neR rx_13 rl_1 c_23) (by decide) (by decide)
            refine lv_iconst (v := 0) hx hb dX12_isLaw_44 (by decide) ?_
            exact W.zret hx hb hr rfl (fun t ht hW => ⟨0, rfl, rg_w rl_0 (by decide) (by decide), ht⟩) (fun q h => by cases h) dX12_isLaw_45
  refine lv_iconst (v := 0) hx hb dX12_isLaw_0 (by decide) ?_
  refine lv_istore_n (lv' := [(2, .int 0), (0, .ref h0), (1, .int a0)]) hx hb dX12_isLaw_1 rfl hl (by decide) rfl (fun ls hl => ?_)
  exact L_2 _ 0 ls (rg_w rl_0 (by decide) (by decide)) (Nat.lt_succ_self _) (lv_sub hl [1, 2, 0] rfl)

set_option maxHeartbeats 4000000 in
set_option maxRecDepth 100000 in
theorem c_X12_laws (l : Launch) (g : Gx) (Ty : TyM) (G : Gh) (sz : Nat) (h0 : Nat) (k_h0 : Ty h0 = some (22, 0)) (Bd : Int) (hI : OI g Bd G) (hBd : Bd ≤ 1900000) (hLD : LD g) : Met l yX12_laws (wsG yX12_laws cX12_laws 3 (some .int)) ({ frames := 2, cells := 0, slots := 0, locals := 44 }) (PcT g Ty G sz [.ref h0]) (QwI g Ty sz (fun r u => u.1 = Ty ∧ FR [104, 105] [] [] G u.2 ∧ OI g (Bd + 1000) u.2)) 0 0 (AF Ty sz) := by
  refine Met.ofW (cc := cX12_laws) (maxL := 3) (ret := (some .int)) (by decide) rfl ?_
  intro p e s m args below meth c s₁ B hml hv
  obtain ⟨rfl, hsz, hK, hH⟩ := hv
  subst hsz
  have hx := B.exec
  have hb := B.bytes
  have hr := B.returns
  have hts := atoms_spec (ws := (wsG yX12_laws cX12_laws 3 (some .int))) B.pre
  have hG : ∀ w ∈ GW, w.before ([.ref h0] : List Value).toArray s = true := fun w h => hts w (List.mem_cons_of_mem _ h)
  have hown : s.vm.findClass RX12 = some m.cls := findClass_of_methodNamed B.named
  have hlocks := B.notSynchronized
  have hl := lv_entry [.ref h0] (n := 3) (Nat.le_of_ble_eq_true rfl)
  rw [lg_entry_eq]
  generalize (lg_sl [.ref h0] ++ List.replicate (3 - (lg_sl [.ref h0]).length) Slot.unset).toArray = ls at hl ⊢
  have hl : lv_has ls 3 [(0, .ref h0)] := hl
  have hmk : mdK g Ty := mdk_of hH k_h0
  have hS : va_S (AF Ty s.heap.size) s.heap s.heap [] := va_S.rf
  obtain ⟨⟨σ0, hTS0⟩, h10, hBB0⟩ := id hI.ti
  obtain ⟨ρ, hT⟩ := hTS0.1
  have L_14 : ∀ (n : Nat) (H : Heap) (locs : List Loc) (G_14 : Gh) (y1_14 : Int32) (y2_14 : Int32) (ls : Array Slot), rgI (0) (2) (G_14.1 104) → FR [104, 105] [] [] G G_14 → rgI (0) (35) y2_14 → (0 ≤ (y1_14 : Int32).toInt ∧ (y1_14 : Int32).toInt ≤ (y2_14 : Int32).toInt) → (¬ y1_14 = 0 ∨ G_14.1 104 = 0) → (35 - (y2_14).toInt).toNat < n → lv_has ls 3 [(0, .ref h0), (1, .int y1_14), (2, .int y2_14)] → HT g Ty G_14 H → va_S (AF Ty s.heap.size) s.heap H locs → Wm p l e (wsG yX12_laws cX12_laws 3 (some .int)) ({ frames := 2, cells := 0, slots := 0, locals := 44 }) s m [.ref h0] below meth c H locs (0) (0) (QwI g Ty s.heap.size (fun r u => u.1 = Ty ∧ FR [104, 105] [] [] G u.2 ∧ OI g (Bd + 1000) u.2)) 0 0 (AF Ty s.heap.size) (F0 m 14 ls []) := by
    intro n
    induction n with
    | zero => intro H locs G_14 y1_14 y2_14 ls rg104_14 fr_14 ry2_14 hi0_14 hi1_14 hm; exact absurd hm (Nat.not_lt_zero _)
    | succ n ih_14 =>
      intro H locs G_14 y1_14 y2_14 ls rg104_14 fr_14 ry2_14 hi0_14 hi1_14 hm_14 hl hH hS
      refine lv_iload_n hx hb dX12_laws_14 rfl (lv_at hl 2 rfl) ?_
      refine lv_bipush (v := 35) hx hb dX12_laws_15 (by decide) ?_
      refine lv_icmp_ge (tgt := 60) hx hb dX12_laws_17 (by decide) (fun c_1 => ?_) (fun c_1 => ?_)
      · have r_2 : rgI (35) (35) y2_14 := rg_w (rg_leR rl_35 ry2_14 c_1) (by decide) (by decide)
        refine lv_iload_n hx hb dX12_laws_60 rfl (lv_at hl 1 rfl) ?_
        exact W.iret hx hb hr (fun t ht hWm => ⟨⟨y1_14, (Ty, G_14), rfl, ⟨rfl, ⟨fr_14, ⟨(by rw [(fr_14.1 102 (by decide))]; exact (rg_w hI.a102 (by decide) (by decide))), (rg_w rg104_14 (by decide) (by decide)), (by rw [(fr_14.1 113 (by decide))]; exact (rg_w hI.a113 (by decide) (by decide))), (by rw [(fr_14.1 122 (by decide))]; exact (rg_w hI.a122 (by decide) (by decide))), (by rw [(fr_14.1 133 (by decide))]; exact (rg_w hI.a133 (by decide) (by decide))), (by rw [(fr_14.1 137 (by decide))]; exact (rg_w hI.a137 (by decide) (by decide))), ((fr_14.2.2 111 (by decide)).trans hI.r111), ((fr_14.2.2 112 (by decide)).trans hI.r112), (by rw [(fr_14.2.1 (g.2.2 100) trivial)]; exact (hI.ti.hi (show Bd ≤ Bd + 1000 by omega))), (hI.un2 (show Bd ≤ Bd + 1000 by omega) (fr_14.2.1 (g.2.2 121) trivial) (fr_14.1 122 (by decide))), (hI.ke2 (show Bd ≤ Bd + 1000 by omega) (fr_14.2.1 (g.2.2 140) trivial) (fr_14.2.1 (g.2.2 141) trivial))⟩⟩⟩, by show HT g Ty G_14 t.heap; rw [ht]; exact hH⟩, hS.F ht⟩) hS.2.2 dX12_laws_61
      · have r_3 : rgI (0) (34) y2_14 := rg_w (rg_ltL ry2_14 rl_35 (nle_lt c_1)) (by decide) (by decide)
        refine lv_aload_n hx hb dX12_laws_20 rfl (lv_at hl 0 rfl) ?_
        refine lv_iload_n hx hb dX12_laws_21 rfl (lv_at hl 2 rfl) ?_
        obtain ⟨_, ⟨rfl, t_5, hk_6⟩, o_c_4⟩ := hH h0 _ k_h0
        refine vp_callSi (W.runV (As := [.int y2_14]) (rest := []) ⟨hx, hb, hml, hown, hts⟩ (c_X12_isLaw l g Ty G_14 h0 y2_14 k_h0 Bd ⟨(by rw [(fr_14.1 102 (by decide))]; exact (rg_w hI.a102 (by decide) (by decide))), (rg_w rg104_14 (by decide) (by decide)), (by rw [(fr_14.1 113 (by decide))]; exact (rg_w hI.a113 (by decide) (by decide))), (by rw [(fr_14.1 122 (by decide))]; exact (rg_w hI.a122 (by decide) (by decide))), (by rw [(fr_14.1 133 (by decide))]; exact (rg_w hI.a133 (by decide) (by decide))), (by rw [(fr_14.1 137 (by decide))]; exact (rg_w hI.a137 (by decide) (by decide))), ((fr_14.2.2 111 (by decide)).trans hI.r111), ((fr_14.2.2 112 (by decide)).trans hI.r112), (by rw [(fr_14.2.1 (g.2.2 100) trivial)]; exact (hI.ti.hi (show Bd ≤ Bd by omega))), (hI.un2 (show Bd ≤ Bd by omega) (fr_14.2.1 (g.2.2 121) trivial) (fr_14.1 122 (by decide))), (hI.ke2 (show Bd ≤ Bd by omega) (fr_14.2.1 (g.2.2 140) trivial) (fr_14.2.1 (g.2.2 141) trivial))⟩ hBd hLD) (cwV 1 hts (gwV mw_1810 mw_1812 mw_71 mw_88 mw_1813) rfl rfl rfl hv_X12_isLaw ⟨Nat.le_of_ble_eq_true rfl, Nat.le_of_ble_eq_true rfl⟩) ⟨PcH_blind, hg_recv hK o_c_4 rfl, PcH_pre hK hH⟩ rfl rfl hl.1 rfl (lv_room (Nat.le_of_ble_eq_true rfl)) dX12_laws_22 ⟨Nat.zero_le _, Nat.zero_le _⟩) (fun x_7 hx_7 => ?_)
        have rx_7 : rgI (0) (1) x_7 := hx_7
        refine lv_if_ne (tgt := 31) hx hb dX12_laws_25 (by decide) (fun c_8 => ?_) (fun c_8 => ?_)
        · have r_9 : rgI (1) (1) x_7 := rg_w (rg_neL rx_7 rl_0 c_8) (by decide) (by decide)
          refine lv_iload_n hx hb dX12_laws_31 rfl (lv_at hl 1 rfl) ?_
          refine lv_if_ne (tgt := 51) hx hb dX12_laws_32 (by decide) (fun c_10 => ?_) (fun c_10 => ?_)
          · obtain ⟨x_11, ex_11⟩ : ∃ y : Int32, y = y1_14 + 1 := ⟨_, rfl⟩
            refine lv_iinc (v := x_11) (lv' := [(1, .int x_11), (0, .ref h0), (2, .int y2_14)]) hx hb dX12_laws_51 hl (k := 1) rfl (by rw [ex_11]; rfl) (by decide) rfl (fun ls hl => ?_)
            obtain ⟨x_12, ex_12⟩ : ∃ y : Int32, y = y2_14 + 1 := ⟨_, rfl⟩
            have rx_12 : rgI (1) (35) x_12 := by rw [ex_12]; exact rg_w (rg_add r_3 rl_1 (by decide) (by decide)) (by decide) (by decide)
            have qx_12 : x_12.toInt = (y2_14 : Int32).toInt + 1 := by rw [ex_12]; exact rg_addE r_3 rl_1 (by decide) (by decide)
            refine lv_iinc (v := x_12) (lv' := [(2, .int x_12), (1, .int x_11), (0, .ref h0)]) hx hb dX12_laws_54 hl (k := 2) rfl (by rw [ex_12]; rfl) (by decide) rfl (fun ls hl => ?_)
            refine lv_goto (tgt := 14) hx hb dX12_laws_57 (by decide) ?_
            exact ih_14 H locs G_14 x_11 x_12 ls (rg_w rg104_14 (by decide) (by decide)) fr_14 (rg_w rx_12 (by decide) (by decide)) (cn_s hi0_14 ex_11 qx_12 r_3) (Or.inl (cn_n hi0_14 ex_11 r_3)) (by have h1 := qx_12; have h2 := r_3.1; have h3 := r_3.2; have h4 := hm_14; omega) (lv_sub hl [2, 1, 0] rfl) hH hS
          · have r_13 : rgI (0) (0) y1_14 := rg_w (rg_eq rl_0 c_10) (by decide) (by decide)
            have r4_14 : rgI 0 0 (G_14.1 104) := rg_rg (hi1_14.resolve_left (fun w => w c_10)) rl_0
            refine lv_aload_n hx hb dX12_laws_35 rfl (lv_at hl 0 rfl) ?_
            refine lv_iload_n hx hb dX12_laws_36 rfl (lv_at hl 2 rfl) ?_
            refine lv_iconst (v := 5) hx hb dX12_laws_37 (by decide) ?_
            refine lv_idiv hx hb dX12_laws_38 (by decide) ?_
            refine lv_topi (fun x_15 ex_15 => ?_)
            have rx_15 : rgI (0) (6) x_15 := by rw [ex_15]; exact rg_w (rg_div r_3 rl_5 (by decide) (by decide)) (by decide) (by decide)
            refine lv_i2l hx hb dX12_laws_39 rfl ?_
            refine lv_topl (fun u_16 eu_16 => ?_)
            refine va_callv (va_runV (As := [.long u_16]) (rest := []) ⟨hx, hb, hml, hown, hts⟩ (c_X12_tell l g Ty G_14 H.size h0 u_16 k_h0 (rg_w r4_14 (by decide) (by decide))) (cwV 1 hts (gwV mw_1510 mw_1512 mw_48 mw_88 mw_1513) rfl rfl rfl hv_X12_tell ⟨Nat.le_of_ble_eq_true rfl, Nat.le_of_ble_eq_true rfl⟩) ⟨PcT_blind, hg_recv hK o_c_4 rfl, PcT_pre hK hH⟩ rfl rfl hl.1 rfl (lv_room (Nat.le_of_ble_eq_true rfl)) dX12_laws_40 ⟨Nat.zero_le _, Nat.zero_le _⟩) hS (fun q _ h => AF.mono hS.1 h) (fun q h => AF.mono hS.1 h) (fun ux_17 t H locs ht hvm hx_17 hB hz hk hS => ?_)
            obtain ⟨eTx_17, eGx_17⟩ := hx_17
            obtain ⟨G_18, eG_18⟩ : ∃ z, z = ux_17.2 := ⟨_, rfl⟩
            rw [← eG_18] at eGx_17
            obtain ⟨x_19, ex_19⟩ : ∃ z : Int32, z = (G_14.1 104) + 1 := ⟨_, rfl⟩
            have e_20 : G_18 = gset G_14 104 x_19 := by rw [ex_19]; exact eGx_17
            have rx_19 : rgI (1) (1) x_19 := by rw [ex_19]; exact rg_w (rg_add r4_14 rl_1 (by decide) (by decide)) (by decide) (by decide)
            have fr_21 : FR [104, 105] [] [] G G_18 := FR.n fr_14 e_20 (by decide)
            have u_22 : G_18.1 102 = (G.1 102) := by rw [e_20]; exact (gs_ne (by decide)).trans (fr_14.1 102 (by decide))
            have u_23 : G_18.1 113 = (G.1 113) := by rw [e_20]; exact (gs_ne (by decide)).trans (fr_14.1 113 (by decide))
            have u_24 : G_18.1 122 = (G.1 122) := by rw [e_20]; exact (gs_ne (by decide)).trans (fr_14.1 122 (by decide))
            have u_25 : G_18.1 133 = (G.1 133) := by rw [e_20]; exact (gs_ne (by decide)).trans (fr_14.1 133 (by decide))
            have u_26 : G_18.1 137 = (G.1 137) := by rw [e_20]; exact (gs_ne (by decide)).trans (fr_14.1 137 (by decide))
            have u_27 : G_18.1 104 = x_19 := by rw [e_20]; exact gs_eq
            have w_28 : G_18.2.1 (g.2.2 100) = (G.2.1 (g.2.2 100)) := by rw [e_20]; exact (fr_14.2.1 (g.2.2 100) trivial)
            have w_29 : G_18.2.1 (g.2.2 121) = (G.2.1 (g.2.2 121)) := by rw [e_20]; exact (fr_14.2.1 (g.2.2 121) trivial)
            have w_30 : G_18.2.1 (g.2.2 140) = (G.2.1 (g.2.2 140)) := by rw [e_20]; exact (fr_14.2.1 (g.2.2 140) trivial)
            have w_31 : G_18.2.1 (g.2.2 141) = (G.2.1 (g.2.2 141)) := by rw [e_20]; exact (fr_14.2.1 (g.2.2 141) trivial)
            have w_32 : G_18.2.1 (g.2.2 111) = (G.2.1 (g.2.2 111)) := by rw [e_20]; exact (fr_14.2.1 (g.2.2 111) trivial)
            have u_33 : G_18.2.2 111 = some (g.2.2 111) := by rw [e_20]; exact ((fr_14.2.2 111 (by decide)).trans hI.r111)
            have u_34 : G_18.2.2 112 = some (g.2.2 112) := by rw [e_20]; exact ((fr_14.2.2 112 (by decide)).trans hI.r112)
            have hH : HT g Ty G_18 H := by rw [← ht, ← eTx_17, eG_18]; exact hB
            refine lv_aload_n hx hb dX12_laws_43 rfl (lv_at hl 0 rfl) ?_
            refine lv_iload_n hx hb dX12_laws_44 rfl (lv_at hl 2 rfl) ?_
            refine lv_iconst (v := 5) hx hb dX12_laws_45 (by decide) ?_
            refine lv_irem hx hb dX12_laws_46 (by decide) ?_
            refine lv_topi (fun x_35 ex_35 => ?_)
            have rx_35 : rgI (0) (4) x_35 := by rw [ex_35]; exact rg_w (rg_rem r_3 rl_5 (by decide) (by decide)) (by decide) (by decide)
            refine lv_i2l hx hb dX12_laws_47 rfl ?_
            refine lv_topl (fun u_36 eu_36 => ?_)
            obtain ⟨_, ⟨rfl, t_38, hk_39⟩, o_c_37⟩ := hH h0 _ k_h0
            refine va_callv (va_runV (As := [.long u_36]) (rest := []) ⟨hx, hb, hml, hown, hts⟩ (c_X12_tell l g Ty G_18 H.size h0 u_36 k_h0 (by rw [u_27]; exact rg_w rx_19 (by decide) (by decide))) (cwV 1 hts (gwV mw_1510 mw_1512 mw_48 mw_88 mw_1513) rfl rfl rfl hv_X12_tell ⟨Nat.le_of_ble_eq_true rfl, Nat.le_of_ble_eq_true rfl⟩) ⟨PcT_blind, hg_recv hK o_c_37 rfl, PcT_pre hK hH⟩ rfl rfl hl.1 rfl (lv_room (Nat.le_of_ble_eq_true rfl)) dX12_laws_48 ⟨Nat.zero_le _, Nat.zero_le _⟩) hS (fun q _ h => AF.mono hS.1 h) (fun q h => AF.mono hS.1 h) (fun ux_40 t H locs ht hvm hx_40 hB hz hk hS => ?_)
            obtain ⟨eTx_40, eGx_40⟩ := hx_40
            obtain ⟨G_41, eG_41⟩ : ∃ z, z = ux_40.2 := ⟨_, rfl⟩
            rw [← eG_41] at eGx_40
            obtain ⟨x_42, ex_42⟩ : ∃ z : Int32, z = x_19 + 1 := ⟨_, rfl⟩
            have e_43 : G_41 = gset G_18 104 x_42 := by rw [ex_42, ← u_27]; exact eGx_40
            have rx_42 : rgI (2) (2) x_42 := by rw [ex_42]; exact rg_w (rg_add rx_19 rl_1 (by decide) (by decide)) (by decide) (by decide)
            have fr_44 : FR [104, 105] [] [] G G_41 := FR.n fr_21 e_43 (by decide)
            have u_45 : G_41.1 102 = (G.1 102) := by rw [e_43]; exact (gs_ne (by decide)).trans u_22
            have u_46 : G_41.1 113 = (G.1 113) := by rw [e_43]; exact (gs_ne (by decide)).trans u_23
            have u_47 : G_41.1 122 = (G.1 122) := by rw [e_43]; exact (gs_ne (by decide)).trans u_24
            have u_48 : G_41.1 133 = (G.1 133) := by rw [e_43]; exact (gs_ne (by decide)).trans u_25
            have u_49 : G_41.1 137 = (G.1 137) := by rw [e_43]; exact (gs_ne (by decide)).trans u_26
            have u_50 : G_41.1 104 = x_42 := by rw [e_43]; exact gs_eq
            have w_51 : G_41.2.1 (g.2.2 100) = (G.2.1 (g.2.2 100)) := by rw [e_43]; exact w_28
            have w_52 : G_41.2.1 (g.2.2 121) = (G.2.1 (g.2.2 121)) := by rw [e_43]; exact w_29
            have w_53 : G_41.2.1 (g.2.2 140) = (G.2.1 (g.2.2 140)) := by rw [e_43]; exact w_30
            have w_54 : G_41.2.1 (g.2.2 141) = (G.2.1 (g.2.2 141)) := by rw [e_43]; exact w_31
            have w_55 : G_41.2.1 (g.2.2 111) = (G.2.1 (g.2.2 111)) := by rw [e_43]; exact w_32
            have u_56 : G_41.2.2 111 = some (g.2.2 111) := by rw [e_43]; exact u_33
            have u_57 : G_41.2.2 112 = some (g.2.2 112) := by rw [e_43]; exact u_34
            have hH : HT g Ty G_41 H := by rw [← ht, ← eTx_40, eG_41]; exact hB
            obtain ⟨x_58, ex_58⟩ : ∃ y : Int32, y = y1_14 + 1 := ⟨_, rfl⟩
            have rx_58 : rgI (1) (1) x_58 := by rw [ex_58]; exact rg_w (rg_add r_13 rl_1 (by decide) (by decide)) (by decide) (by decide)
            have qx_58 : x_58.toInt = (y1_14 : Int32).toInt + 1 := by rw [ex_58]; exact rg_addE r_13 rl_1 (by decide) (by decide)
            refine lv_iinc (v := x_58) (lv' := [(1, .int x_58), (0, .ref h0), (2, .int y2_14)]) hx hb dX12_laws_51 hl (k := 1) rfl (by rw [ex_58]; rfl) (by decide) rfl (fun ls hl => ?_)
            obtain ⟨x_59, ex_59⟩ : ∃ y : Int32, y = y2_14 + 1 := ⟨_, rfl⟩
            have rx_59 : rgI (1) (35) x_59 := by rw [ex_59]; exact rg_w (rg_add r_3 rl_1 (by decide) (by decide)) (by decide) (by decide)
            have qx_59 : x_59.toInt = (y2_14 : Int32).toInt + 1 := by rw [ex_59]; exact rg_addE r_3 rl_1 (by decide) (by decide)
            refine lv_iinc (v := x_59) (lv' := [(2, .int x_59), (1, .int x_58), (0, .ref h0)]) hx hb dX12_laws_54 hl (k := 2) rfl (by rw [ex_59]; rfl) (by decide) rfl (fun ls hl => ?_)
            refine lv_goto (tgt := 14) hx hb dX12_laws_57 (by decide) ?_
            exact ih_14 H locs G_41 x_58 x_59 ls (by rw [u_50]; exact rg_w rx_42 (by decide) (by decide)) fr_44 (rg_w rx_59 (by decide) (by decide)) (cn_s hi0_14 ex_58 qx_59 r_3) (Or.inl (cn_n hi0_14 ex_58 r_3)) (by have h1 := qx_59; have h2 := r_3.1; have h3 := r_3.2; have h4 := hm_14; omega) (lv_sub hl [2, 1, 0] rfl) hH hS
        · have r_60 : rgI (0) (0) x_7 := rg_w (rg_eq rl_0 c_8) (by decide) (by decide)
          refine lv_goto (tgt := 54) hx hb dX12_laws_28 (by decide) ?_
          obtain ⟨x_61, ex_61⟩ : ∃ y : Int32, y = y2_14 + 1 := ⟨_, rfl⟩
          have rx_61 : rgI (1) (35) x_61 := by rw [ex_61]; exact rg_w (rg_add r_3 rl_1 (by decide) (by decide)) (by decide) (by decide)
          have qx_61 : x_61.toInt = (y2_14 : Int32).toInt + 1 := by rw [ex_61]; exact rg_addE r_3 rl_1 (by decide) (by decide)
          refine lv_iinc (v := x_61) (lv' := [(2, .int x_61), (0, .ref h0), (1, .int y1_14)]) hx hb dX12_laws_54 hl (k := 2) rfl (by rw [ex_61]; rfl) (by decide) rfl (fun ls hl => ?_)
          refine lv_goto (tgt := 14) hx hb dX12_laws_57 (by decide) ?_
          exact ih_14 H locs G_14 y1_14 x_61 ls (rg_w rg104_14 (by decide) (by decide)) fr_14 (rg_w rx_61 (by decide) (by decide)) ⟨hi0_14.1, by have q := qx_61; have q2 := hi0_14.2; omega⟩ hi1_14 (by have h1 := qx_61; have h2 := r_3.1; have h3 := r_3.2; have h4 := hm_14; omega) (lv_sub hl [1, 2, 0] rfl) hH hS
  refine lv_aload_n hx hb dX12_laws_0 rfl (lv_at hl 0 rfl) ?_
  refine lv_iconst (v := 0) hx hb dX12_laws_1 (by decide) ?_
  obtain ⟨_, ⟨rfl, t_63, hk_64⟩, o_c_62⟩ := hH h0 _ k_h0
  refine hg_put (ty := .int) hx hb hG igX12 tyX12 tyX12_ok nmX12 hown hK hS o_c_62 (AF.of k_h0) rfl 5 (by decide) (hG _ mw_1289) rfl (by decide +kernel) rfl rfl (Nat.le_of_ble_eq_true rfl) dX12_laws_2 (fun H locs o_c_62 hz oq hS => ?_)
  obtain ⟨G_65, eG_65⟩ : ∃ z : Gh, z = gset G 105 0 := ⟨_, rfl⟩
  have hH : HT g Ty G_65 H := by rw [eG_65]; exact HT.putN 105 0 hH k_h0 ⟨rfl, t_63, hk_64⟩ o_c_62 oq (Or.inr (Or.inr (Or.inr (Or.inr (Or.inr ⟨by decide, t_63⟩)))))
  have fr_66 : FR [104, 105] [] [] G G_65 := FR.n FR.rf eG_65 (by decide)
  have u_67 : G_65.1 102 = (G.1 102) := by rw [eG_65]; exact (gs_ne (by decide))
  have u_68 : G_65.1 104 = (G.1 104) := by rw [eG_65]; exact (gs_ne (by decide))
  have u_69 : G_65.1 113 = (G.1 113) := by rw [eG_65]; exact (gs_ne (by decide))
  have u_70 : G_65.1 122 = (G.1 122) := by rw [eG_65]; exact (gs_ne (by decide))
  have u_71 : G_65.1 133 = (G.1 133) := by rw [eG_65]; exact (gs_ne (by decide))
  have u_72 : G_65.1 137 = (G.1 137) := by rw [eG_65]; exact (gs_ne (by decide))
  have u_73 : G_65.1 105 = 0 := by rw [eG_65]; exact gs_eq
  have w_74 : G_65.2.1 (g.2.2 100) = (G.2.1 (g.2.2 100)) := by rw [eG_65]; exact rfl
  have w_75 : G_65.2.1 (g.2.2 121) = (G.2.1 (g.2.2 121)) := by rw [eG_65]; exact rfl
  have w_76 : G_65.2.1 (g.2.2 140) = (G.2.1 (g.2.2 140)) := by rw [eG_65]; exact rfl
  have w_77 : G_65.2.1 (g.2.2 141) = (G.2.1 (g.2.2 141)) := by rw [eG_65]; exact rfl
  have w_78 : G_65.2.1 (g.2.2 111) = (G.2.1 (g.2.2 111)) := by rw [eG_65]; exact rfl
  have u_79 : G_65.2.2 111 = some (g.2.2 111) := by rw [eG_65]; exact hI.r111
  have u_80 : G_65.2.2 112 = some (g.2.2 112) := by rw [eG_65]; exact hI.r112
  clear oq hz
  refine lv_iconst (v := 0) hx hb dX12_laws_5 (by decide) ?_
  refine lv_istore_n (lv' := [(1, .int 0), (0, .ref h0)]) hx hb dX12_laws_6 rfl hl (by decide) rfl (fun ls hl => ?_)
  refine lv_aload_n hx hb dX12_laws_7 rfl (lv_at hl 1 rfl) ?_
  refine lv_iconst (v := 0) hx hb dX12_laws_8 (by decide) ?_
  obtain ⟨_, ⟨rfl, t_82, hk_83⟩, o_c_81⟩ := hH h0 _ k_h0
  refine hg_put (ty := .int) hx hb hG igX12 tyX12 tyX12_ok nmX12 hown hK hS o_c_81 (AF.of k_h0) rfl 4 (by decide) (hG _ mw_1288) rfl (by decide +kernel) rfl rfl (Nat.le_of_ble_eq_true rfl) dX12_laws_9 (fun H locs o_c_81 hz oq hS => ?_)
  obtain ⟨G_84, eG_84⟩ : ∃ z : Gh, z = gset G_65 104 0 := ⟨_, rfl⟩
  have hH : HT g Ty G_84 H := by rw [eG_84]; exact HT.putN 104 0 hH k_h0 ⟨rfl, t_82, hk_83⟩ o_c_81 oq (Or.inr (Or.inr (Or.inr (Or.inr (Or.inr ⟨by decide, t_82⟩)))))
  have fr_85 : FR [104, 105] [] [] G G_84 := FR.n fr_66 eG_84 (by decide)
  have u_86 : G_84.1 102 = (G.1 102) := by rw [eG_84]; exact (gs_ne (by decide)).trans u_67
  have u_87 : G_84.1 113 = (G.1 113) := by rw [eG_84]; exact (gs_ne (by decide)).trans u_69
  have u_88 : G_84.1 122 = (G.1 122) := by rw [eG_84]; exact (gs_ne (by decide)).trans u_70
  have u_89 : G_84.1 133 = (G.1 133) := by rw [eG_84]; exact (gs_ne (by decide)).trans u_71
  have u_90 : G_84.1 137 = (G.1 137) := by rw [eG_84]; exact (gs_ne (by decide)).trans u_72
  have u_91 : G_84.1 105 = 0 := by rw [eG_84]; exact (gs_ne (by decide)).trans u_73
  have u_92 : G_84.1 104 = 0 := by rw [eG_84]; exact gs_eq
  have w_93 : G_84.2.1 (g.2.2 100) = (G.2.1 (g.2.2 100)) := by rw [eG_84]; exact w_74
  have w_94 : G_84.2.1 (g.2.2 121) = (G.2.1 (g.2.2 121)) := by rw [eG_84]; exact w_75
  have w_95 : G_84.2.1 (g.2.2 140) = (G.2.1 (g.2.2 140)) := by rw [eG_84]; exact w_76
  have w_96 : G_84.2.1 (g.2.2 141) = (G.2.1 (g.2.2 141)) := by rw [eG_84]; exact w_77
  have w_97 : G_84.2.1 (g.2.2 111) = (G.2.1 (g.2.2 111)) := by rw [eG_84]; exact w_78
  have u_98 : G_84.2.2 111 = some (g.2.2 111) := by rw [eG_84]; exact u_79
  have u_99 : G_84.2.2 112 = some (g.2.2 112) := by rw [eG_84]; exact u_80
  clear oq hz
  refine lv_iconst (v := 0) hx hb dX12_laws_12 (by decide) ?_
  refine lv_istore_n (lv' := [(2, .int 0), (1, .int 0), (0, .ref h0)]) hx hb dX12_laws_13 rfl hl (by decide) rfl (fun ls hl => ?_)
  exact L_14 _ H locs G_84 0 0 ls (by rw [u_92]; exact rg_w rl_0 (by decide) (by decide)) fr_85 (rg_w rl_0 (by decide) (by decide)) ⟨by decide, by decide⟩ (Or.inr u_92) (Nat.lt_succ_self _) (lv_sub hl [2, 1, 0] rfl) hH hS

set_option maxHeartbeats 4000000 in
set_option maxRecDepth 100000 in
theorem c_X12_looks (l : Launch) (g : Gx) (Ty : TyM) (G : Gh) (sz : Nat) (h0 : Nat) (k_h0 : Ty h0 = some (22, 0)) (Bd : Int) (hI : OI g Bd G) (hBd : Bd ≤ 1900000) (hLD : LD g) : Met l yX12_looks (wsG yX12_looks cX12_looks 8 (some .int)) ({ frames := 2, cells := 0, slots := 0, locals := 44 }) (PcT g Ty G sz [.ref h0]) (QwI g Ty sz (fun r u => u.1 = Ty ∧ FR [104, 105] [] [] G u.2 ∧ OI g (Bd + 1000) u.2)) 0 0 (AF Ty sz) := by
  refine Met.ofW (cc := cX12_looks) (maxL := 8) (ret := (some .int)) (by decide) rfl ?_
  intro p e s m args below meth c s₁ B hml hv
  obtain ⟨rfl, hsz, hK, hH⟩ := hv
  subst hsz
  have hx := B.exec
  have hb := B.bytes
  have hr := B.returns
  have hts := atoms_spec (ws := (wsG yX12_looks cX12_looks 8 (some .int))) B.pre
  have hG : ∀ w ∈ GW, w.before ([.ref h0] : List Value).toArray s = true := fun w h => hts w (List.mem_cons_of_mem _ h)
  have hown : s.vm.findClass RX12 = some m.cls := findClass_of_methodNamed B.named
  have hlocks := B.notSynchronized
  have hl := lv_entry [.ref h0] (n := 8) (Nat.le_of_ble_eq_true rfl)
  rw [lg_entry_eq]
  generalize (lg_sl [.ref h0] ++ List.replicate (8 - (lg_sl [.ref h0]).length) Slot.unset).toArray = ls at hl ⊢
  have hl : lv_has ls 8 [(0, .ref h0)] := hl
  have hmk : mdK g Ty := mdk_of hH k_h0
  have hS : va_S (AF Ty s.heap.size) s.heap s.heap [] := va_S.rf
  obtain ⟨⟨σ0, hTS0⟩, h10, hBB0⟩ := id hI.ti
  obtain ⟨ρ, hT⟩ := hTS0.1
  have L_13 : ∀ (n : Nat) (H : Heap) (locs : List Loc) (G_13 : Gh) (y1_13 : Int32) (y2_13 : Int32) (y3_13 : Int32) (ls : Array Slot), rgI (0) (32) (G_13.1 104) → FR [104, 105] [] [] G G_13 → rgI (-1) (2147483647) y1_13 → rgI (0) (10) y3_13 → (10 - (y3_13).toInt).toNat < n → lv_has ls 8 [(0, .ref h0), (1, .int y1_13), (2, .int y2_13), (3, .int y3_13)] → HT g Ty G_13 H → va_S (AF Ty s.heap.size) s.heap H locs → Wm p l e (wsG yX12_looks cX12_looks 8 (some .int)) ({ frames := 2, cells := 0, slots := 0, locals := 44 }) s m [.ref h0] below meth c H locs (0) (0) (QwI g Ty s.heap.size (fun r u => u.1 = Ty ∧ FR [104, 105] [] [] G u.2 ∧ OI g (Bd + 1000) u.2)) 0 0 (AF Ty s.heap.size) (F0 m 13 ls []) := by
    intro n
    induction n with
    | zero => intro H locs G_13 y1_13 y2_13 y3_13 ls rg104_13 fr_13 ry1_13 ry3_13 hm; exact absurd hm (Nat.not_lt_zero _)
    | succ n ih_13 =>
      intro H locs G_13 y1_13 y2_13 y3_13 ls rg104_13 fr_13 ry1_13 ry3_13 hm_13 hl hH hS
      have L_22 : ∀ (n : Nat) (H : Heap) (locs : List Loc) (G_22 : Gh) (y1_22 : Int32) (y2_22 : Int32) (y4_22 : Int32) (ls : Array Slot), rgI (0) (32) (G_22.1 104) → FR [104, 105] [] [] G G_22 → rgI (-1) (2147483647) y1_22 → rgI (0) (9) y3_13 → rgI (0) (5) y4_22 → (5 - (y4_22).toInt).toNat < n → lv_has ls 8 [(0, .ref h0), (1, .int y1_22), (2, .int y2_22), (3, .int y3_13), (4, .int y4_22)] → HT g Ty G_22 H → va_S (AF Ty s.heap.size) s.heap H locs → Wm p l e (wsG yX12_looks cX12_looks 8 (some .int)) ({ frames := 2, cells := 0, slots := 0, locals := 44 }) s m [.ref h0] below meth c H locs (0) (0) (QwI g Ty s.heap.size (fun r u => u.1 = Ty ∧ FR [104, 105] [] [] G u.2 ∧ OI g (Bd + 1000) u.2)) 0 0 (AF Ty s.heap.size) (F0 m 22 ls []) := by
        intro n
        induction n with
        | zero => intro H locs G_22 y1_22 y2_22 y4_22 ls rg104_22 fr_22 ry1_22 ry3_22 ry4_22 hm; exact absurd hm (Nat.not_lt_zero _)
        | succ n ih_22 =>
          intro H locs G_22 y1_22 y2_22 y4_22 ls rg104_22 fr_22 ry1_22 ry3_22 ry4_22 hm_22 hl hH hS
          have L_37 : ∀ (n : Nat) (H : Heap) (locs : List Loc) (G_37 : Gh) (y1_37 : Int32) (y2_37 : Int32) (y5_37 : Int32) (y6_37 : Int32) (y7_37 : Int32) (ls : Array Slot), rgI (0) (32) (G_37.1 104) → FR [104, 105] [] [] G G_37 → rgI (-1) (2147483647) y1_37 → rgI (0) (9) y3_13 → rgI (0) (4) y4_22 → rgI (0) (35) y7_37 → (35 - (y7_37).toInt).toNat < n → lv_has ls 8 [(0, .ref h0), (1, .int y1_37), (2, .int y2_37), (3, .int y3_13), (4, .int y4_22), (5, .int y5_37), (6, .int y6_37), (7, .int y7_37)] → HT g Ty G_37 H → va_S (AF Ty s.heap.size) s.heap H locs → Wm p l e (wsG yX12_looks cX12_looks 8 (some .int)) ({ frames := 2, cells := 0, slots := 0, locals := 44 }) s m [.ref h0] below meth c H locs (0) (0) (QwI g Ty s.heap.size (fun r u => u.1 = Ty ∧ FR [104, 105] [] [] G u.2 ∧ OI g (Bd + 1000) u.2)) 0 0 (AF Ty s.heap.size) (F0 m 37 ls []) := by
            intro n
            induction n with
            | zero => intro H locs G_37 y1_37 y2_37 y5_37 y6_37 y7_37 ls rg104_37 fr_37 ry1_37 ry3_37 ry4_37 ry7_37 hm; exact absurd hm (Nat.not_lt_zero _)
            | succ n ih_37 =>
              intro H locs G_37 y1_37 y2_37 y5_37 y6_37 y7_37 ls rg104_37 fr_37 ry1_37 ry3_37 ry4_37 ry7_37 hm_37 hl hH hS
              refine lv_iload hx hb dX12_looks_37 (lv_at hl 7 rfl) ?_
              refine lv_bipush (v := 35) hx hb dX12_looks_39 (by decide) ?_
              refine lv_icmp_ge (tgt := 82) hx hb dX12_looks_41 (by decide) (fun c_1 => ?_) (fun c_1 => ?_)
              · have r_2 : rgI (35) (35) y7_37 := rg_w (rg_leR rl_35 ry7_37 c_1) (by decide) (by decide)
                refine lv_iload hx hb dX12_looks_82 (lv_at hl 5 rfl) ?_
                refine lv_iload hx hb dX12_looks_84 (lv_at hl 6 rfl) ?_
                refine va_mmax hx hb (by rw [hml]; exact hl.1.symm) hown (hG _ mw_1741) (hG _ mw_473) (hG _ mw_91) (hG _ mw_474) (Nat.le_of_ble_eq_true rfl) (Nat.le_of_ble_eq_true rfl) (Nat.le_of_ble_eq_true rfl) (Nat.le_of_ble_eq_true rfl) dX12_looks_86 ?_
                refine lv_topi (fun x_3 ex_3 => ?_)
                refine lv_iload_n hx hb dX12_looks_89 rfl (lv_at hl 2 rfl) ?_
                refine lv_icmp_lt (tgt := 96) hx hb dX12_looks_90 (by decide) (fun c_4 => ?_) (fun c_4 => ?_)
                · have r_5 : rgI (-2147483648) (2147483646) x_3 := rg_w (rg_ltL (rg_top x_3) (rg_top y2_37) c_4) (by decide) (by decide)
                  have r_6 : rgI (-2147483647) (2147483647) y2_37 := rg_w (rg_ltR (rg_top x_3) (rg_top y2_37) c_4) (by decide) (by decide)
                  refine lv_bipush (v := 10) hx hb dX12_looks_96 (by decide) ?_
                  refine lv_iload_n hx hb dX12_looks_98 rfl (lv_at hl 3 rfl) ?_
                  refine lv_imul hx hb dX12_looks_99 ?_
                  refine lv_topi (fun x_7 ex_7 => ?_)
                  have rx_7 : rgI (0) (90) x_7 := by rw [ex_7]; exact rg_w (rg_mul rl_10 ry3_37 (by decide) (by decide) (by decide)) (by decide) (by decide)
                  refine lv_iload hx hb dX12_looks_100 (lv_at hl 4 rfl) ?_
                  refine lv_iadd hx hb dX12_looks_102 ?_
                  refine lv_topi (fun x_8 ex_8 => ?_)
                  have rx_8 : rgI (0) (94) x_8 := by rw [ex_8]; exact rg_w (rg_add rx_7 ry4_37 (by decide) (by decide)) (by decide) (by decide)
                  refine lv_istore_n (lv' := [(1, .int x_8), (0, .ref h0), (2, .int y2_37), (3, .int y3_13), (4, .int y4_22), (5, .int y5_37), (6, .int y6_37), (7, .int y7_37)]) hx hb dX12_looks_103 rfl hl (by decide) rfl (fun ls hl => ?_)
                  refine lv_iload hx hb dX12_looks_104 (lv_at hl 5 rfl) ?_
                  refine lv_iload hx hb dX12_looks_106 (lv_at hl 6 rfl) ?_
                  refine va_mmax hx hb (by rw [hml]; exact hl.1.symm) hown (hG _ mw_1741) (hG _ mw_473) (hG _ mw_91) (hG _ mw_474) (Nat.le_of_ble_eq_true rfl) (Nat.le_of_ble_eq_true rfl) (Nat.le_of_ble_eq_true rfl) (Nat.le_of_ble_eq_true rfl) dX12_looks_108 ?_
                  refine lv_topi (fun x_9 ex_9 => ?_)
                  refine lv_istore_n (lv' := [(2, .int x_9), (1, .int x_8), (0, .ref h0), (3, .int y3_13), (4, .int y4_22), (5, .int y5_37), (6, .int y6_37), (7, .int y7_37)]) hx hb dX12_looks_111 rfl hl (by decide) rfl (fun ls hl => ?_)
                  obtain ⟨x_10, ex_10⟩ : ∃ y : Int32, y = y4_22 + 1 := ⟨_, rfl⟩
                  have rx_10 : rgI (1) (5) x_10 := by rw [ex_10]; exact rg_w (rg_add ry4_37 rl_1 (by decide) (by decide)) (by decide) (by decide)
                  have qx_10 : x_10.toInt = (y4_22 : Int32).toInt + 1 := by rw [ex_10]; exact rg_addE ry4_37 rl_1 (by decide) (by decide)
                  refine lv_iinc (v := x_10) (lv' := [(4, .int x_10), (2, .int x_9), (1, .int x_8), (0, .ref h0), (3, .int y3_13), (5, .int y5_37), (6, .int y6_37), (7, .int y7_37)]) hx hb dX12_looks_112 hl (k := 4) rfl (by rw [ex_10]; rfl) (by decide) rfl (fun ls hl => ?_)
                  refine lv_goto (tgt := 22) hx hb dX12_looks_115 (by decide) ?_
                  exact ih_22 H locs G_37 x_8 x_9 x_10 ls (rg_w rg104_37 (by decide) (by decide)) fr_37 (rg_w rx_8 (by decide) (by decide)) ry3_37 (rg_w rx_10 (by decide) (by decide)) (by have h1 := qx_10; have h2 := ry4_37.1; have h3 := ry4_37.2; have h4 := hm_22; omega) (lv_sub hl [3, 2, 1, 4, 0] rfl) hH hS
                · refine lv_goto (tgt := 112) hx hb dX12_looks_93 (by decide) ?_
                  obtain ⟨x_11, ex_11⟩ : ∃ y : Int32, y = y4_22 + 1 := ⟨_, rfl⟩
                  have rx_11 : rgI (1) (5) x_11 := by rw [ex_11]; exact rg_w (rg_add ry4_37 rl_1 (by decide) (by decide)) (by decide) (by decide)
                  have qx_11 : x_11.toInt = (y4_22 : Int32).toInt + 1 := by rw [ex_11]; exact rg_addE ry4_37 rl_1 (by decide) (by decide)
                  refine lv_iinc (v := x_11) (lv' := [(4, .int x_11), (0, .ref h0), (1, .int y1_37), (2, .int y2_37), (3, .int y3_13), (5, .int y5_37), (6, .int y6_37), (7, .int y7_37)]) hx hb dX12_looks_112 hl (k := 4) rfl (by rw [ex_11]; rfl) (by decide) rfl (fun ls hl => ?_)
                  refine lv_goto (tgt := 22) hx hb dX12_looks_115 (by decide) ?_
                  exact ih_22 H locs G_37 y1_37 y2_37 x_11 ls (rg_w rg104_37 (by decide) (by decide)) fr_37 ry1_37 ry3_37 (rg_w rx_11 (by decide) (by decide)) (by have h1 := qx_11; have h2 := ry4_37.1; have h3 := ry4_37.2; have h4 := hm_22; omega) (lv_sub hl [1, 2, 3, 4, 0] rfl) hH hS
              · have r_12 : rgI (0) (34) y7_37 := rg_w (rg_ltL ry7_37 rl_35 (nle_lt c_1)) (by decide) (by decide)
                refine lv_aload_n hx hb dX12_looks_44 rfl (lv_at hl 0 rfl) ?_
                refine lv_iload hx hb dX12_looks_45 (lv_at hl 7 rfl) ?_
                obtain ⟨_, ⟨rfl, t_14, hk_15⟩, o_c_13⟩ := hH h0 _ k_h0
                refine vp_callSi (W.runV (As := [.int y7_37]) (rest := []) ⟨hx, hb, hml, hown, hts⟩ (c_X12_isLaw l g Ty G_37 h0 y7_37 k_h0 Bd ⟨(by rw [(fr_37.1 102 (by decide))]; exact (rg_w hI.a102 (by decide) (by decide))), (rg_w rg104_37 (by decide) (by decide)), (by rw [(fr_37.1 113 (by decide))]; exact (rg_w hI.a113 (by decide) (by decide))), (by rw [(fr_37.1 122 (by decide))]; exact (rg_w hI.a122 (by decide) (by decide))), (by rw [(fr_37.1 133 (by decide))]; exact (rg_w hI.a133 (by decide) (by decide))), (by rw [(fr_37.1 137 (by decide))]; exact (rg_w hI.a137 (by decide) (by decide))), ((fr_37.2.2 111 (by decide)).trans hI.r111), ((fr_37.2.2 112 (by decide)).trans hI.r112), (by rw [(fr_37.2.1 (g.2.2 100) trivial)]; exact (hI.ti.hi (show Bd ≤ Bd by omega))), (hI.un2 (show Bd ≤ Bd by omega) (fr_37.2.1 (g.2.2 121) trivial) (fr_37.1 122 (by decide))), (hI.ke2 (show Bd ≤ Bd by omega) (fr_37.2.1 (g.2.2 140) trivial) (fr_37.2.1 (g.2.2 141) trivial))⟩ hBd hLD) (cwV 1 hts (gwV mw_1810 mw_1812 mw_71 mw_88 mw_1813) rfl rfl rfl hv_X12_isLaw ⟨Nat.le_of_ble_eq_true rfl, Nat.le_of_ble_eq_true rfl⟩) ⟨PcH_blind, hg_recv hK o_c_13 rfl, PcH_pre hK hH⟩ rfl rfl hl.1 rfl (lv_room (Nat.le_of_ble_eq_true rfl)) dX12_looks_47 ⟨Nat.zero_le _, Nat.zero_le _⟩) (fun x_16 hx_16 => ?_)
                have rx_16 : rgI (0) (1) x_16 := hx_16
                refine lv_if_ne (tgt := 56) hx hb dX12_looks_50 (by decide) (fun c_17 => ?_) (fun c_17 => ?_)
                · have r_18 : rgI (1) (1) x_16 := rg_w (rg_neL rx_16 rl_0 c_17) (by decide) (by decide)
                  refine lv_iload hx hb dX12_looks_56 (lv_at hl 7 rfl) ?_
                  refine lv_iload_n hx hb dX12_looks_58 rfl (lv_at hl 3 rfl) ?_
                  refine lv_iload hx hb dX12_looks_59 (lv_at hl 4 rfl) ?_
                  refine vp_callSi (W.runS (As := [.int y7_37, .int y3_13, .int y4_22]) (rest := []) ⟨hx, hb, hml, hown, hts⟩ (c_X12_comesBy l g Ty G_37 y7_37 y3_13 y4_22 ) (cwSx 3 hts hG (gwC mw_1816) mw_88 mw_1814 mw_1815 rfl rfl rfl hd_X12_comesBy ⟨Nat.le_of_ble_eq_true rfl, Nat.le_of_ble_eq_true rfl⟩) ⟨PcH_blind, PcH_pre hK hH⟩ rfl rfl hl.1 rfl (lv_room (Nat.le_of_ble_eq_true rfl)) dX12_looks_61 ⟨Nat.zero_le _, Nat.zero_le _⟩) (fun x_19 hx_19 => ?_)
                  have rx_19 : rgI (0) (1) x_19 := hx_19.1
                  refine lv_if_eq (tgt := 73) hx hb dX12_looks_64 (by decide) (fun c_20 => ?_) (fun c_20 => ?_)
                  · have r_21 : rgI (0) (0) x_19 := rg_w (rg_eq rl_0 c_20) (by decide) (by decide)
                    obtain ⟨x_22, ex_22⟩ : ∃ y : Int32, y = y6_37 + 1 := ⟨_, rfl⟩
                    refine lv_iinc (v := x_22) (lv' := [(6, .int x_22), (0, .ref h0), (1, .int y1_37), (2, .int y2_37), (3, .int y3_13), (4, .int y4_22), (5, .int y5_37), (7, .int y7_37)]) hx hb dX12_looks_73 hl (k := 6) rfl (by rw [ex_22]; rfl) (by decide) rfl (fun ls hl => ?_)
                    obtain ⟨x_23, ex_23⟩ : ∃ y : Int32, y = y7_37 + 1 := ⟨_, rfl⟩
                    have rx_23 : rgI (1) (35) x_23 := by rw [ex_23]; exact rg_w (rg_add r_12 rl_1 (by decide) (by decide)) (by decide) (by decide)
                    have qx_23 : x_23.toInt = (y7_37 : Int32).toInt + 1 := by rw [ex_23]; exact rg_addE r_12 rl_1 (by decide) (by decide)
                    refine lv_iinc (v := x_23) (lv' := [(7, .int x_23), (6, .int x_22), (0, .ref h0), (1, .int y1_37), (2, .int y2_37), (3, .int y3_13), (4, .int y4_22), (5, .int y5_37)]) hx hb dX12_looks_76 hl (k := 7) rfl (by rw [ex_23]; rfl) (by decide) rfl (fun ls hl => ?_)
                    refine lv_goto (tgt := 37) hx hb dX12_looks_79 (by decide) ?_
                    exact ih_37 H locs G_37 y1_37 y2_37 y5_37 x_22 x_23 ls (rg_w rg104_37 (by decide) (by decide)) fr_37 ry1_37 ry3_37 ry4_37 (rg_w rx_23 (by decide) (by decide)) (by have h1 := qx_23; have h2 := r_12.1; have h3 := r_12.2; have h4 := hm_37; omega) (lv_sub hl [2, 3, 4, 5, 6, 7, 1, 0] rfl) hH hS
                  · have r_24 : rgI (1) (1) x_19 := rg_w (rg_neL rx_19 rl_0 c_20) (by decide) (by decide)
                    obtain ⟨x_25, ex_25⟩ : ∃ y : Int32, y = y5_37 + 1 := ⟨_, rfl⟩
                    refine lv_iinc (v := x_25) (lv' := [(5, .int x_25), (0, .ref h0), (1, .int y1_37), (2, .int y2_37), (3, .int y3_13), (4, .int y4_22), (6, .int y6_37), (7, .int y7_37)]) hx hb dX12_looks_67 hl (k := 5) rfl (by rw [ex_25]; rfl) (by decide) rfl (fun ls hl => ?_)
                    refine lv_goto (tgt := 76) hx hb dX12_looks_70 (by decide) ?_
                    obtain ⟨x_26, ex_26⟩ : ∃ y : Int32, y = y7_37 + 1 := ⟨_, rfl⟩
                    have rx_26 : rgI (1) (35) x_26 := by rw [ex_26]; exact rg_w (rg_add r_12 rl_1 (by decide) (by decide)) (by decide) (by decide)
                    have qx_26 : x_26.toInt = (y7_37 : Int32).toInt + 1 := by rw [ex_26]; exact rg_addE r_12 rl_1 (by decide) (by decide)
                    refine lv_iinc (v := x_26) (lv' := [(7, .int x_26), (5, .int x_25), (0, .ref h0), (1, .int y1_37), (2, .int y2_37), (3, .int y3_13), (4, .int y4_22), (6, .int y6_37)]) hx hb dX12_looks_76 hl (k := 7) rfl (by rw [ex_26]; rfl) (by decide) rfl (fun ls hl => ?_)
                    refine lv_goto (tgt := 37) hx hb dX12_looks_79 (by decide) ?_
                    exact ih_37 H locs G_37 y1_37 y2_37 x_25 y6_37 x_26 ls (rg_w rg104_37 (by decide) (by decide)) fr_37 ry1_37 ry3_37 ry4_37 (rg_w rx_26 (by decide) (by decide)) (by have h1 := qx_26; have h2 := r_12.1; have h3 := r_12.2; have h4 := hm_37; omega) (lv_sub hl [2, 3, 4, 5, 6, 1, 7, 0] rfl) hH hS
                · have r_27 : rgI (0) (0) x_16 := rg_w (rg_eq rl_0 c_17) (by decide) (by decide)
                  refine lv_goto (tgt := 76) hx hb dX12_looks_53 (by decide) ?_
                  obtain ⟨x_28, ex_28⟩ : ∃ y : Int32, y = y7_37 + 1 := ⟨_, rfl⟩
                  have rx_28 : rgI (1) (35) x_28 := by rw [ex_28]; exact rg_w (rg_add r_12 rl_1 (by decide) (by decide)) (by decide) (by decide)
                  have qx_28 : x_28.toInt = (y7_37 : Int32).toInt + 1 := by rw [ex_28]; exact rg_addE r_12 rl_1 (by decide) (by decide)
                  refine lv_iinc (v := x_28) (lv' := [(7, .int x_28), (0, .ref h0), (1, .int y1_37), (2, .int y2_37), (3, .int y3_13), (4, .int y4_22), (5, .int y5_37), (6, .int y6_37)]) hx hb dX12_looks_76 hl (k := 7) rfl (by rw [ex_28]; rfl) (by decide) rfl (fun ls hl => ?_)
                  refine lv_goto (tgt := 37) hx hb dX12_looks_79 (by decide) ?_
                  exact ih_37 H locs G_37 y1_37 y2_37 y5_37 y6_37 x_28 ls (rg_w rg104_37 (by decide) (by decide)) fr_37 ry1_37 ry3_37 ry4_37 (rg_w rx_28 (by decide) (by decide)) (by have h1 := qx_28; have h2 := r_12.1; have h3 := r_12.2; have h4 := hm_37; omega) (lv_sub hl [1, 2, 3, 4, 5, 6, 7, 0] rfl) hH hS
          refine lv_iload hx hb dX12_looks_22 (lv_at hl 4 rfl) ?_
          refine lv_iconst (v := 4) hx hb dX12_looks_24 (by decide) ?_
          refine lv_icmp_gt (tgt := 118) hx hb dX12_looks_25 (by decide) (fun c_29 => ?_) (fun c_29 => ?_)
          · have r_30 : rgI (5) (5) y4_22 := rg_w (rg_ltR rl_4 ry4_22 c_29) (by decide) (by decide)
            obtain ⟨x_31, ex_31⟩ : ∃ y : Int32, y = y3_13 + 1 := ⟨_, rfl⟩
            have rx_31 : rgI (1) (10) x_31 := by rw [ex_31]; exact rg_w (rg_add ry3_22 rl_1 (by decide) (by decide)) (by decide) (by decide)
            have qx_31 : x_31.toInt = (y3_13 : Int32).toInt + 1 := by rw [ex_31]; exact rg_addE ry3_22 rl_1 (by decide) (by decide)
            refine lv_iinc (v := x_31) (lv' := [(3, .int x_31), (0, .ref h0), (1, .int y1_22), (2, .int y2_22), (4, .int y4_22)]) hx hb dX12_looks_118 hl (k := 3) rfl (by rw [ex_31]; rfl) (by decide) rfl (fun ls hl => ?_)
            refine lv_goto (tgt := 13) hx hb dX12_looks_121 (by decide) ?_
            exact ih_13 H locs G_22 y1_22 y2_22 x_31 ls (rg_w rg104_22 (by decide) (by decide)) fr_22 ry1_22 (rg_w rx_31 (by decide) (by decide)) (by have h1 := qx_31; have h2 := ry3_22.1; have h3 := ry3_22.2; have h4 := hm_13; omega) (lv_sub hl [1, 2, 3, 0] rfl) hH hS
          · have r_32 : rgI (0) (4) y4_22 := rg_w (rg_leL ry4_22 rl_4 (nlt_le c_29)) (by decide) (by decide)
            refine lv_iconst (v := 0) hx hb dX12_looks_28 (by decide) ?_
            refine lv_istore (lv' := [(5, .int 0), (0, .ref h0), (1, .int y1_22), (2, .int y2_22), (3, .int y3_13), (4, .int y4_22)]) hx hb dX12_looks_29 hl (by decide) rfl (fun ls hl => ?_)
            refine lv_iconst (v := 0) hx hb dX12_looks_31 (by decide) ?_
            refine lv_istore (lv' := [(6, .int 0), (5, .int 0), (0, .ref h0), (1, .int y1_22), (2, .int y2_22), (3, .int y3_13), (4, .int y4_22)]) hx hb dX12_looks_32 hl (by decide) rfl (fun ls hl => ?_)
            refine lv_iconst (v := 0) hx hb dX12_looks_34 (by decide) ?_
            refine lv_istore (lv' := [(7, .int 0), (6, .int 0), (5, .int 0), (0, .ref h0), (1, .int y1_22), (2, .int y2_22), (3, .int y3_13), (4, .int y4_22)]) hx hb dX12_looks_35 hl (by decide) rfl (fun ls hl => ?_)
            exact L_37 _ H locs G_22 y1_22 y2_22 0 0 0 ls (rg_w rg104_22 (by decide) (by decide)) fr_22 ry1_22 ry3_22 r_32 (rg_w rl_0 (by decide) (by decide)) (Nat.lt_succ_self _) (lv_sub hl [3, 4, 5, 6, 7, 2, 1, 0] rfl) hH hS
      refine lv_iload_n hx hb dX12_looks_13 rfl (lv_at hl 3 rfl) ?_
      refine lv_bipush (v := 9) hx hb dX12_looks_14 (by decide) ?_
      refine lv_icmp_gt (tgt := 124) hx hb dX12_looks_16 (by decide) (fun c_33 => ?_) (fun c_33 => ?_)
      · have r_34 : rgI (10) (10) y3_13 := rg_w (rg_ltR rl_9 ry3_13 c_33) (by decide) (by decide)
        refine lv_iload_n hx hb dX12_looks_124 rfl (lv_at hl 2 rfl) ?_
        refine lv_if_ne (tgt := 131) hx hb dX12_looks_125 (by decide) (fun c_35 => ?_) (fun c_35 => ?_)
        · refine lv_aload_n hx hb dX12_looks_131 rfl (lv_at hl 0 rfl) ?_
          refine lv_iconst (v := 0) hx hb dX12_looks_132 (by decide) ?_
          obtain ⟨_, ⟨rfl, t_37, hk_38⟩, o_c_36⟩ := hH h0 _ k_h0
          refine hg_put (ty := .int) hx hb hG igX12 tyX12 tyX12_ok nmX12 hown hK hS o_c_36 (AF.of k_h0) rfl 4 (by decide) (hG _ mw_1288) rfl (by decide +kernel) rfl rfl (Nat.le_of_ble_eq_true rfl) dX12_looks_133 (fun H locs o_c_36 hz oq hS => ?_)
          obtain ⟨G_39, eG_39⟩ : ∃ z : Gh, z = gset G_13 104 0 := ⟨_, rfl⟩
          have hH : HT g Ty G_39 H := by rw [eG_39]; exact HT.putN 104 0 hH k_h0 ⟨rfl, t_37, hk_38⟩ o_c_36 oq (Or.inr (Or.inr (Or.inr (Or.inr (Or.inr ⟨by decide, t_37⟩)))))
          have fr_40 : FR [104, 105] [] [] G G_39 := FR.n fr_13 eG_39 (by decide)
          have u_41 : G_39.1 102 = (G.1 102) := by rw [eG_39]; exact (gs_ne (by decide)).trans (fr_13.1 102 (by decide))
          have u_42 : G_39.1 113 = (G.1 113) := by rw [eG_39]; exact (gs_ne (by decide)).trans (fr_13.1 113 (by decide))
          have u_43 : G_39.1 122 = (G.1 122) := by rw [eG_39]; exact (gs_ne (by decide)).trans (fr_13.1 122 (by decide))
          have u_44 : G_39.1 133 = (G.1 133) := by rw [eG_39]; exact (gs_ne (by decide)).trans (fr_13.1 133 (by decide))
          have u_45 : G_39.1 137 = (G.1 137) := by rw [eG_39]; exact (gs_ne (by decide)).trans (fr_13.1 137 (by decide))
          have u_46 : G_39.1 104 = 0 := by rw [eG_39]; exact gs_eq
          have w_47 : G_39.2.1 (g.2.2 100) = (G.2.1 (g.2.2 100)) := by rw [eG_39]; exact (fr_13.2.1 (g.2.2 100) trivial)
          have w_48 : G_39.2.1 (g.2.2 121) = (G.2.1 (g.2.2 121)) := by rw [eG_39]; exact (fr_13.2.1 (g.2.2 121) trivial)
          have w_49 : G_39.2.1 (g.2.2 140) = (G.2.1 (g.2.2 140)) := by rw [eG_39]; exact (fr_13.2.1 (g.2.2 140) trivial)
          have w_50 : G_39.2.1 (g.2.2 141) = (G.2.1 (g.2.2 141)) := by rw [eG_39]; exact (fr_13.2.1 (g.2.2 141) trivial)
          have w_51 : G_39.2.1 (g.2.2 111) = (G.2.1 (g.2.2 111)) := by rw [eG_39]; exact (fr_13.2.1 (g.2.2 111) trivial)
          have u_52 : G_39.2.2 111 = some (g.2.2 111) := by rw [eG_39]; exact ((fr_13.2.2 111 (by decide)).trans hI.r111)
          have u_53 : G_39.2.2 112 = some (g.2.2 112) := by rw [eG_39]; exact ((fr_13.2.2 112 (by decide)).trans hI.r112)
          clear oq hz
          refine lv_aload_n hx hb dX12_looks_136 rfl (lv_at hl 0 rfl) ?_
          refine lv_iload_n hx hb dX12_looks_137 rfl (lv_at hl 2 rfl) ?_
          refine lv_i2l hx hb dX12_looks_138 rfl ?_
          refine lv_topl (fun u_54 eu_54 => ?_)
          obtain ⟨_, ⟨rfl, t_56, hk_57⟩, o_c_55⟩ := hH h0 _ k_h0
          refine va_callv (va_runV (As := [.long u_54]) (rest := []) ⟨hx, hb, hml, hown, hts⟩ (c_X12_tell l g Ty G_39 H.size h0 u_54 k_h0 (by rw [u_46]; exact rg_w rl_0 (by decide) (by decide))) (cwV 1 hts (gwV mw_1510 mw_1512 mw_48 mw_88 mw_1513) rfl rfl rfl hv_X12_tell ⟨Nat.le_of_ble_eq_true rfl, Nat.le_of_ble_eq_true rfl⟩) ⟨PcT_blind, hg_recv hK o_c_55 rfl, PcT_pre hK hH⟩ rfl rfl hl.1 rfl (lv_room (Nat.le_of_ble_eq_true rfl)) dX12_looks_139 ⟨Nat.zero_le _, Nat.zero_le _⟩) hS (fun q _ h => AF.mono hS.1 h) (fun q h => AF.mono hS.1 h) (fun ux_58 t H locs ht hvm hx_58 hB hz hk hS => ?_)
          obtain ⟨eTx_58, eGx_58⟩ := hx_58
          obtain ⟨G_59, eG_59⟩ : ∃ z, z = ux_58.2 := ⟨_, rfl⟩
          rw [← eG_59] at eGx_58
          obtain ⟨x_60, ex_60⟩ : ∃ z : Int32, z = 0 + 1 := ⟨_, rfl⟩
          have e_61 : G_59 = gset G_39 104 x_60 := by rw [ex_60, ← u_46]; exact eGx_58
          have rx_60 : rgI (1) (1) x_60 := by rw [ex_60]; exact rg_w (rg_add rl_0 rl_1 (by decide) (by decide)) (by decide) (by decide)
          have fr_62 : FR [104, 105] [] [] G G_59 := FR.n fr_40 e_61 (by decide)
          have u_63 : G_59.1 102 = (G.1 102) := by rw [e_61]; exact (gs_ne (by decide)).trans u_41
          have u_64 : G_59.1 113 = (G.1 113) := by rw [e_61]; exact (gs_ne (by decide)).trans u_42
          have u_65 : G_59.1 122 = (G.1 122) := by rw [e_61]; exact (gs_ne (by decide)).trans u_43
          have u_66 : G_59.1 133 = (G.1 133) := by rw [e_61]; exact (gs_ne (by decide)).trans u_44
          have u_67 : G_59.1 137 = (G.1 137) := by rw [e_61]; exact (gs_ne (by decide)).trans u_45
          have u_68 : G_59.1 104 = x_60 := by rw [e_61]; exact gs_eq
          have w_69 : G_59.2.1 (g.2.2 100) = (G.2.1 (g.2.2 100)) := by rw [e_61]; exact w_47
          have w_70 : G_59.2.1 (g.2.2 121) = (G.2.1 (g.2.2 121)) := by rw [e_61]; exact w_48
          have w_71 : G_59.2.1 (g.2.2 140) = (G.2.1 (g.2.2 140)) := by rw [e_61]; exact w_49
          have w_72 : G_59.2.1 (g.2.2 141) = (G.2.1 (g.2.2 141)) := by rw [e_61]; exact w_50
          have w_73 : G_59.2.1 (g.2.2 111) = (G.2.1 (g.2.2 111)) := by rw [e_61]; exact w_51
          have u_74 : G_59.2.2 111 = some (g.2.2 111) := by rw [e_61]; exact u_52
          have u_75 : G_59.2.2 112 = some (g.2.2 112) := by rw [e_61]; exact u_53
          have hH : HT g Ty G_59 H := by rw [← ht, ← eTx_58, eG_59]; exact hB
          refine lv_iload_n hx hb dX12_looks_142 rfl (lv_at hl 1 rfl) ?_
          exact W.iret hx hb hr (fun t ht hWm => ⟨⟨y1_13, (Ty, G_59), rfl, ⟨rfl, ⟨fr_62, ⟨(by rw [u_63]; exact (rg_w hI.a102 (by decide) (by decide))), (by rw [u_68]; exact (rg_w rx_60 (by decide) (by decide))), (by rw [u_64]; exact (rg_w hI.a113 (by decide) (by decide))), (by rw [u_65]; exact (rg_w hI.a122 (by decide) (by decide))), (by rw [u_66]; exact (rg_w hI.a133 (by decide) (by decide))), (by rw [u_67]; exact (rg_w hI.a137 (by decide) (by decide))), u_74, u_75, (by rw [w_69]; exact (hI.ti.hi (show Bd ≤ Bd + 1000 by omega))), (hI.un2 (show Bd ≤ Bd + 1000 by omega) w_70 u_65), (hI.ke2 (show Bd ≤ Bd + 1000 by omega) w_71 w_72)⟩⟩⟩, by show HT g Ty G_59 t.heap; rw [ht]; exact hH⟩, hS.F ht⟩) hS.2.2 dX12_looks_143
        · have r_76 : rgI (0) (0) y2_13 := rg_w (rg_eq rl_0 c_35) (by decide) (by decide)
          refine lv_bipush (v := (-2)) hx hb dX12_looks_128 (by decide) ?_
          exact W.iret hx hb hr (fun t ht hWm => ⟨⟨(-2), (Ty, G_13), rfl, ⟨rfl, ⟨fr_13, ⟨(by rw [(fr_13.1 102 (by decide))]; exact (rg_w hI.a102 (by decide) (by decide))), (rg_w rg104_13 (by decide) (by decide)), (by rw [(fr_13.1 113 (by decide))]; exact (rg_w hI.a113 (by decide) (by decide))), (by rw [(fr_13.1 122 (by decide))]; exact (rg_w hI.a122 (by decide) (by decide))), (by rw [(fr_13.1 133 (by decide))]; exact (rg_w hI.a133 (by decide) (by decide))), (by rw [(fr_13.1 137 (by decide))]; exact (rg_w hI.a137 (by decide) (by decide))), ((fr_13.2.2 111 (by decide)).trans hI.r111), ((fr_13.2.2 112 (by decide)).trans hI.r112), (by rw [(fr_13.2.1 (g.2.2 100) trivial)]; exact (hI.ti.hi (show Bd ≤ Bd + 1000 by omega))), (hI.un2 (show Bd ≤ Bd + 1000 by omega) (fr_13.2.1 (g.2.2 121) trivial) (fr_13.1 122 (by decide))), (hI.ke2 (show Bd ≤ Bd + 1000 by omega) (fr_13.2.1 (g.2.2 140) trivial) (fr_13.2.1 (g.2.2 141) trivial))⟩⟩⟩, by show HT g Ty G_13 t.heap; rw [ht]; exact hH⟩, hS.F ht⟩) hS.2.2 dX12_looks_130
      · have r_77 : rgI (0) (9) y3_13 := rg_w (rg_leL ry3_13 rl_9 (nlt_le c_33)) (by decide) (by decide)
        refine lv_iconst (v := 0) hx hb dX12_looks_19 (by decide) ?_
        refine lv_istore (lv' := [(4, .int 0), (0, .ref h0), (1, .int y1_13), (2, .int y2_13), (3, .int y3_13)]) hx hb dX12_looks_20 hl (by decide) rfl (fun ls hl => ?_)
        exact L_22 _ H locs G_13 y1_13 y2_13 0 ls (rg_w rg104_13 (by decide) (by decide)) fr_13 ry1_13 r_77 (rg_w rl_0 (by decide) (by decide)) (Nat.lt_succ_self _) (lv_sub hl [1, 2, 3, 4, 0] rfl) hH hS
  refine lv_aload_n hx hb dX12_looks_0 rfl (lv_at hl 0 rfl) ?_
  refine lv_iconst (v := 0) hx hb dX12_looks_1 (by decide) ?_
  obtain ⟨_, ⟨rfl, t_79, hk_80⟩, o_c_78⟩ := hH h0 _ k_h0
  refine hg_put (ty := .int) hx hb hG igX12 tyX12 tyX12_ok nmX12 hown hK hS o_c_78 (AF.of k_h0) rfl 5 (by decide) (hG _ mw_1289) rfl (by decide +kernel) rfl rfl (Nat.le_of_ble_eq_true rfl) dX12_looks_2 (fun H locs o_c_78 hz oq hS => ?_)
  obtain ⟨G_81, eG_81⟩ : ∃ z : Gh, z = gset G 105 0 := ⟨_, rfl⟩
  have hH : HT g Ty G_81 H := by rw [eG_81]; exact HT.putN 105 0 hH k_h0 ⟨rfl, t_79, hk_80⟩ o_c_78 oq (Or.inr (Or.inr (Or.inr (Or.inr (Or.inr ⟨by decide, t_79⟩)))))
  have fr_82 : FR [104, 105] [] [] G G_81 := FR.n FR.rf eG_81 (by decide)
  have u_83 : G_81.1 102 = (G.1 102) := by rw [eG_81]; exact (gs_ne (by decide))
  have u_84 : G_81.1 104 = (G.1 104) := by rw [eG_81]; exact (gs_ne (by decide))
  have u_85 : G_81.1 113 = (G.1 113) := by rw [eG_81]; exact (gs_ne (by decide))
  have u_86 : G_81.1 122 = (G.1 122) := by rw [eG_81]; exact (gs_ne (by decide))
  have u_87 : G_81.1 133 = (G.1 133) := by rw [eG_81]; exact (gs_ne (by decide))
  have u_88 : G_81.1 137 = (G.1 137) := by rw [eG_81]; exact (gs_ne (by decide))
  have u_89 : G_81.1 105 = 0 := by rw [eG_81]; exact gs_eq
  have w_90 : G_81.2.1 (g.2.2 100) = (G.2.1 (g.2.2 100)) := by rw [eG_81]; exact rfl
  have w_91 : G_81.2.1 (g.2.2 121) = (G.2.1 (g.2.2 121)) := by rw [eG_81]; exact rfl
  have w_92 : G_81.2.1 (g.2.2 140) = (G.2.1 (g.2.2 140)) := by rw [eG_81]; exact rfl
  have w_93 : G_81.2.1 (g.2.2 141) = (G.2.1 (g.2.2 141)) := by rw [eG_81]; exact rfl
  have w_94 : G_81.2.1 (g.2.2 111) = (G.2.1 (g.2.2 111)) := by rw [eG_81]; exact rfl
  have u_95 : G_81.2.2 111 = some (g.2.2 111) := by rw [eG_81]; exact hI.r111
  have u_96 : G_81.2.2 112 = some (g.2.2 112) := by rw [eG_81]; exact hI.r112
  clear oq hz
  refine lv_iconst (v := (-1)) hx hb dX12_looks_5 (by decide) ?_
  refine lv_istore_n (lv' := [(1, .int (-1)), (0, .ref h0)]) hx hb dX12_looks_6 rfl hl (by decide) rfl (fun ls hl => ?_)
  refine lv_ldcw (v := 1000000) hx hb hown (hG _ mw_1797) dX12_looks_7 ?_
  refine lv_istore_n (lv' := [(2, .int 1000000), (1, .int (-1)), (0, .ref h0)]) hx hb dX12_looks_10 rfl hl (by decide) rfl (fun ls hl => ?_)
  refine lv_iconst (v := 0) hx hb dX12_looks_11 (by decide) ?_
  refine lv_istore_n (lv' := [(3, .int 0), (2, .int 1000000), (1, .int (-1)), (0, .ref h0)]) hx hb dX12_looks_12 rfl hl (by decide) rfl (fun ls hl => ?_)
  exact L_13 _ H locs G_81 (-1) 1000000 0 ls (by rw [u_84]; exact rg_w hI.a104 (by decide) (by decide)) fr_82 (rg_w rl_m1 (by decide) (by decide)) (rg_w rl_0 (by decide) (by decide)) (Nat.lt_succ_self _) (lv_sub hl [3, 2, 1, 0] rfl) hH hS

set_option maxHeartbeats 4000000 in
set_option maxRecDepth 100000 in
theorem c_X12_bitsOf (l : Launch) (g : Gx) (Ty : TyM) (G : Gh) (h0 : Nat) (a0 : Int32) (k_h0 : Ty h0 = some (22, 0)) (pr0 : rgI (48) (96) a0) (Bd : Int) (hI : OI g Bd G) (hBd : Bd ≤ 1900000) (hLD : LD g) : Met l yX12_bitsOf (wsG yX12_bitsOf cX12_bitsOf 4 (some .int)) ({ frames := 2, cells := 0, slots := 0, locals := 43 }) (PcH g Ty G [.ref h0, .int a0]) (vp_Si (fun r => True)) 0 0 (fun _ => False) := by
  refine Met.ofW (cc := cX12_bitsOf) (maxL := 4) (ret := (some .int)) (by decide) rfl ?_
  intro p e s m args below meth c s₁ B hml hv
  obtain ⟨rfl, hK, hH⟩ := hv
  have hx := B.exec
  have hb := B.bytes
  have hr := B.returns
  have hts := atoms_spec (ws := (wsG yX12_bitsOf cX12_bitsOf 4 (some .int))) B.pre
  have hG : ∀ w ∈ GW, w.before ([.ref h0, .int a0] : List Value).toArray s = true := fun w h => hts w (List.mem_cons_of_mem _ h)
  have hown : s.vm.findClass RX12 = some m.cls := findClass_of_methodNamed B.named
  have hlocks := B.notSynchronized
  have hl := lv_entry [.ref h0, .int a0] (n := 4) (Nat.le_of_ble_eq_true rfl)
  rw [lg_entry_eq]
  generalize (lg_sl [.ref h0, .int a0] ++ List.replicate (4 - (lg_sl [.ref h0, .int a0]).length) Slot.unset).toArray = ls at hl ⊢
  have hl : lv_has ls 4 [(0, .ref h0), (1, .int a0)] := hl
  have hmk : mdK g Ty := mdk_of hH k_h0
  obtain ⟨⟨σ0, hTS0⟩, h10, hBB0⟩ := id hI.ti
  obtain ⟨ρ, hT⟩ := hTS0.1
  have L_4 : ∀ (n : Nat) (y2_4 : Int32) (y3_4 : Int32) (ls : Array Slot), rgI (48) (96) a0 → rgI (0) (24) y3_4 → (24 - (y3_4).toInt).toNat < n → lv_has ls 4 [(0, .ref h0), (1, .int a0), (2, .int y2_4), (3, .int y3_4)] → Wm p l e (wsG yX12_bitsOf cX12_bitsOf 4 (some .int)) ({ frames := 2, cells := 0, slots := 0, locals := 43 }) s m [.ref h0, .int a0] below meth c s.heap [] (0) (0) (vp_Si (fun r => True)) 0 0 (fun _ => False) (F0 m 4 ls []) := by
    intro n
    induction n with
    | zero => intro y2_4 y3_4 ls ry1_4 ry3_4 hm; exact absurd hm (Nat.not_lt_zero _)
    | succ n ih_4 =>
      intro y2_4 y3_4 ls ry1_4 ry3_4 hm_4 hl
      refine lv_iload_n hx hb dX12_bitsOf_4 rfl (lv_at hl 3 rfl) ?_
      refine lv_bipush (v := 24) hx hb dX12_bitsOf_5 (by decide) ?_
      refine lv_icmp_ge (tgt := 48) hx hb dX12_bitsOf_7 (by decide) (fun c_1 => ?_) (fun c_1 => ?_)
      · have r_2 : rgI (24) (24) y3_4 := rg_w (rg_leR rl_24 ry3_4 c_1) (by decide) (by decide)
        refine lv_iload_n hx hb dX12_bitsOf_48 rfl (lv_at hl 2 rfl) ?_
        exact W.iret hx hb hr (fun t ht hW => ⟨y2_4, rfl, trivial, ht⟩) (fun q h => by cases h) dX12_bitsOf_49
      · have r_3 : rgI (0) (23) y3_4 := rg_w (rg_ltL ry3_4 rl_24 (nle_lt c_1)) (by decide) (by decide)
        refine lv_iload_n hx hb dX12_bitsOf_10 rfl (lv_at hl 2 rfl) ?_
        refine lv_aload_n hx hb dX12_bitsOf_11 rfl (lv_at hl 0 rfl) ?_
        obtain ⟨_, ⟨rfl, t_5, hk_6⟩, o_c_4⟩ := hH h0 _ k_h0
        refine hg_get hx hb hG igX12 hown hK o_c_4 rfl 0 (by decide) (hG _ mw_1284) rfl dX12_bitsOf_12 ?_
        refine lv_iload_n hx hb dX12_bitsOf_15 rfl (lv_at hl 3 rfl) ?_
        refine vp_callSi (W.runS (As := [.ref (g.2.2 100), .int y3_4]) (rest := [.int y2_4]) ⟨hx, hb, hml, hown, hts⟩ (c_X12_isThere l g Ty G (g.2.2 100) y3_4 (hk_6.1)) (cwSx 2 hts hG (gwC mw_1520) mw_88 mw_1518 mw_1519 rfl rfl rfl hd_X12_isThere ⟨Nat.le_of_ble_eq_true rfl, Nat.le_of_ble_eq_true rfl⟩) ⟨PcH_blind, PcH_pre hK hH⟩ rfl rfl hl.1 rfl (lv_room (Nat.le_of_ble_eq_true rfl)) dX12_bitsOf_16 ⟨Nat.zero_le _, Nat.zero_le _⟩) (fun x_7 hx_7 => ?_)
        have rx_7 : rgI (0) (1) x_7 := hx_7.1
        refine lv_if_eq (tgt := 39) hx hb dX12_bitsOf_19 (by decide) (fun c_8 => ?_) (fun c_8 => ?_)
        · have r_9 : rgI (0) (0) x_7 := rg_w (rg_eq rl_0 c_8) (by decide) (by decide)
          refine lv_iconst (v := 0) hx hb dX12_bitsOf_39 (by decide) ?_
          refine lv_ior hx hb dX12_bitsOf_40 ?_
          refine lv_topi (fun x_10 ex_10 => ?_)
          refine lv_istore_n (lv' := [(2, .int x_10), (0, .ref h0), (1, .int a0), (3, .int y3_4)]) hx hb dX12_bitsOf_41 rfl hl (by decide) rfl (fun ls hl => ?_)
          obtain ⟨x_11, ex_11⟩ : ∃ y : Int32, y = y3_4 + 1 := ⟨_, rfl⟩
          have rx_11 : rgI (1) (24) x_11 := by rw [ex_11]; exact rg_w (rg_add r_3 rl_1 (by decide) (by decide)) (by decide) (by decide)
          have qx_11 : x_11.toInt = (y3_4 : Int32).toInt + 1 := by rw [ex_11]; exact rg_addE r_3 rl_1 (by decide) (by decide)
          refine lv_iinc (v := x_11) (lv' := [(3, .int x_11), (2, .int x_10), (0, .ref h0), (1, .int a0)]) hx hb dX12_bitsOf_42 hl (k := 3) rfl (by rw [ex_11]; rfl) (by decide) rfl (fun ls hl => ?_)
          refine lv_goto (tgt := 4) hx hb dX12_bitsOf_45 (by decide) ?_
          exact ih_4 x_10 x_11 ls ry1_4 (rg_w rx_11 (by decide) (by decide)) (by have h1 := qx_11; have h2 := r_3.1; have h3 := r_3.2; have h4 := hm_4; omega) (lv_sub hl [2, 3, 1, 0] rfl)
        · have th_12 : thr (G.2.1 (g.2.2 100)) y3_4 := F_isThere_thr (by rw [← hx_7.2.2]; exact c_8)
          have r_13 : rgI (1) (1) x_7 := rg_w (rg_neL rx_7 rl_0 c_8) (by decide) (by decide)
          refine lv_aload_n hx hb dX12_bitsOf_22 rfl (lv_at hl 0 rfl) ?_
          refine hg_get hx hb hG igX12 hown hK o_c_4 rfl 0 (by decide) (hG _ mw_1284) rfl dX12_bitsOf_23 ?_
          refine lv_iload_n hx hb dX12_bitsOf_26 rfl (lv_at hl 1 rfl) ?_
          refine lv_iload_n hx hb dX12_bitsOf_27 rfl (lv_at hl 3 rfl) ?_
          refine lv_iadd hx hb dX12_bitsOf_28 ?_
          refine lv_topi (fun x_14 ex_14 => ?_)
          have rx_14 : rgI (48) (119) x_14 := by rw [ex_14]; exact rg_w (rg_add ry1_4 r_3 (by decide) (by decide)) (by decide) (by decide)
          obtain ⟨_, rfl, o_c_15⟩ := hH (g.2.2 100) _ hk_6.1
          have o_c_15 : va_at g.1 vwCl ((g.2.2 100), .inl (g.2.1 1, 122, .inl (G.2.1 (g.2.2 100)))) s.heap := o_c_15
          refine hg_iald hx hb hK o_c_15 (rg_in (n := 122) rx_14 (by decide) (by decide)) dX12_bitsOf_29 ?_
          refine lv_topi (fun x_16 ex_16 => ?_)
          refine lv_if_eq (tgt := 39) hx hb dX12_bitsOf_30 (by decide) (fun c_17 => ?_) (fun c_17 => ?_)
          · have r_18 : rgI (0) (0) x_16 := rg_w (rg_eq rl_0 c_17) (by decide) (by decide)
            refine lv_iconst (v := 0) hx hb dX12_bitsOf_39 (by decide) ?_
            refine lv_ior hx hb dX12_bitsOf_40 ?_
            refine lv_topi (fun x_19 ex_19 => ?_)
            refine lv_istore_n (lv' := [(2, .int x_19), (0, .ref h0), (1, .int a0), (3, .int y3_4)]) hx hb dX12_bitsOf_41 rfl hl (by decide) rfl (fun ls hl => ?_)
            obtain ⟨x_20, ex_20⟩ : ∃ y : Int32, y = y3_4 + 1 := ⟨_, rfl⟩
            have rx_20 : rgI (1) (24) x_20 := by rw [ex_20]; exact rg_w (rg_add r_3 rl_1 (by decide) (by decide)) (by decide) (by decide)
            have qx_20 : x_20.toInt = (y3_4 : Int32).toInt + 1 := by rw [ex_20]; exact rg_addE r_3 rl_1 (by decide) (by decide)
            refine lv_iinc (v := x_20) (lv' := [(3, .int x_20), (2, .int x_19), (0, .ref h0), (1, .int a0)]) hx hb dX12_bitsOf_42 hl (k := 3) rfl (by rw [ex_20]; rfl) (by decide) rfl (fun ls hl => ?_)
            refine lv_goto (tgt := 4) hx hb dX12_bitsOf_45 (by decide) ?_
            exact ih_4 x_19 x_20 ls ry1_4 (rg_w rx_20 (by decide) (by decide)) (by have h1 := qx_20; have h2 := r_3.1; have h3 := r_3.2; have h4 := hm_4; omega) (lv_sub hl [2, 3, 1, 0] rfl)
          · refine lv_iconst (v := 1) hx hb dX12_bitsOf_33 (by decide) ?_
            refine lv_iload_n hx hb dX12_bitsOf_34 rfl (lv_at hl 3 rfl) ?_
            refine lv_ishl hx hb dX12_bitsOf_35 ?_
            refine lv_topi (fun x_21 ex_21 => ?_)
            refine lv_goto (tgt := 40) hx hb dX12_bitsOf_36 (by decide) ?_
            refine lv_ior hx hb dX12_bitsOf_40 ?_
            refine lv_topi (fun x_22 ex_22 => ?_)
            refine lv_istore_n (lv' := [(2, .int x_22), (0, .ref h0), (1, .int a0), (3, .int y3_4)]) hx hb dX12_bitsOf_41 rfl hl (by decide) rfl (fun ls hl => ?_)
            obtain ⟨x_23, ex_23⟩ : ∃ y : Int32, y = y3_4 + 1 := ⟨_, rfl⟩
            have rx_23 : rgI (1) (24) x_23 := by rw [ex_23]; exact rg_w (rg_add r_3 rl_1 (by decide) (by decide)) (by decide) (by decide)
            have qx_23 : x_23.toInt = (y3_4 : Int32).toInt + 1 := by rw [ex_23]; exact rg_addE r_3 rl_1 (by decide) (by decide)
            refine lv_iinc (v := x_23) (lv' := [(3, .int x_23), (2, .int x_22), (0, .ref h0), (1, .int a0)]) hx hb dX12_bitsOf_42 hl (k := 3) rfl (by rw [ex_23]; rfl) (by decide) rfl (fun ls hl => ?_)
            refine lv_goto (tgt := 4) hx hb dX12_bitsOf_45 (by decide) ?_
            exact ih_4 x_22 x_23 ls ry1_4 (rg_w rx_23 (by decide) (by decide)) (by have h1 := qx_23; have h2 := r_3.1; have h3 := r_3.2; have h4 := hm_4; omega) (lv_sub hl [2, 3, 1, 0] rfl)
  refine lv_iconst (v := 0) hx hb dX12_bitsOf_0 (by decide) ?_
  refine lv_istore_n (lv' := [(2, .int 0), (0, .ref h0), (1, .int a0)]) hx hb dX12_bitsOf_1 rfl hl (by decide) rfl (fun ls hl => ?_)
  refine lv_iconst (v := 0) hx hb dX12_bitsOf_2 (by decide) ?_
  refine lv_istore_n (lv' := [(3, .int 0), (2, .int 0), (0, .ref h0), (1, .int a0)]) hx hb dX12_bitsOf_3 rfl hl (by decide) rfl (fun ls hl => ?_)
  exact L_4 _ 0 0 ls pr0 (rg_w rl_0 (by decide) (by decide)) (Nat.lt_succ_self _) (lv_sub hl [2, 3, 1, 0] rfl)

set_option maxHeartbeats 4000000 in
set_option maxRecDepth 100000 in
theorem c_X12_count (l : Launch) (g : Gx) (Ty : TyM) (G : Gh) (sz : Nat) (h0 : Nat) (a0 : Int32) (k_h0 : Ty h0 = some (22, 0)) (Bd : Int) (hI : OI g Bd G) (hBd : Bd ≤ 1900000) (hLD : LD g) : Met l yX12_count (wsG yX12_count cX12_count 2 (some .int)) ({ frames := 3, cells := 0, slots := 0, locals := 66 }) (PcT g Ty G sz [.ref h0, .int a0]) (QwI g Ty sz (fun r u => u.1 = Ty ∧ FR [105] [] [] G u.2 ∧ OI g (Bd + 1000) u.2)) 0 0 (AF Ty sz) := by
  refine Met.ofW (cc := cX12_count) (maxL := 2) (ret := (some .int)) (by decide) rfl ?_
  intro p e s m args below meth c s₁ B hml hv
  obtain ⟨rfl, hsz, hK, hH⟩ := hv
  subst hsz
  have hx := B.exec
  have hb := B.bytes
  have hr := B.returns
  have hts := atoms_spec (ws := (wsG yX12_count cX12_count 2 (some .int))) B.pre
  have hG : ∀ w ∈ GW, w.before ([.ref h0, .int a0] : List Value).toArray s = true := fun w h => hts w (List.mem_cons_of_mem _ h)
  have hown : s.vm.findClass RX12 = some m.cls := findClass_of_methodNamed B.named
  have hlocks := B.notSynchronized
  have hl := lv_entry [.ref h0, .int a0] (n := 2) (Nat.le_of_ble_eq_true rfl)
  rw [lg_entry_eq]
  generalize (lg_sl [.ref h0, .int a0] ++ List.replicate (2 - (lg_sl [.ref h0, .int a0]).length) Slot.unset).toArray = ls at hl ⊢
  have hl : lv_has ls 2 [(0, .ref h0), (1, .int a0)] := hl
  have hmk : mdK g Ty := mdk_of hH k_h0
  have hS : va_S (AF Ty s.heap.size) s.heap s.heap [] := va_S.rf
  obtain ⟨⟨σ0, hTS0⟩, h10, hBB0⟩ := id hI.ti
  obtain ⟨ρ, hT⟩ := hTS0.1
  refine lv_aload_n hx hb dX12_count_0 rfl (lv_at hl 0 rfl) ?_
  refine lv_iconst (v := 0) hx hb dX12_count_1 (by decide) ?_
  obtain ⟨_, ⟨rfl, t_2, hk_3⟩, o_c_1⟩ := hH h0 _ k_h0
  refine hg_put (ty := .int) hx hb hG igX12 tyX12 tyX12_ok nmX12 hown hK hS o_c_1 (AF.of k_h0) rfl 5 (by decide) (hG _ mw_1289) rfl (by decide +kernel) rfl rfl (Nat.le_of_ble_eq_true rfl) dX12_count_2 (fun H locs o_c_1 hz oq hS => ?_)
  obtain ⟨G_4, eG_4⟩ : ∃ z : Gh, z = gset G 105 0 := ⟨_, rfl⟩
  have hH : HT g Ty G_4 H := by rw [eG_4]; exact HT.putN 105 0 hH k_h0 ⟨rfl, t_2, hk_3⟩ o_c_1 oq (Or.inr (Or.inr (Or.inr (Or.inr (Or.inr ⟨by decide, t_2⟩)))))
  have fr_5 : FR [105] [] [] G G_4 := FR.n FR.rf eG_4 (by decide)
  have u_6 : G_4.1 102 = (G.1 102) := by rw [eG_4]; exact (gs_ne (by decide))
  have u_7 : G_4.1 104 = (G.1 104) := by rw [eG_4]; exact (gs_ne (by decide))
  have u_8 : G_4.1 113 = (G.1 113) := by rw [eG_4]; exact (gs_ne (by decide))
  have u_9 : G_4.1 122 = (G.1 122) := by rw [eG_4]; exact (gs_ne (by decide))
  have u_10 : G_4.1 133 = (G.1 133) := by rw [eG_4]; exact (gs_ne (by decide))
  have u_11 : G_4.1 137 = (G.1 137) := by rw [eG_4]; exact (gs_ne (by decide))
  have u_12 : G_4.1 105 = 0 := by rw [eG_4]; exact gs_eq
  have w_13 : G_4.2.1 (g.2.2 100) = (G.2.1 (g.2.2 100)) := by rw [eG_4]; exact rfl
  have w_14 : G_4.2.1 (g.2.2 121) = (G.2.1 (g.2.2 121)) := by rw [eG_4]; exact rfl
  have w_15 : G_4.2.1 (g.2.2 140) = (G.2.1 (g.2.2 140)) := by rw [eG_4]; exact rfl
  have w_16 : G_4.2.1 (g.2.2 141) = (G.2.1 (g.2.2 141)) := by rw [eG_4]; exact rfl
  have w_17 : G_4.2.1 (g.2.2 111) = (G.2.1 (g.2.2 111)) := by rw [eG_4]; exact rfl
  have u_18 : G_4.2.2 111 = some (g.2.2 111) := by rw [eG_4]; exact hI.r111
  have u_19 : G_4.2.2 112 = some (g.2.2 112) := by rw [eG_4]; exact hI.r112
  clear oq hz
  refine lv_iload_n hx hb dX12_count_5 rfl (lv_at hl 1 rfl) ?_
  by_cases c_20 : a0 = 0
  · refine lv_tableIn (tgt := 64) hx hb dX12_count_6 (by rw [c_20]; decide) (by rw [c_20]; decide) (off := 58) (by rw [c_20]; rfl) (by decide) ?_
    have r_21 : rgI (0) (0) a0 := rg_w (rg_eq rl_0 c_20) (by decide) (by decide)
    refine lv_aload_n hx hb dX12_count_64 rfl (lv_at hl 0 rfl) ?_
    obtain ⟨_, ⟨rfl, t_23, hk_24⟩, o_c_22⟩ := hH h0 _ k_h0
    refine hg_get hx hb hG igX12 hown hK o_c_22 rfl 0 (by decide) (hG _ mw_1284) rfl dX12_count_65 ?_
    refine vp_callSi (W.runS (As := [.ref (g.2.2 100)]) (rest := []) ⟨hx, hb, hml, hown, hts⟩ (c_X12_thereOf l g Ty G_4 (g.2.2 100) (hk_24.1)) (cwSx 1 hts hG (gwC mw_1552) mw_88 mw_1550 mw_1551 rfl rfl rfl hd_X12_thereOf ⟨Nat.le_of_ble_eq_true rfl, Nat.le_of_ble_eq_true rfl⟩) ⟨PcH_blind, PcH_pre hK hH⟩ rfl rfl hl.1 rfl (lv_room (Nat.le_of_ble_eq_true rfl)) dX12_count_68 ⟨Nat.zero_le _, Nat.zero_le _⟩) (fun x_25 hx_25 => ?_)
    have ex_26 : x_25 = F_X12_thereOf (G.2.1 (g.2.2 100)) := by rw [← w_13]; exact hx_25
    exact W.iret hx hb hr (fun t ht hWm => ⟨⟨x_25, (Ty, G_4), rfl, ⟨rfl, ⟨fr_5, ⟨(by rw [u_6]; exact (rg_w hI.a102 (by decide) (by decide))), (by rw [u_7]; exact (rg_w hI.a104 (by decide) (by decide))), (by rw [u_8]; exact (rg_w hI.a113 (by decide) (by decide))), (by rw [u_9]; exact (rg_w hI.a122 (by decide) (by decide))), (by rw [u_10]; exact (rg_w hI.a133 (by decide) (by decide))), (by rw [u_11]; exact (rg_w hI.a137 (by decide) (by decide))), u_18, u_19, (by rw [w_13]; exact (hI.ti.hi (show Bd ≤ Bd + 1000 by omega))), (hI.un2 (show Bd ≤ Bd + 1000 by omega) w_14 u_9), (hI.ke2 (show Bd ≤ Bd + 1000 by omega) w_15 w_16)⟩⟩⟩, by show HT g Ty G_4 t.heap; rw [ht]; exact hH⟩, hS.F ht⟩) hS.2.2 dX12_count_71
  by_cases c_27 : a0 = 1
  · refine lv_tableIn (tgt := 72) hx hb dX12_count_6 (by rw [c_27]; decide) (by rw [c_27]; decide) (off := 66) (by rw [c_27]; rfl) (by decide) ?_
    have r_28 : rgI (1) (1) a0 := rg_w (rg_eq rl_1 c_27) (by decide) (by decide)
    refine lv_aload_n hx hb dX12_count_72 rfl (lv_at hl 0 rfl) ?_
    refine lv_bipush (v := 48) hx hb dX12_count_73 (by decide) ?_
    obtain ⟨_, ⟨rfl, t_30, hk_31⟩, o_c_29⟩ := hH h0 _ k_h0
    refine vp_callSi (W.runV (As := [.int 48]) (rest := []) ⟨hx, hb, hml, hown, hts⟩ (c_X12_bitsOf l g Ty G_4 h0 48 k_h0 (rg_w rl_48 (by decide) (by decide)) Bd ⟨(by rw [u_6]; exact (rg_w hI.a102 (by decide) (by decide))), (by rw [u_7]; exact (rg_w hI.a104 (by decide) (by decide))), (by rw [u_8]; exact (rg_w hI.a113 (by decide) (by decide))), (by rw [u_9]; exact (rg_w hI.a122 (by decide) (by decide))), (by rw [u_10]; exact (rg_w hI.a133 (by decide) (by decide))), (by rw [u_11]; exact (rg_w hI.a137 (by decide) (by decide))), u_18, u_19, (by rw [w_13]; exact (hI.ti.hi (show Bd ≤ Bd by omega))), (hI.un2 (show Bd ≤ Bd by omega) w_14 u_9), (hI.ke2 (show Bd ≤ Bd by omega) w_15 w_16)⟩ hBd hLD) (cwV 1 hts (gwV mw_1878 mw_1880 mw_74 mw_88 mw_1881) rfl rfl rfl hv_X12_bitsOf ⟨Nat.le_of_ble_eq_true rfl, Nat.le_of_ble_eq_true rfl⟩) ⟨PcH_blind, hg_recv hK o_c_29 rfl, PcH_pre hK hH⟩ rfl rfl hl.1 rfl (lv_room (Nat.le_of_ble_eq_true rfl)) dX12_count_75 ⟨Nat.zero_le _, Nat.zero_le _⟩) (fun x_32 hx_32 => ?_)
    exact W.iret hx hb hr (fun t ht hWm => ⟨⟨x_32, (Ty, G_4), rfl, ⟨rfl, ⟨fr_5, ⟨(by rw [u_6]; exact (rg_w hI.a102 (by decide) (by decide))), (by rw [u_7]; exact (rg_w hI.a104 (by decide) (by decide))), (by rw [u_8]; exact (rg_w hI.a113 (by decide) (by decide))), (by rw [u_9]; exact (rg_w hI.a122 (by decide) (by decide))), (by rw [u_10]; exact (rg_w hI.a133 (by decide) (by decide))), (by rw [u_11]; exact (rg_w hI.a137 (by decide) (by decide))), u_18, u_19, (by rw [w_13]; exact (hI.ti.hi (show Bd ≤ Bd + 1000 by omega))), (hI.un2 (show Bd ≤ Bd + 1000 by omega) w_14 u_9), (hI.ke2 (show Bd ≤ Bd + 1000 by omega) w_15 w_16)⟩⟩⟩, by show HT g Ty G_4 t.heap; rw [ht]; exact hH⟩, hS.F ht⟩) hS.2.2 dX12_count_78
  by_cases c_33 : a0 = 2
  · refine lv_tableIn (tgt := 79) hx hb dX12_count_6 (by rw [c_33]; decide) (by rw [c_33]; decide) (off := 73) (by rw [c_33]; rfl) (by decide) ?_
    have r_34 : rgI (2) (2) a0 := rg_w (rg_eq rl_2 c_33) (by decide) (by decide)
    refine lv_aload_n hx hb dX12_count_79 rfl (lv_at hl 0 rfl) ?_
    refine lv_bipush (v := 72) hx hb dX12_count_80 (by decide) ?_
    obtain ⟨_, ⟨rfl, t_36, hk_37⟩, o_c_35⟩ := hH h0 _ k_h0
    refine vp_callSi (W.runV (As := [.int 72]) (rest := []) ⟨hx, hb, hml, hown, hts⟩ (c_X12_bitsOf l g Ty G_4 h0 72 k_h0 (rg_w rl_72 (by decide) (by decide)) Bd ⟨(by rw [u_6]; exact (rg_w hI.a102 (by decide) (by decide))), (by rw [u_7]; exact (rg_w hI.a104 (by decide) (by decide))), (by rw [u_8]; exact (rg_w hI.a113 (by decide) (by decide))), (by rw [u_9]; exact (rg_w hI.a122 (by decide) (by decide))), (by rw [u_10]; exact (rg_w hI.a133 (by decide) (by decide))), (by rw [u_11]; exact (rg_w hI.a137 (by decide) (by decide))), u_18, u_19, (by rw [w_13]; exact (hI.ti.hi (show Bd ≤ Bd by omega))), (hI.un2 (show Bd ≤ Bd by omega) w_14 u_9), (hI.ke2 (show Bd ≤ Bd by omega) w_15 w_16)⟩ hBd hLD) (cwV 1 hts (gwV mw_1878 mw_1880 mw_74 mw_88 mw_1881) rfl rfl rfl hv_X12_bitsOf ⟨Nat.le_of_ble_eq_true rfl, Nat.le_of_ble_eq_true rfl⟩) ⟨PcH_blind, hg_recv hK o_c_35 rfl, PcH_pre hK hH⟩ rfl rfl hl.1 rfl (lv_room (Nat.le_of_ble_eq_true rfl)) dX12_count_82 ⟨Nat.zero_le _, Nat.zero_le _⟩) (fun x_38 hx_38 => ?_)
    exact W.iret hx hb hr (fun t ht hWm => ⟨⟨x_38, (Ty, G_4), rfl, ⟨rfl, ⟨fr_5, ⟨(by rw [u_6]; exact (rg_w hI.a102 (by decide) (by decide))), (by rw [u_7]; exact (rg_w hI.a104 (by decide) (by decide))), (by rw [u_8]; exact (rg_w hI.a113 (by decide) (by decide))), (by rw [u_9]; exact (rg_w hI.a122 (by decide) (by decide))), (by rw [u_10]; exact (rg_w hI.a133 (by decide) (by decide))), (by rw [u_11]; exact (rg_w hI.a137 (by decide) (by decide))), u_18, u_19, (by rw [w_13]; exact (hI.ti.hi (show Bd ≤ Bd + 1000 by omega))), (hI.un2 (show Bd ≤ Bd + 1000 by omega) w_14 u_9), (hI.ke2 (show Bd ≤ Bd + 1000 by omega) w_15 w_16)⟩⟩⟩, by show HT g Ty G_4 t.heap; rw [ht]; exact hH⟩, hS.F ht⟩) hS.2.2 dX12_count_85
  by_cases c_39 : a0 = 3
  · refine lv_tableIn (tgt := 86) hx hb dX12_count_6 (by rw [c_39]; decide) (by rw [c_39]; decide) (off := 80) (by rw [c_39]; rfl) (by decide) ?_
    have r_40 : rgI (3) (3) a0 := rg_w (rg_eq rl_3 c_39) (by decide) (by decide)
    refine lv_aload_n hx hb dX12_count_86 rfl (lv_at hl 0 rfl) ?_
    refine lv_bipush (v := 96) hx hb dX12_count_87 (by decide) ?_
    obtain ⟨_, ⟨rfl, t_42, hk_43⟩, o_c_41⟩ := hH h0 _ k_h0
    refine vp_callSi (W.runV (As := [.int 96]) (rest := []) ⟨hx, hb, hml, hown, hts⟩ (c_X12_bitsOf l g Ty G_4 h0 96 k_h0 (rg_w rl_96 (by decide) (by decide)) Bd ⟨(by rw [u_6]; exact (rg_w hI.a102 (by decide) (by decide))), (by rw [u_7]; exact (rg_w hI.a104 (by decide) (by decide))), (by rw [u_8]; exact (rg_w hI.a113 (by decide) (by decide))), (by rw [u_9]; exact (rg_w hI.a122 (by decide) (by decide))), (by rw [u_10]; exact (rg_w hI.a133 (by decide) (by decide))), (by rw [u_11]; exact (rg_w hI.a137 (by decide) (by decide))), u_18, u_19, (by rw [w_13]; exact (hI.ti.hi (show Bd ≤ Bd by omega))), (hI.un2 (show Bd ≤ Bd by omega) w_14 u_9), (hI.ke2 (show Bd ≤ Bd by omega) w_15 w_16)⟩ hBd hLD) (cwV 1 hts (gwV mw_1878 mw_1880 mw_74 mw_88 mw_1881) rfl rfl rfl hv_X12_bitsOf ⟨Nat.le_of_ble_eq_true rfl, Nat.le_of_ble_eq_true rfl⟩) ⟨PcH_blind, hg_recv hK o_c_41 rfl, PcH_pre hK hH⟩ rfl rfl hl.1 rfl (lv_room (Nat.le_of_ble_eq_true rfl)) dX12_count_89 ⟨Nat.zero_le _, Nat.zero_le _⟩) (fun x_44 hx_44 => ?_)
    exact W.iret hx hb hr (fun t ht hWm => ⟨⟨x_44, (Ty, G_4), rfl, ⟨rfl, ⟨fr_5, ⟨(by rw [u_6]; exact (rg_w hI.a102 (by decide) (by decide))), (by rw [u_7]; exact (rg_w hI.a104 (by decide) (by decide))), (by rw [u_8]; exact (rg_w hI.a113 (by decide) (by decide))), (by rw [u_9]; exact (rg_w hI.a122 (by decide) (by decide))), (by rw [u_10]; exact (rg_w hI.a133 (by decide) (by decide))), (by rw [u_11]; exact (rg_w hI.a137 (by decide) (by decide))), u_18, u_19, (by rw [w_13]; exact (hI.ti.hi (show Bd ≤ Bd + 1000 by omega))), (hI.un2 (show Bd ≤ Bd + 1000 by omega) w_14 u_9), (hI.ke2 (show Bd ≤ Bd + 1000 by omega) w_15 w_16)⟩⟩⟩, by show HT g Ty G_4 t.heap; rw [ht]; exact hH⟩, hS.F ht⟩) hS.2.2 dX12_count_92
  by_cases c_45 : a0 = 4
  · refine lv_tableIn (tgt := 93) hx hb dX12_count_6 (by rw [c_45]; decide) (by rw [c_45]; decide) (off := 87) (by rw [c_45]; rfl) (by decide) ?_
    have r_46 : rgI (4) (4) a0 := rg_w (rg_eq rl_4 c_45) (by decide) (by decide)
    refine lv_aload_n hx hb dX12_count_93 rfl (lv_at hl 0 rfl) ?_
    obtain ⟨_, ⟨rfl, t_48, hk_49⟩, o_c_47⟩ := hH h0 _ k_h0
    refine hg_get hx hb hG igX12 hown hK o_c_47 rfl 0 (by decide) (hG _ mw_1284) rfl dX12_count_94 ?_
    refine lv_bipush (v := 120) hx hb dX12_count_97 (by decide) ?_
    obtain ⟨_, rfl, o_c_50⟩ := hH (g.2.2 100) _ hk_49.1
    have o_c_50 : va_at g.1 vwCl ((g.2.2 100), .inl (g.2.1 1, 122, .inl (G_4.2.1 (g.2.2 100)))) H := o_c_50
    refine hg_iald hx hb hK o_c_50 (rg_in (n := 122) rl_120 (by decide) (by decide)) dX12_count_99 ?_
    rw [w_13]
    refine lv_topi (fun x_51 ex_51 => ?_)
    exact W.iret hx hb hr (fun t ht hWm => ⟨⟨x_51, (Ty, G_4), rfl, ⟨rfl, ⟨fr_5, ⟨(by rw [u_6]; exact (rg_w hI.a102 (by decide) (by decide))), (by rw [u_7]; exact (rg_w hI.a104 (by decide) (by decide))), (by rw [u_8]; exact (rg_w hI.a113 (by decide) (by decide))), (by rw [u_9]; exact (rg_w hI.a122 (by decide) (by decide))), (by rw [u_10]; exact (rg_w hI.a133 (by decide) (by decide))), (by rw [u_11]; exact (rg_w hI.a137 (by decide) (by decide))), u_18, u_19, (by rw [w_13]; exact (hI.ti.hi (show Bd ≤ Bd + 1000 by omega))), (hI.un2 (show Bd ≤ Bd + 1000 by omega) w_14 u_9), (hI.ke2 (show Bd ≤ Bd + 1000 by omega) w_15 w_16)⟩⟩⟩, by show HT g Ty G_4 t.heap; rw [ht]; exact hH⟩, hS.F ht⟩) hS.2.2 dX12_count_100
  by_cases c_52 : a0 = 5
  · refine lv_tableIn (tgt := 101) hx hb dX12_count_6 (by rw [c_52]; decide) (by rw [c_52]; decide) (off := 95) (by rw [c_52]; rfl) (by decide) ?_
    have r_53 : rgI (5) (5) a0 := rg_w (rg_eq rl_5 c_52) (by decide) (by decide)
    refine lv_aload_n hx hb dX12_count_101 rfl (lv_at hl 0 rfl) ?_
    obtain ⟨_, ⟨rfl, t_55, hk_56⟩, o_c_54⟩ := hH h0 _ k_h0
    refine hg_get hx hb hG igX12 hown hK o_c_54 rfl 0 (by decide) (hG _ mw_1284) rfl dX12_count_102 ?_
    refine lv_bipush (v := 121) hx hb dX12_count_105 (by decide) ?_
    obtain ⟨_, rfl, o_c_57⟩ := hH (g.2.2 100) _ hk_56.1
    have o_c_57 : va_at g.1 vwCl ((g.2.2 100), .inl (g.2.1 1, 122, .inl (G_4.2.1 (g.2.2 100)))) H := o_c_57
    refine hg_iald hx hb hK o_c_57 (rg_in (n := 122) rl_121 (by decide) (by decide)) dX12_count_107 ?_
    rw [w_13]
    refine lv_topi (fun x_58 ex_58 => ?_)
    exact W.iret hx hb hr (fun t ht hWm => ⟨⟨x_58, (Ty, G_4), rfl, ⟨rfl, ⟨fr_5, ⟨(by rw [u_6]; exact (rg_w hI.a102 (by decide) (by decide))), (by rw [u_7]; exact (rg_w hI.a104 (by decide) (by decide))), (by rw [u_8]; exact (rg_w hI.a113 (by decide) (by decide))), (by rw [u_9]; exact (rg_w hI.a122 (by decide) (by decide))), (by rw [u_10]; exact (rg_w hI.a133 (by decide) (by decide))), (by rw [u_11]; exact (rg_w hI.a137 (by decide) (by decide))), u_18, u_19, (by rw [w_13]; exact (hI.ti.hi (show Bd ≤ Bd + 1000 by omega))), (hI.un2 (show Bd ≤ Bd + 1000 by omega) w_14 u_9), (hI.ke2 (show Bd ≤ Bd + 1000 by omega) w_15 w_16)⟩⟩⟩, by show HT g Ty G_4 t.heap; rw [ht]; exact hH⟩, hS.F ht⟩) hS.2.2 dX12_count_108
  by_cases c_59 : a0 = 6
  · refine lv_tableIn (tgt := 109) hx hb dX12_count_6 (by rw [c_59]; decide) (by rw [c_59]; decide) (off := 103) (by rw [c_59]; rfl) (by decide) ?_
    have r_60 : rgI (6) (6) a0 := rg_w (rg_eq rl_6 c_59) (by decide) (by decide)
    refine lv_aload_n hx hb dX12_count_109 rfl (lv_at hl 0 rfl) ?_
    obtain ⟨_, ⟨rfl, t_62, hk_63⟩, o_c_61⟩ := hH h0 _ k_h0
    refine hg_get hx hb hG igX12 hown hK o_c_61 rfl 33 (by decide) (hG _ mw_1317) rfl dX12_count_110 ?_
    rw [u_10]
    exact W.iret hx hb hr (fun t ht hWm => ⟨⟨(G.1 133), (Ty, G_4), rfl, ⟨rfl, ⟨fr_5, ⟨(by rw [u_6]; exact (rg_w hI.a102 (by decide) (by decide))), (by rw [u_7]; exact (rg_w hI.a104 (by decide) (by decide))), (by rw [u_8]; exact (rg_w hI.a113 (by decide) (by decide))), (by rw [u_9]; exact (rg_w hI.a122 (by decide) (by decide))), (by rw [u_10]; exact (rg_w hI.a133 (by decide) (by decide))), (by rw [u_11]; exact (rg_w hI.a137 (by decide) (by decide))), u_18, u_19, (by rw [w_13]; exact (hI.ti.hi (show Bd ≤ Bd + 1000 by omega))), (hI.un2 (show Bd ≤ Bd + 1000 by omega) w_14 u_9), (hI.ke2 (show Bd ≤ Bd + 1000 by omega) w_15 w_16)⟩⟩⟩, by show HT g Ty G_4 t.heap; rw [ht]; exact hH⟩, hS.F ht⟩) hS.2.2 dX12_count_113
  by_cases c_64 : a0 = 7
  · refine lv_tableIn (tgt := 114) hx hb dX12_count_6 (by rw [c_64]; decide) (by rw [c_64]; decide) (off := 108) (by rw [c_64]; rfl) (by decide) ?_
    have r_65 : rgI (7) (7) a0 := rg_w (rg_eq rl_7 c_64) (by decide) (by decide)
    refine lv_aload_n hx hb dX12_count_114 rfl (lv_at hl 0 rfl) ?_
    obtain ⟨_, ⟨rfl, t_67, hk_68⟩, o_c_66⟩ := hH h0 _ k_h0
    refine hg_get hx hb hG igX12 hown hK o_c_66 rfl 37 (by decide) (hG _ mw_1321) rfl dX12_count_115 ?_
    rw [u_11]
    exact W.iret hx hb hr (fun t ht hWm => ⟨⟨(G.1 137), (Ty, G_4), rfl, ⟨rfl, ⟨fr_5, ⟨(by rw [u_6]; exact (rg_w hI.a102 (by decide) (by decide))), (by rw [u_7]; exact (rg_w hI.a104 (by decide) (by decide))), (by rw [u_8]; exact (rg_w hI.a113 (by decide) (by decide))), (by rw [u_9]; exact (rg_w hI.a122 (by decide) (by decide))), (by rw [u_10]; exact (rg_w hI.a133 (by decide) (by decide))), (by rw [u_11]; exact (rg_w hI.a137 (by decide) (by decide))), u_18, u_19, (by rw [w_13]; exact (hI.ti.hi (show Bd ≤ Bd + 1000 by omega))), (hI.un2 (show Bd ≤ Bd + 1000 by omega) w_14 u_9), (hI.ke2 (show Bd ≤ Bd + 1000 by omega) w_15 w_16)⟩⟩⟩, by show HT g Ty G_4 t.heap; rw [ht]; exact hH⟩, hS.F ht⟩) hS.2.2 dX12_count_118
  by_cases c_69 : a0 = 8
  · refine lv_tableIn (tgt := 119) hx hb dX12_count_6 (by rw [c_69]; decide) (by rw [c_69]; decide) (off := 113) (by rw [c_69]; rfl) (by decide) ?_
    have r_70 : rgI (8) (8) a0 := rg_w (rg_eq rl_8 c_69) (by decide) (by decide)
    refine lv_aload_n hx hb dX12_count_119 rfl (lv_at hl 0 rfl) ?_
    obtain ⟨_, ⟨rfl, t_72, hk_73⟩, o_c_71⟩ := hH h0 _ k_h0
    refine hg_get hx hb hG igX12 hown hK o_c_71 rfl 22 (by decide) (hG _ mw_1306) rfl dX12_count_120 ?_
    rw [u_9]
    exact W.iret hx hb hr (fun t ht hWm => ⟨⟨(G.1 122), (Ty, G_4), rfl, ⟨rfl, ⟨fr_5, ⟨(by rw [u_6]; exact (rg_w hI.a102 (by decide) (by decide))), (by rw [u_7]; exact (rg_w hI.a104 (by decide) (by decide))), (by rw [u_8]; exact (rg_w hI.a113 (by decide) (by decide))), (by rw [u_9]; exact (rg_w hI.a122 (by decide) (by decide))), (by rw [u_10]; exact (rg_w hI.a133 (by decide) (by decide))), (by rw [u_11]; exact (rg_w hI.a137 (by decide) (by decide))), u_18, u_19, (by rw [w_13]; exact (hI.ti.hi (show Bd ≤ Bd + 1000 by omega))), (hI.un2 (show Bd ≤ Bd + 1000 by omega) w_14 u_9), (hI.ke2 (show Bd ≤ Bd + 1000 by omega) w_15 w_16)⟩⟩⟩, by show HT g Ty G_4 t.heap; rw [ht]; exact hH⟩, hS.F ht⟩) hS.2.2 dX12_count_123
  by_cases c_74 : a0 = 9
  · refine lv_tableIn (tgt := 124) hx hb dX12_count_6 (by rw [c_74]; decide) (by rw [c_74]; decide) (off := 118) (by rw [c_74]; rfl) (by decide) ?_
    have r_75 : rgI (9) (9) a0 := rg_w (rg_eq rl_9 c_74) (by decide) (by decide)
    refine lv_aload_n hx hb dX12_count_124 rfl (lv_at hl 0 rfl) ?_
    obtain ⟨_, ⟨rfl, t_77, hk_78⟩, o_c_76⟩ := hH h0 _ k_h0
    refine hg_get hx hb hG igX12 hown hK o_c_76 rfl 4 (by decide) (hG _ mw_1288) rfl dX12_count_125 ?_
    rw [u_7]
    exact W.iret hx hb hr (fun t ht hWm => ⟨⟨(G.1 104), (Ty, G_4), rfl, ⟨rfl, ⟨fr_5, ⟨(by rw [u_6]; exact (rg_w hI.a102 (by decide) (by decide))), (by rw [u_7]; exact (rg_w hI.a104 (by decide) (by decide))), (by rw [u_8]; exact (rg_w hI.a113 (by decide) (by decide))), (by rw [u_9]; exact (rg_w hI.a122 (by decide) (by decide))), (by rw [u_10]; exact (rg_w hI.a133 (by decide) (by decide))), (by rw [u_11]; exact (rg_w hI.a137 (by decide) (by decide))), u_18, u_19, (by rw [w_13]; exact (hI.ti.hi (show Bd ≤ Bd + 1000 by omega))), (hI.un2 (show Bd ≤ Bd + 1000 by omega) w_14 u_9), (hI.ke2 (show Bd ≤ Bd + 1000 by omega) w_15 w_16)⟩⟩⟩, by show HT g Ty G_4 t.heap; rw [ht]; exact hH⟩, hS.F ht⟩) hS.2.2 dX12_count_128
  by_cases c_79 : a0 = 10
  · refine lv_tableIn (tgt := 129) hx hb dX12_count_6 (by rw [c_79]; decide) (by rw [c_79]; decide) (off := 123) (by rw [c_79]; rfl) (by decide) ?_
    have r_80 : rgI (10) (10) a0 := rg_w (rg_eq rl_10 c_79) (by decide) (by decide)
    refine lv_aload_n hx hb dX12_count_129 rfl (lv_at hl 0 rfl) ?_
    obtain ⟨_, ⟨rfl, t_82, hk_83⟩, o_c_81⟩ := hH h0 _ k_h0
    refine hg_get hx hb hG igX12 hown hK o_c_81 rfl 2 (by decide) (hG _ mw_1286) rfl dX12_count_130 ?_
    rw [u_6]
    exact W.iret hx hb hr (fun t ht hWm => ⟨⟨(G.1 102), (Ty, G_4), rfl, ⟨rfl, ⟨fr_5, ⟨(by rw [u_6]; exact (rg_w hI.a102 (by decide) (by decide))), (by rw [u_7]; exact (rg_w hI.a104 (by decide) (by decide))), (by rw [u_8]; exact (rg_w hI.a113 (by decide) (by decide))), (by rw [u_9]; exact (rg_w hI.a122 (by decide) (by decide))), (by rw [u_10]; exact (rg_w hI.a133 (by decide) (by decide))), (by rw [u_11]; exact (rg_w hI.a137 (by decide) (by decide))), u_18, u_19, (by rw [w_13]; exact (hI.ti.hi (show Bd ≤ Bd + 1000 by omega))), (hI.un2 (show Bd ≤ Bd + 1000 by omega) w_14 u_9), (hI.ke2 (show Bd ≤ Bd + 1000 by omega) w_15 w_16)⟩⟩⟩, by show HT g Ty G_4 t.heap; rw [ht]; exact hH⟩, hS.F ht⟩) hS.2.2 dX12_count_133
  refine lv_tableOut (tgt := 134) hx hb dX12_count_6 (by have := lv_neT (a := 0) c_20 rfl; have := lv_neT (a := 1) c_27 rfl; have := lv_neT (a := 2) c_33 rfl; have := lv_neT (a := 3) c_39 rfl; have := lv_neT (a := 4) c_45 rfl; have := lv_neT (a := 5) c_52 rfl; have := lv_neT (a := 6) c_59 rfl; have := lv_neT (a := 7) c_64 rfl; have := lv_neT (a := 8) c_69 rfl; have := lv_neT (a := 9) c_74 rfl; have := lv_neT (a := 10) c_79 rfl; omega) (by decide) ?_
  refine lv_iconst (v := (-1)) hx hb dX12_count_134 (by decide) ?_
  exact W.iret hx hb hr (fun t ht hWm => ⟨⟨(-1), (Ty, G_4), rfl, ⟨rfl, ⟨fr_5, ⟨(by rw [u_6]; exact (rg_w hI.a102 (by decide) (by decide))), (by rw [u_7]; exact (rg_w hI.a104 (by decide) (by decide))), (by rw [u_8]; exact (rg_w hI.a113 (by decide) (by decide))), (by rw [u_9]; exact (rg_w hI.a122 (by decide) (by decide))), (by rw [u_10]; exact (rg_w hI.a133 (by decide) (by decide))), (by rw [u_11]; exact (rg_w hI.a137 (by decide) (by decide))), u_18, u_19, (by rw [w_13]; exact (hI.ti.hi (show Bd ≤ Bd + 1000 by omega))), (hI.un2 (show Bd ≤ Bd + 1000 by omega) w_14 u_9), (hI.ke2 (show Bd ≤ Bd + 1000 by omega) w_15 w_16)⟩⟩⟩, by show HT g Ty G_4 t.heap; rw [ht]; exact hH⟩, hS.F ht⟩) hS.2.2 dX12_count_135

set_option maxHeartbeats 4000000 in
set_option maxRecDepth 100000 in
theorem c_X12_row (l : Launch) (g : Gx) (Ty : TyM) (G : Gh) (sz : Nat) (h0 : Nat) (a0 : Int32) (k_h0 : Ty h0 = some (22, 0)) (Bd : Int) (hI : OI g Bd G) (hBd : Bd ≤ 1900000) (hLD : LD g) : Met l yX12_row (wsG yX12_row cX12_row 2 (some .long)) ({ frames := 1, cells := 0, slots := 0, locals := 22 }) (PcT g Ty G sz [.ref h0, .int a0]) (QwJ g Ty sz (fun r u => u.1 = Ty ∧ FR [105] [] [] G u.2 ∧ OI g (Bd + 1000) u.2)) 0 0 (AF Ty sz) := by
  refine Met.ofW (cc := cX12_row) (maxL := 2) (ret := (some .long)) (by decide) rfl ?_
  intro p e s m args below meth c s₁ B hml hv
  obtain ⟨rfl, hsz, hK, hH⟩ := hv
  subst hsz
  have hx := B.exec
  have hb := B.bytes
  have hr := B.returns
  have hts := atoms_spec (ws := (wsG yX12_row cX12_row 2 (some .long))) B.pre
  have hG : ∀ w ∈ GW, w.before ([.ref h0, .int a0] : List Value).toArray s = true := fun w h => hts w (List.mem_cons_of_mem _ h)
  have hown : s.vm.findClass RX12 = some m.cls := findClass_of_methodNamed B.named
  have hlocks := B.notSynchronized
  have hl := lv_entry [.ref h0, .int a0] (n := 2) (Nat.le_of_ble_eq_true rfl)
  rw [lg_entry_eq]
  generalize (lg_sl [.ref h0, .int a0] ++ List.replicate (2 - (lg_sl [.ref h0, .int a0]).length) Slot.unset).toArray = ls at hl ⊢
  have hl : lv_has ls 2 [(0, .ref h0), (1, .int a0)] := hl
  have hmk : mdK g Ty := mdk_of hH k_h0
  have hS : va_S (AF Ty s.heap.size) s.heap s.heap [] := va_S.rf
  obtain ⟨⟨σ0, hTS0⟩, h10, hBB0⟩ := id hI.ti
  obtain ⟨ρ, hT⟩ := hTS0.1
  refine lv_aload_n hx hb dX12_row_0 rfl (lv_at hl 0 rfl) ?_
  refine lv_iconst (v := 0) hx hb dX12_row_1 (by decide) ?_
  obtain ⟨_, ⟨rfl, t_2, hk_3⟩, o_c_1⟩ := hH h0 _ k_h0
  refine hg_put (ty := .int) hx hb hG igX12 tyX12 tyX12_ok nmX12 hown hK hS o_c_1 (AF.of k_h0) rfl 5 (by decide) (hG _ mw_1289) rfl (by decide +kernel) rfl rfl (Nat.le_of_ble_eq_true rfl) dX12_row_2 (fun H locs o_c_1 hz oq hS => ?_)
  obtain ⟨G_4, eG_4⟩ : ∃ z : Gh, z = gset G 105 0 := ⟨_, rfl⟩
  have hH : HT g Ty G_4 H := by rw [eG_4]; exact HT.putN 105 0 hH k_h0 ⟨rfl, t_2, hk_3⟩ o_c_1 oq (Or.inr (Or.inr (Or.inr (Or.inr (Or.inr ⟨by decide, t_2⟩)))))
  have fr_5 : FR [105] [] [] G G_4 := FR.n FR.rf eG_4 (by decide)
  have u_6 : G_4.1 102 = (G.1 102) := by rw [eG_4]; exact (gs_ne (by decide))
  have u_7 : G_4.1 104 = (G.1 104) := by rw [eG_4]; exact (gs_ne (by decide))
  have u_8 : G_4.1 113 = (G.1 113) := by rw [eG_4]; exact (gs_ne (by decide))
  have u_9 : G_4.1 122 = (G.1 122) := by rw [eG_4]; exact (gs_ne (by decide))
  have u_10 : G_4.1 133 = (G.1 133) := by rw [eG_4]; exact (gs_ne (by decide))
  have u_11 : G_4.1 137 = (G.1 137) := by rw [eG_4]; exact (gs_ne (by decide))
  have u_12 : G_4.1 105 = 0 := by rw [eG_4]; exact gs_eq
  have w_13 : G_4.2.1 (g.2.2 100) = (G.2.1 (g.2.2 100)) := by rw [eG_4]; exact rfl
  have w_14 : G_4.2.1 (g.2.2 121) = (G.2.1 (g.2.2 121)) := by rw [eG_4]; exact rfl
  have w_15 : G_4.2.1 (g.2.2 140) = (G.2.1 (g.2.2 140)) := by rw [eG_4]; exact rfl
  have w_16 : G_4.2.1 (g.2.2 141) = (G.2.1 (g.2.2 141)) := by rw [eG_4]; exact rfl
  have w_17 : G_4.2.1 (g.2.2 111) = (G.2.1 (g.2.2 111)) := by rw [eG_4]; exact rfl
  have u_18 : G_4.2.2 111 = some (g.2.2 111) := by rw [eG_4]; exact hI.r111
  have u_19 : G_4.2.2 112 = some (g.2.2 112) := by rw [eG_4]; exact hI.r112
  clear oq hz
  refine lv_iload_n hx hb dX12_row_5 rfl (lv_at hl 1 rfl) ?_
  refine lv_iconst (v := 0) hx hb dX12_row_6 (by decide) ?_
  refine lv_aload_n hx hb dX12_row_7 rfl (lv_at hl 0 rfl) ?_
  obtain ⟨_, ⟨rfl, t_21, hk_22⟩, o_c_20⟩ := hH h0 _ k_h0
  refine hg_get hx hb hG igX12 hown hK o_c_20 rfl 4 (by decide) (hG _ mw_1288) rfl dX12_row_8 ?_
  rw [u_7]
  refine lv_iconst (v := 1) hx hb dX12_row_11 (by decide) ?_
  refine lv_isub hx hb dX12_row_12 ?_
  refine lv_topi (fun x_23 ex_23 => ?_)
  have rx_23 : rgI (-1) (31) x_23 := by rw [ex_23]; exact rg_w (rg_sub hI.a104 rl_1 (by decide) (by decide)) (by decide) (by decide)
  refine vp_callSi (W.runS (As := [.int a0, .int 0, .int x_23]) (rest := []) ⟨hx, hb, hml, hown, hts⟩ (c_X12_in l g Ty G_4 a0 0 x_23 ) (cwSx 3 hts hG (gwC mw_1426) mw_88 mw_1424 mw_1425 rfl rfl rfl hd_X12_in ⟨Nat.le_of_ble_eq_true rfl, Nat.le_of_ble_eq_true rfl⟩) ⟨PcH_blind, PcH_pre hK hH⟩ rfl rfl hl.1 rfl (lv_room (Nat.le_of_ble_eq_true rfl)) dX12_row_13 ⟨Nat.zero_le _, Nat.zero_le _⟩) (fun x_24 hx_24 => ?_)
  have rx_24 : rgI (0) (1) x_24 := hx_24.1
  refine lv_if_eq (tgt := 28) hx hb dX12_row_16 (by decide) (fun c_25 => ?_) (fun c_25 => ?_)
  · have r_26 : rgI (0) (0) x_24 := rg_w (rg_eq rl_0 c_25) (by decide) (by decide)
    refine lv_aload_n hx hb dX12_row_28 rfl (lv_at hl 0 rfl) ?_
    refine va_calli (va_runV (As := []) (rest := []) ⟨hx, hb, hml, hown, hts⟩ (c_X12_lost l g Ty G_4 H.size h0 k_h0) (cwV 0 hts (gwV mw_1521 mw_1523 mw_49 mw_88 mw_1524) rfl rfl rfl hv_X12_lost ⟨Nat.le_of_ble_eq_true rfl, Nat.le_of_ble_eq_true rfl⟩) ⟨PcT_blind, hg_recv hK o_c_20 rfl, PcT_pre hK hH⟩ rfl rfl hl.1 rfl (lv_room (Nat.le_of_ble_eq_true rfl)) dX12_row_29 ⟨Nat.zero_le _, Nat.zero_le _⟩) hS (fun q _ h => AF.mono hS.1 h) (fun q h => AF.mono hS.1 h) (fun x_27 ux_27 t H locs ht hvm hx_27 hB hz hk hS => ?_)
    obtain ⟨eTx_27, eGx_27⟩ := hx_27
    obtain ⟨G_28, eG_28⟩ : ∃ z, z = ux_27.2 := ⟨_, rfl⟩
    rw [← eG_28] at eGx_27
    have fr_29 : FR [105] [] [] G G_28 := FR.n fr_5 eGx_27 (by decide)
    have u_30 : G_28.1 102 = (G.1 102) := by rw [eGx_27]; exact (gs_ne (by decide)).trans u_6
    have u_31 : G_28.1 104 = (G.1 104) := by rw [eGx_27]; exact (gs_ne (by decide)).trans u_7
    have u_32 : G_28.1 113 = (G.1 113) := by rw [eGx_27]; exact (gs_ne (by decide)).trans u_8
    have u_33 : G_28.1 122 = (G.1 122) := by rw [eGx_27]; exact (gs_ne (by decide)).trans u_9
    have u_34 : G_28.1 133 = (G.1 133) := by rw [eGx_27]; exact (gs_ne (by decide)).trans u_10
    have u_35 : G_28.1 137 = (G.1 137) := by rw [eGx_27]; exact (gs_ne (by decide)).trans u_11
    have u_36 : G_28.1 105 = 1 := by rw [eGx_27]; exact gs_eq
    have w_37 : G_28.2.1 (g.2.2 100) = (G.2.1 (g.2.2 100)) := by rw [eGx_27]; exact w_13
    have w_38 : G_28.2.1 (g.2.2 121) = (G.2.1 (g.2.2 121)) := by rw [eGx_27]; exact w_14
    have w_39 : G_28.2.1 (g.2.2 140) = (G.2.1 (g.2.2 140)) := by rw [eGx_27]; exact w_15
    have w_40 : G_28.2.1 (g.2.2 141) = (G.2.1 (g.2.2 141)) := by rw [eGx_27]; exact w_16
    have w_41 : G_28.2.1 (g.2.2 111) = (G.2.1 (g.2.2 111)) := by rw [eGx_27]; exact w_17
    have u_42 : G_28.2.2 111 = some (g.2.2 111) := by rw [eGx_27]; exact u_18
    have u_43 : G_28.2.2 112 = some (g.2.2 112) := by rw [eGx_27]; exact u_19
    have hH : HT g Ty G_28 H := by rw [← ht, ← eTx_27, eG_28]; exact hB
    refine lv_i2l hx hb dX12_row_32 rfl ?_
    refine lv_topl (fun u_44 eu_44 => ?_)
    exact W.lret hx hb hr (fun t ht hWm => ⟨⟨u_44, (Ty, G_28), rfl, ⟨rfl, ⟨fr_29, ⟨(by rw [u_30]; exact (rg_w hI.a102 (by decide) (by decide))), (by rw [u_31]; exact (rg_w hI.a104 (by decide) (by decide))), (by rw [u_32]; exact (rg_w hI.a113 (by decide) (by decide))), (by rw [u_33]; exact (rg_w hI.a122 (by decide) (by decide))), (by rw [u_34]; exact (rg_w hI.a133 (by decide) (by decide))), (by rw [u_35]; exact (rg_w hI.a137 (by decide) (by decide))), u_42, u_43, (by rw [w_37]; exact (hI.ti.hi (show Bd ≤ Bd + 1000 by omega))), (hI.un2 (show Bd ≤ Bd + 1000 by omega) w_38 u_33), (hI.ke2 (show Bd ≤ Bd + 1000 by omega) w_39 w_40)⟩⟩⟩, by show HT g Ty G_28 t.heap; rw [ht]; exact hH⟩, hS.F ht⟩) hS.2.2 dX12_row_33
  · have r_45 : rgI (1) (1) x_24 := rg_w (rg_neL rx_24 rl_0 c_25) (by decide) (by decide)
    have r_46 : rgI (0) (31) a0 := rg_w (in_rng hx_24.2.1 c_25 rl_0 rx_23) (by decide) (by decide)
    refine lv_aload_n hx hb dX12_row_19 rfl (lv_at hl 0 rfl) ?_
    refine hg_get hx hb hG igX12 hown hK o_c_20 rfl 3 (by decide) (hG _ mw_1287) rfl dX12_row_20 ?_
    refine lv_iload_n hx hb dX12_row_23 rfl (lv_at hl 1 rfl) ?_
    obtain ⟨_, ⟨f_48, rfl⟩, o_c_47⟩ := hH (g.2.2 103) _ hk_22.2.2.1
    refine hg_lald hx hb hK o_c_47 (rg_in (n := 32) r_46 (by decide) (by decide)) dX12_row_24 ?_
    refine lv_topl (fun u_49 eu_49 => ?_)
    refine lv_goto (tgt := 33) hx hb dX12_row_25 (by decide) ?_
    exact W.lret hx hb hr (fun t ht hWm => ⟨⟨u_49, (Ty, G_4), rfl, ⟨rfl, ⟨fr_5, ⟨(by rw [u_6]; exact (rg_w hI.a102 (by decide) (by decide))), (by rw [u_7]; exact (rg_w hI.a104 (by decide) (by decide))), (by rw [u_8]; exact (rg_w hI.a113 (by decide) (by decide))), (by rw [u_9]; exact (rg_w hI.a122 (by decide) (by decide))), (by rw [u_10]; exact (rg_w hI.a133 (by decide) (by decide))), (by rw [u_11]; exact (rg_w hI.a137 (by decide) (by decide))), u_18, u_19, (by rw [w_13]; exact (hI.ti.hi (show Bd ≤ Bd + 1000 by omega))), (hI.un2 (show Bd ≤ Bd + 1000 by omega) w_14 u_9), (hI.ke2 (show Bd ≤ Bd + 1000 by omega) w_15 w_16)⟩⟩⟩, by show HT g Ty G_4 t.heap; rw [ht]; exact hH⟩, hS.F ht⟩) hS.2.2 dX12_row_33
