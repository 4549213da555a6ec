set_option maxHeartbeats 4000000 in
set_option maxRecDepth 100000 in
theorem c_X12_goInside (l : Launch) (g : Gx) : ∀ (nr : Nat) (Ty : TyM) (G : Gh) (sz : Nat) (h0 : Nat) (b0 : Nat) (a1 : Int32) (a2 : Int32) (k_h0 : Ty h0 = some (22, 0)) (k_b0 : Ty b0 = some (30, 122)) (pr1 : rgI (0) (23) a1) (hb9 : b0 ≠ g.2.2 129) (ρ : Nat → Nat) (hT : P1 (G.2.1 (g.2.2 129)) ρ) (hUB : UB (G.2.1 (g.2.2 129))) (hm0 : thr (G.2.1 (g.2.2 129)) a1) (τ : Int32 → Nat) (NN : Int32) (hTS : TS (G.2.1 b0) τ NN) (hcl : thr (G.2.1 b0) a2) (hPV : PV (G.2.1 (g.2.2 129)) τ NN) (hcn : ct (isT (G.2.1 b0)) 24 + TZ (G.2.1 (g.2.2 129)) nr a1 ≤ 25) (hm : 24 - ρ a1.toNatClampNeg < nr), Met l yX12_goInside (wsG yX12_goInside cX12_goInside 7 none) ({ frames := 2 + nr, cells := 0, slots := 0, locals := 46 + 26 * nr }) (PcT g Ty G sz [.ref h0, .ref b0, .int a1, .int a2]) (QwV g Ty sz (fun u => u.1 = Ty ∧ FR [128] [b0] [] G u.2 ∧ GI (G.2.1 (g.2.2 129)) (G.2.1 b0) (u.2.2.1 b0) τ NN (TZ (G.2.1 (g.2.2 129)) nr a1))) 0 0 (AF Ty sz) := by
  intro nr
  induction nr with
  | zero => intro Ty G sz h0 b0 a1 a2 k_h0 k_b0 pr1 hb9 ρ hT hUB hm0 τ NN hTS hcl hPV hcn hm; exact absurd hm (Nat.not_lt_zero _)
  | succ nr ihr =>
  intro Ty G sz h0 b0 a1 a2 k_h0 k_b0 pr1 hb9 ρ hT hUB hm0 τ NN hTS hcl hPV hcn hm
  refine Met.ofW (cc := cX12_goInside) (maxL := 7) (ret := none) (by decide) rfl ?_
  intro p e s m args below meth c s₁ B hml hv
  obtain ⟨rfl, hsz, hK, hH⟩ := hv
  subst hsz
  have hx := B.exec
  have hb := B.bytes
  have hr := B.returns
  have hts := atoms_spec (ws := (wsG yX12_goInside cX12_goInside 7 none)) B.pre
  have hG : ∀ w ∈ GW, w.before ([.ref h0, .ref b0, .int a1, .int a2] : List Value).toArray s = true := fun w h => hts w (List.mem_cons_of_mem _ h)
  have hown : s.vm.findClass RX12 = some m.cls := findClass_of_methodNamed B.named
  have hlocks := B.notSynchronized
  have hl := lv_entry [.ref h0, .ref b0, .int a1, .int a2] (n := 7) (Nat.le_of_ble_eq_true rfl)
  rw [lg_entry_eq]
  generalize (lg_sl [.ref h0, .ref b0, .int a1, .int a2] ++ List.replicate (7 - (lg_sl [.ref h0, .ref b0, .int a1, .int a2]).length) Slot.unset).toArray = ls at hl ⊢
  have hl : lv_has ls 7 [(0, .ref h0), (1, .ref b0), (2, .int a1), (3, .int a2)] := hl
  have hmk : mdK g Ty := mdk_of hH k_h0
  have hS : va_S (AF Ty s.heap.size) s.heap s.heap [] := va_S.rf
  have L_3 : ∀ (n : Nat) (H : Heap) (locs : List Loc) (G_3 : Gh) (fl0_3 : Nat → Int32) (y4_3 : Int32) (ls : Array Slot), FR [128] [b0] [] G G_3 → G_3.2.1 b0 = fl0_3 → rgI (0) (23) a1 → rgI (0) (4) y4_3 → GI (G.2.1 (g.2.2 129)) (G.2.1 b0) fl0_3 τ NN (TP (TZ (G.2.1 (g.2.2 129)) nr) (G.2.1 (g.2.2 129)) a1 (y4_3 : Int32).toNatClampNeg) → (4 - (y4_3).toInt).toNat < n → lv_has ls 7 [(0, .ref h0), (1, .ref b0), (2, .int a1), (3, .int a2), (4, .int y4_3)] → HT g Ty G_3 H → va_S (AF Ty s.heap.size) s.heap H locs → Wm p l e (wsG yX12_goInside cX12_goInside 7 none) ({ frames := 2 + (nr + 1), cells := 0, slots := 0, locals := 46 + 26 * (nr + 1) }) s m [.ref h0, .ref b0, .int a1, .int a2] below meth c H locs (0) (0) (QwV g Ty s.heap.size (fun u => u.1 = Ty ∧ FR [128] [b0] [] G u.2 ∧ GI (G.2.1 (g.2.2 129)) (G.2.1 b0) (u.2.2.1 b0) τ NN (TZ (G.2.1 (g.2.2 129)) (nr + 1) a1))) 0 0 (AF Ty s.heap.size) (F0 m 3 ls []) := by
    intro n
    induction n with
    | zero => intro H locs G_3 fl0_3 y4_3 ls fr_3 efl0_3 ry2_3 ry4_3 hi0_3 hm; exact absurd hm (Nat.not_lt_zero _)
    | succ n ih_3 =>
      intro H locs G_3 fl0_3 y4_3 ls fr_3 efl0_3 ry2_3 ry4_3 hi0_3 hm_3 hl hH hS
      refine lv_iload hx hb dX12_goInside_3 (lv_at hl 4 rfl) ?_
      refine lv_iconst (v := 4) hx hb dX12_goInside_5 (by decide) ?_
      refine lv_icmp_ge (tgt := 102) hx hb dX12_goInside_6 (by decide) (fun c_1 => ?_) (fun c_1 => ?_)
      · have r_2 : rgI (4) (4) y4_3 := rg_w (rg_leR rl_4 ry4_3 c_1) (by decide) (by decide)
        exact W.vret hx hb hr (fun t ht hWm => ⟨⟨(Ty, G_3), rfl, ⟨rfl, ⟨fr_3, (by rw [efl0_3]; exact GI_4 hi0_3 r_2)⟩⟩, by show HT g Ty G_3 t.heap; rw [ht]; exact hH⟩, hS.F ht⟩) hS.2.2 dX12_goInside_102
      · have r_3 : rgI (0) (3) y4_3 := rg_w (rg_ltL ry4_3 rl_4 (nle_lt c_1)) (by decide) (by decide)
        refine lv_aload_n hx hb dX12_goInside_9 rfl (lv_at hl 0 rfl) ?_
        obtain ⟨_, ⟨rfl, t_5, hk_6⟩, o_c_4⟩ := hH h0 _ k_h0
        refine hg_get hx hb hG igX12 hown hK o_c_4 rfl 29 (by decide) (hG _ mw_1313) rfl dX12_goInside_10 ?_
        refine lv_iload_n hx hb dX12_goInside_13 rfl (lv_at hl 2 rfl) ?_
        refine lv_iload hx hb dX12_goInside_14 (lv_at hl 4 rfl) ?_
        refine vp_callSi (W.runS (As := [.ref (g.2.2 129), .int a1, .int y4_3]) (rest := []) ⟨hx, hb, hml, hown, hts⟩ (c_X12_atOf l g Ty G_3 (g.2.2 129) a1 y4_3 (hk_6.2.2.2.2.2.2.2.2.2.2.1)) (cwSx 3 hts hG (gwC mw_1509) mw_88 mw_1507 mw_1508 rfl rfl rfl hd_X12_atOf ⟨Nat.le_trans (Nat.le_of_ble_eq_true rfl) (Nat.le_add_right 2 _), Nat.le_trans (Nat.le_of_ble_eq_true rfl) (Nat.le_add_right 46 _)⟩) ⟨PcH_blind, PcH_pre hK hH⟩ rfl rfl hl.1 rfl (lv_room (Nat.le_of_ble_eq_true rfl)) dX12_goInside_16 ⟨Nat.zero_le _, Nat.zero_le _⟩) (fun x_7 hx_7 => ?_)
        have rx_7 : rgI (1) (24) x_7 := hx_7.1
        have ex_8 : x_7 = F_X12_atOf (G.2.1 (g.2.2 129)) a1 y4_3 := by rw [← (fr_3.2.1 (g.2.2 129) ⟨(Ne.symm hb9), trivial⟩)]; exact hx_7.2
        refine lv_istore (lv' := [(5, .int x_7), (0, .ref h0), (1, .ref b0), (2, .int a1), (3, .int a2), (4, .int y4_3)]) hx hb dX12_goInside_19 hl (by decide) rfl (fun ls hl => ?_)
        refine lv_iload hx hb dX12_goInside_21 (lv_at hl 0 rfl) ?_
        refine lv_bipush (v := 24) hx hb dX12_goInside_23 (by decide) ?_
        refine lv_icmp_eq (tgt := 96) hx hb dX12_goInside_25 (by decide) (fun c_9 => ?_) (fun c_9 => ?_)
        · have r_10 : rgI (24) (24) x_7 := rg_w (rg_eq rl_24 c_9) (by decide) (by decide)
          obtain ⟨x_11, ex_11⟩ : ∃ y : Int32, y = y4_3 + 1 := ⟨_, rfl⟩
          have rx_11 : rgI (1) (4) x_11 := by rw [ex_11]; exact rg_w (rg_add r_3 rl_1 (by decide) (by decide)) (by decide) (by decide)
          have qx_11 : x_11.toInt = (y4_3 : Int32).toInt + 1 := by rw [ex_11]; exact rg_addE r_3 rl_1 (by decide) (by decide)
          refine lv_iinc (v := x_11) (lv' := [(4, .int x_11), (5, .int x_7), (0, .ref h0), (1, .ref b0), (2, .int a1), (3, .int a2)]) hx hb dX12_goInside_96 hl (k := 5) rfl (by rw [ex_11]; rfl) (by decide) rfl (fun ls hl => ?_)
          refine lv_goto (tgt := 3) hx hb dX12_goInside_99 (by decide) ?_
          exact ih_3 H locs G_3 fl0_3 x_11 ls fr_3 efl0_3 ry2_3 (rg_w rx_11 (by decide) (by decide)) (GI_n hi0_3 r_3 qx_11 (tc_1 r_3 ex_8 c_9)) (by have h1 := qx_11; have h2 := r_3.1; have h3 := r_3.2; have h4 := hm_3; omega) (lv_sub hl [2, 3, 4, 5, 0] rfl) hH hS
        · have r_12 : rgI (1) (23) x_7 := rg_w (rg_neR rx_7 rl_24 c_9) (by decide) (by decide)
          refine lv_aload_n hx hb dX12_goInside_28 rfl (lv_at hl 1 rfl) ?_
          refine hg_get hx hb hG igX12 hown hK o_c_4 rfl 29 (by decide) (hG _ mw_1313) rfl dX12_goInside_29 ?_
          refine lv_bipush (v := 96) hx hb dX12_goInside_32 (by decide) ?_
          refine lv_iload hx hb dX12_goInside_34 (lv_at hl 0 rfl) ?_
          refine lv_iadd hx hb dX12_goInside_36 ?_
          refine lv_topi (fun x_13 ex_13 => ?_)
          have rx_13 : rgI (97) (119) x_13 := by rw [ex_13]; exact rg_w (rg_add rl_96 r_12 (by decide) (by decide)) (by decide) (by decide)
          obtain ⟨_, rfl, o_c_14⟩ := hH (g.2.2 129) _ hk_6.2.2.2.2.2.2.2.2.2.2.1
          have o_c_14 : va_at g.1 vwCl ((g.2.2 129), .inl (g.2.1 1, 122, .inl (G_3.2.1 (g.2.2 129)))) H := o_c_14
          refine hg_iald hx hb hK o_c_14 (rg_in (n := 122) rx_13 (by decide) (by decide)) dX12_goInside_37 ?_
          rw [(fr_3.2.1 (g.2.2 129) ⟨(Ne.symm hb9), trivial⟩)]
          refine lv_topi (fun x_15 ex_15 => ?_)
          refine lv_iconst (v := 1) hx hb dX12_goInside_38 (by decide) ?_
          refine lv_icmp_ne (tgt := 45) hx hb dX12_goInside_39 (by decide) (fun c_16 => ?_) (fun c_16 => ?_)
          · have ch_17 := chd hT hm0 ex_8 c_9
            refine lv_aload_n hx hb dX12_goInside_45 rfl (lv_at hl 2 rfl) ?_
            refine lv_iload_n hx hb dX12_goInside_46 rfl (lv_at hl 4 rfl) ?_
            refine lv_iload hx hb dX12_goInside_47 (lv_at hl 5 rfl) ?_
            refine lv_aload_n hx hb dX12_goInside_49 rfl (lv_at hl 1 rfl) ?_
            refine hg_get hx hb hG igX12 hown hK o_c_4 rfl 29 (by decide) (hG _ mw_1313) rfl dX12_goInside_50 ?_
            refine lv_bipush (v := 48) hx hb dX12_goInside_53 (by decide) ?_
            refine lv_iload hx hb dX12_goInside_55 (lv_at hl 0 rfl) ?_
            refine lv_iadd hx hb dX12_goInside_57 ?_
            refine lv_topi (fun x_18 ex_18 => ?_)
            have rx_18 : rgI (49) (71) x_18 := by rw [ex_18]; exact rg_w (rg_add rl_48 r_12 (by decide) (by decide)) (by decide) (by decide)
            refine hg_iald hx hb hK o_c_14 (rg_in (n := 122) rx_18 (by decide) (by decide)) dX12_goInside_58 ?_
            rw [(fr_3.2.1 (g.2.2 129) ⟨(Ne.symm hb9), trivial⟩)]
            refine lv_topi (fun x_19 ex_19 => ?_)
            refine lv_aload_n hx hb dX12_goInside_59 rfl (lv_at hl 1 rfl) ?_
            refine hg_get hx hb hG igX12 hown hK o_c_4 rfl 29 (by decide) (hG _ mw_1313) rfl dX12_goInside_60 ?_
            refine lv_bipush (v := 72) hx hb dX12_goInside_63 (by decide) ?_
            refine lv_iload hx hb dX12_goInside_65 (lv_at hl 0 rfl) ?_
            refine lv_iadd hx hb dX12_goInside_67 ?_
            refine lv_topi (fun x_20 ex_20 => ?_)
            have rx_20 : rgI (73) (95) x_20 := by rw [ex_20]; exact rg_w (rg_add rl_72 r_12 (by decide) (by decide)) (by decide) (by decide)
            refine hg_iald hx hb hK o_c_14 (rg_in (n := 122) rx_20 (by decide) (by decide)) dX12_goInside_68 ?_
            rw [(fr_3.2.1 (g.2.2 129) ⟨(Ne.symm hb9), trivial⟩)]
            refine lv_topi (fun x_21 ex_21 => ?_)
            refine va_calli (va_runS (As := [.ref b0, .int a2, .int y4_3, .int x_19, .int x_21]) (rest := []) ⟨hx, hb, hml, hown, hts⟩ (c_X12_comes l g Ty G_3 H.size b0 a2 y4_3 x_19 x_21 k_b0) (cwSx 5 hts hG (gwC mw_1601) mw_88 mw_1599 mw_1600 rfl rfl rfl hd_X12_comes ⟨Nat.le_trans (Nat.le_of_ble_eq_true rfl) (Nat.le_add_right 2 _), Nat.le_trans (Nat.le_of_ble_eq_true rfl) (Nat.le_add_right 46 _)⟩) ⟨PcT_blind, PcT_pre hK hH⟩ rfl rfl hl.1 rfl (lv_room (Nat.le_of_ble_eq_true rfl)) dX12_goInside_69 ⟨Nat.zero_le _, Nat.zero_le _⟩) hS (fun q _ h => AF.mono hS.1 h) (fun q h => AF.mono hS.1 h) (fun x_22 ux_22 t H locs ht hvm hx_22 hB hz hk hS => ?_)
            obtain ⟨eTx_22, eGx_22⟩ := hx_22
            obtain ⟨G_23, eG_23⟩ : ∃ z, z = ux_22.2 := ⟨_, rfl⟩
            rw [← eG_23] at eGx_22
            obtain ⟨hr_25, hg_26⟩ := eGx_22
            rw [efl0_3] at hr_25 hg_26
            obtain ⟨f_24, ef_24⟩ : ∃ z : Nat → Int32, z = (F_X12_comes fl0_3 a2 y4_3 x_19 x_21).2 := ⟨_, rfl⟩
            rw [← ef_24] at hg_26
            have fr_27 : FR [128] [b0] [] G G_23 := FR.a fr_3 hg_26 (fun b h => h.1)
            have w_28 : G_23.2.1 b0 = f_24 := by rw [hg_26]; exact aset_eq
            have w_29 : G_23.2.1 (g.2.2 129) = (G.2.1 (g.2.2 129)) := by rw [hg_26]; exact (aset_ne (Ne.symm hb9)).trans (fr_3.2.1 (g.2.2 129) ⟨(Ne.symm hb9), trivial⟩)
            have hH : HT g Ty G_23 H := by rw [← ht, ← eTx_22, eG_23]; exact hB
            refine lv_istore (lv' := [(6, .int x_22), (5, .int x_7), (0, .ref h0), (1, .ref b0), (2, .int a1), (3, .int a2), (4, .int y4_3)]) hx hb dX12_goInside_72 hl (by decide) rfl (fun ls hl => ?_)
            have gc_30 := GI_c hi0_3 hcn r_3 (tc_3 r_3 ex_8 c_9 (ub_ne hUB ch_17.1.1 (by rw [ex_15, ex_13]) c_16)) hcl hPV ch_17.1 (by rw [ex_19, ex_18]) (by rw [ex_21, ex_20]) ef_24 hr_25
            refine lv_aload_n hx hb dX12_goInside_74 rfl (lv_at hl 2 rfl) ?_
            refine lv_dup hx hb dX12_goInside_75 rfl ?_
            obtain ⟨_, ⟨rfl, t_32, hk_33⟩, o_c_31⟩ := hH h0 _ k_h0
            refine hg_get hx hb hG igX12 hown hK o_c_31 rfl 28 (by decide) (hG _ mw_1312) rfl dX12_goInside_76 ?_
            refine lv_iconst (v := 1) hx hb dX12_goInside_79 (by decide) ?_
            refine lv_iload hx hb dX12_goInside_80 (lv_at hl 0 rfl) ?_
            refine lv_ishl hx hb dX12_goInside_82 ?_
            refine lv_topi (fun x_34 ex_34 => ?_)
            refine lv_ior hx hb dX12_goInside_83 ?_
            refine lv_topi (fun x_35 ex_35 => ?_)
            refine hg_put (ty := .int) hx hb hG igX12 tyX12 tyX12_ok nmX12 hown hK hS o_c_31 (AF.of k_h0) rfl 28 (by decide) (hG _ mw_1312) rfl (by decide +kernel) rfl rfl (Nat.le_of_ble_eq_true rfl) dX12_goInside_84 (fun H locs o_c_31 hz oq hS => ?_)
            obtain ⟨G_36, eG_36⟩ : ∃ z : Gh, z = gset G_23 128 x_35 := ⟨_, rfl⟩
            have hH : HT g Ty G_36 H := by rw [eG_36]; exact HT.putN 128 x_35 hH k_h0 ⟨rfl, t_32, hk_33⟩ o_c_31 oq (Or.inr (Or.inr (Or.inr (Or.inr (Or.inr ⟨by decide, t_32⟩)))))
            have fr_37 : FR [128] [b0] [] G G_36 := FR.n fr_27 eG_36 (by decide)
            have u_38 : G_36.1 128 = x_35 := by rw [eG_36]; exact gs_eq
            have w_39 : G_36.2.1 b0 = f_24 := by rw [eG_36]; exact w_28
            have w_40 : G_36.2.1 (g.2.2 129) = (G.2.1 (g.2.2 129)) := by rw [eG_36]; exact w_29
            clear oq hz
            refine lv_aload_n hx hb dX12_goInside_87 rfl (lv_at hl 2 rfl) ?_
            refine lv_aload_n hx hb dX12_goInside_88 rfl (lv_at hl 3 rfl) ?_
            refine lv_iload hx hb dX12_goInside_89 (lv_at hl 1 rfl) ?_
            refine lv_iload hx hb dX12_goInside_91 (lv_at hl 0 rfl) ?_
            obtain ⟨_, ⟨rfl, t_42, hk_43⟩, o_c_41⟩ := hH h0 _ k_h0
            refine va_callv (va_runV (As := [.ref b0, .int x_7, .int x_22]) (rest := []) ⟨hx, hb, hml, hown, hts⟩ (ihr Ty G_36 H.size h0 b0 x_7 x_22 k_h0 k_b0 (rg_w r_12 (by decide) (by decide)) hb9 ρ (by rw [w_40]; exact hT) (by rw [w_40]; exact hUB) (by rw [w_40]; exact ch_17.1) τ NN (by rw [w_39]; exact gc_30.1) (by rw [w_39]; exact gc_30.2.1) (by rw [w_40]; exact hPV) (by rw [w_39, w_40]; exact gc_30.2.2.2.2) (by have q1 := ch_17.2.1; have q2 := hT.2.2 (x_7 : Int32).toNatClampNeg; omega)) (cwV 3 hts (gwV mw_1632 mw_1634 mw_61 mw_88 mw_1635) rfl rfl rfl hv_X12_goInside ⟨Nat.le_refl _, by show 26 + (46 + 26 * nr) ≤ 46 + 26 * (nr + 1); omega⟩) ⟨PcT_blind, hg_recv hK o_c_41 rfl, PcT_pre hK hH⟩ rfl rfl hl.1 rfl (lv_room (Nat.le_of_ble_eq_true rfl)) dX12_goInside_93 ⟨Nat.zero_le _, Nat.zero_le _⟩) hS (fun q _ h => AF.mono hS.1 h) (fun q h => AF.mono hS.1 h) (fun ux_44 t H locs ht hvm hx_44 hB hz hk hS => ?_)
            obtain ⟨eTx_44, eGx_44⟩ := hx_44
            obtain ⟨G_45, eG_45⟩ : ∃ z, z = ux_44.2 := ⟨_, rfl⟩
            rw [← eG_45] at eGx_44
            obtain ⟨hfr_46, hex_47⟩ := eGx_44
            have fr_48 : FR [128] [b0] [] G G_45 := FR.tr fr_37 hfr_46 (by decide) (fun b h => ⟨h.1, trivial⟩) (by decide)
            have w_49 : G_45.2.1 (g.2.2 129) = (G.2.1 (g.2.2 129)) := (hfr_46.2.1 (g.2.2 129) ⟨(Ne.symm hb9), trivial⟩).trans w_40
            obtain ⟨f_50, ef_50⟩ : ∃ z : Nat → Int32, G_45.2.1 b0 = z := ⟨_, rfl⟩
            have gi_51 := hex_47
            rw [ef_50, w_39, w_40] at gi_51
            have hH : HT g Ty G_45 H := by rw [← ht, ← eTx_44, eG_45]; exact hB
            obtain ⟨x_52, ex_52⟩ : ∃ y : Int32, y = y4_3 + 1 := ⟨_, rfl⟩
            have rx_52 : rgI (1) (4) x_52 := by rw [ex_52]; exact rg_w (rg_add r_3 rl_1 (by decide) (by decide)) (by decide) (by decide)
            have qx_52 : x_52.toInt = (y4_3 : Int32).toInt + 1 := by rw [ex_52]; exact rg_addE r_3 rl_1 (by decide) (by decide)
            refine lv_iinc (v := x_52) (lv' := [(4, .int x_52), (6, .int x_22), (5, .int x_7), (0, .ref h0), (1, .ref b0), (2, .int a1), (3, .int a2)]) hx hb dX12_goInside_96 hl (k := 6) rfl (by rw [ex_52]; rfl) (by decide) rfl (fun ls hl => ?_)
            refine lv_goto (tgt := 3) hx hb dX12_goInside_99 (by decide) ?_
            exact ih_3 H locs G_45 f_50 x_52 ls fr_48 ef_50 ry2_3 (rg_w rx_52 (by decide) (by decide)) (GI_s hi0_3 r_3 qx_52 (tc_3 r_3 ex_8 c_9 (ub_ne hUB ch_17.1.1 (by rw [ex_15, ex_13]) c_16)) gc_30.2.2.1 gc_30.2.2.2.1 gi_51) (by have h1 := qx_52; have h2 := r_3.1; have h3 := r_3.2; have h4 := hm_3; omega) (lv_sub hl [3, 4, 5, 6, 0] rfl) hH hS
          · have r_53 : rgI (1) (1) x_15 := rg_w (rg_eq rl_1 c_16) (by decide) (by decide)
            refine lv_goto (tgt := 96) hx hb dX12_goInside_42 (by decide) ?_
            obtain ⟨x_54, ex_54⟩ : ∃ y : Int32, y = y4_3 + 1 := ⟨_, rfl⟩
            have rx_54 : rgI (1) (4) x_54 := by rw [ex_54]; exact rg_w (rg_add r_3 rl_1 (by decide) (by decide)) (by decide) (by decide)
            have qx_54 : x_54.toInt = (y4_3 : Int32).toInt + 1 := by rw [ex_54]; exact rg_addE r_3 rl_1 (by decide) (by decide)
            refine lv_iinc (v := x_54) (lv' := [(4, .int x_54), (5, .int x_7), (0, .ref h0), (1, .ref b0), (2, .int a1), (3, .int a2)]) hx hb dX12_goInside_96 hl (k := 5) rfl (by rw [ex_54]; rfl) (by decide) rfl (fun ls hl => ?_)
            refine lv_goto (tgt := 3) hx hb dX12_goInside_99 (by decide) ?_
            exact ih_3 H locs G_3 fl0_3 x_54 ls fr_3 efl0_3 ry2_3 (rg_w rx_54 (by decide) (by decide)) (GI_n hi0_3 r_3 qx_54 (tc_2 r_3 ex_8 c_9 (ub_eq (by rw [ex_15, ex_13]) c_16))) (by have h1 := qx_54; have h2 := r_3.1; have h3 := r_3.2; have h4 := hm_3; omega) (lv_sub hl [2, 3, 4, 5, 0] rfl) hH hS
  refine lv_iconst (v := 0) hx hb dX12_goInside_0 (by decide) ?_
  refine lv_istore (lv' := [(4, .int 0), (0, .ref h0), (1, .ref b0), (2, .int a1), (3, .int a2)]) hx hb dX12_goInside_1 hl (by decide) rfl (fun ls hl => ?_)
  exact L_3 _ s.heap [] G (G.2.1 b0) 0 ls FR.rf rfl pr1 (rg_w rl_0 (by decide) (by decide)) (GI_0 hTS) (Nat.lt_succ_self _) (lv_sub hl [1, 2, 3, 4, 0] rfl) hH hS
