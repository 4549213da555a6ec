theorem lm_r {l a : Int32} (h : 0 ≤ l.toInt ∧ l.toInt ≤ a.toInt + 1) (ha : rgI 0 80 a) : rgI 0 81 l := ⟨h.1, by have := h.2; have := ha.2; omega⟩
theorem rp_mono {L cur : Nat → Int32} {lm0 lm at0 a a1 : Int32} {P Q : Prop} (h : RP7 L cur lm0 lm at0 a) (ho : a1.toInt ≤ a.toInt + 1 ∧ a.toInt ≤ a1.toInt ∧ P ∧ Q) (h0 : 0 ≤ lm0.toInt) : at0.toInt ≤ a1.toInt := by
  have := h.2.1; have := h.2.2; have := ho.2.1; omega

set_option maxHeartbeats 4000000 in
set_option maxRecDepth 100000 in
theorem c_X12_readPath (l : Launch) (g : Gx) (Ty : TyM) (G : Gh) (sz : Nat) (h0 : Nat) (k_h0 : Ty h0 = some (22, 0)) (r6 : G.2.2 106 = some (g.2.2 101)) (r7 : rgI 0 80 (G.1 107)) (r9 : rgI 0 80 (G.1 109)) (w0 : WR (G.1 110)) (hLD : LD g) (hlm : 0 ≤ (G.1 117).toInt ∧ (G.1 117).toInt ≤ (G.1 109).toInt + 1) : Met l yX12_readPath (wsG yX12_readPath cX12_readPath 3 (some .int)) ({ frames := 3, cells := 0, slots := 0, locals := 63 }) (PcT g Ty G sz [.ref h0]) (QwI g Ty sz (fun r u => u.1 = Ty ∧ FR [109, 110, 117] [(g.2.2 116)] [] G u.2 ∧ (RPO (G.2.1 (g.2.2 116)) (u.2.2.1 (g.2.2 116)) (G.1 117) (u.2.1 117) (G.1 109) (u.2.1 109) (u.2.1 110) ∧ WR (u.2.1 110) ∧ rgI 0 80 (u.2.1 109) ∧ (G.1 109).toInt ≤ (u.2.1 109).toInt ∧ r = G.1 117))) 0 0 (AF Ty sz) := by
  refine Met.ofW (cc := cX12_readPath) (maxL := 3) (ret := (some .int)) (by decide) rfl ?_
  intro p e s m args below meth c s₁ B hml hv
  obtain ⟨rfl, hsz, hK, hH⟩ := hv
  subst hsz
  have hx := B.exec
  have hb := B.bytes
  have hr := B.returns
  have hts := atoms_spec (ws := (wsG yX12_readPath cX12_readPath 3 (some .int))) B.pre
  have hG : ∀ w ∈ GW, w.before ([.ref h0] : List Value).toArray s = true := fun w h => hts w (List.mem_cons_of_mem _ h)
  have hown : s.vm.findClass RX12 = some m.cls := findClass_of_methodNamed B.named
  have hlocks := B.notSynchronized
  have hl := lv_entry [.ref h0] (n := 3) (Nat.le_of_ble_eq_true rfl)
  rw [lg_entry_eq]
  generalize (lg_sl [.ref h0] ++ List.replicate (3 - (lg_sl [.ref h0]).length) Slot.unset).toArray = ls at hl ⊢
  have hl : lv_has ls 3 [(0, .ref h0)] := hl
  have hmk : mdK g Ty := mdk_of hH k_h0
  have hS : va_S (AF Ty s.heap.size) s.heap s.heap [] := va_S.rf
  have L_7 : ∀ (n : Nat) (H : Heap) (locs : List Loc) (G_7 : Gh) (fl0_7 : Nat → Int32) (y1_7 : Int32) (y2_7 : Int32) (ls : Array Slot), rgI (0) (81) (G_7.1 117) → rgI (0) (80) (G_7.1 109) → FR [109, 110, 117] [(g.2.2 116)] [] G G_7 → G_7.2.1 (g.2.2 116) = fl0_7 → rgI (0) (81) y1_7 → RP7 (G.2.1 (g.2.2 116)) fl0_7 (G.1 117) (G_7.1 117) (G.1 109) (G_7.1 109) → WR (G_7.1 110) → y1_7 = (G.1 117) → (81 - (G_7.1 109).toInt).toNat < n → lv_has ls 3 [(0, .ref h0), (1, .int y1_7), (2, .int y2_7)] → HT g Ty G_7 H → va_S (AF Ty s.heap.size) s.heap H locs → Wm p l e (wsG yX12_readPath cX12_readPath 3 (some .int)) ({ frames := 3, cells := 0, slots := 0, locals := 63 }) s m [.ref h0] below meth c H locs (0) (0) (QwI g Ty s.heap.size (fun r u => u.1 = Ty ∧ FR [109, 110, 117] [(g.2.2 116)] [] G u.2 ∧ (RPO (G.2.1 (g.2.2 116)) (u.2.2.1 (g.2.2 116)) (G.1 117) (u.2.1 117) (G.1 109) (u.2.1 109) (u.2.1 110) ∧ WR (u.2.1 110) ∧ rgI 0 80 (u.2.1 109) ∧ (G.1 109).toInt ≤ (u.2.1 109).toInt ∧ r = G.1 117))) 0 0 (AF Ty s.heap.size) (F0 m 7 ls []) := by
    intro n
    induction n with
    | zero => intro H locs G_7 fl0_7 y1_7 y2_7 ls rg117_7 rg109_7 frL_7 efl0_7 ry1_7 hi0_7 hi1_7 hi2_7 hm; exact absurd hm (Nat.not_lt_zero _)
    | succ n ih_7 =>
      intro H locs G_7 fl0_7 y1_7 y2_7 ls rg117_7 rg109_7 frL_7 efl0_7 ry1_7 hi0_7 hi1_7 hi2_7 hm_7 hl hH hS
      refine lv_iload_n hx hb dX12_readPath_7 rfl (lv_at hl 2 rfl) ?_
      refine lv_bipush (v := 12) hx hb dX12_readPath_8 (by decide) ?_
      refine lv_icmp_ne (tgt := 21) hx hb dX12_readPath_10 (by decide) (fun c_1 => ?_) (fun c_1 => ?_)
      · refine lv_aload_n hx hb dX12_readPath_21 rfl (lv_at hl 0 rfl) ?_
        obtain ⟨_, ⟨rfl, t_3, hk_4⟩, o_c_2⟩ := hH h0 _ k_h0
        refine hg_get hx hb hG igX12 hown hK o_c_2 rfl 16 (by decide) (hG _ mw_1300) rfl dX12_readPath_22 ?_
        refine lv_aload_n hx hb dX12_readPath_25 rfl (lv_at hl 0 rfl) ?_
        refine hg_get hx hb hG igX12 hown hK o_c_2 rfl 17 (by decide) (hG _ mw_1301) rfl dX12_readPath_26 ?_
        refine lv_aload_n hx hb dX12_readPath_29 rfl (lv_at hl 0 rfl) ?_
        refine lv_bipush (v := 97) hx hb dX12_readPath_30 (by decide) ?_
        refine lv_iconst (v := 4) hx hb dX12_readPath_32 (by decide) ?_
        refine va_calli (va_runV (As := [.int 97, .int 4]) (rest := [.int (G_7.1 117), .ref (g.2.2 116)]) ⟨hx, hb, hml, hown, hts⟩ (c_X12_oneOf l g Ty G_7 H.size h0 97 4 k_h0 (rg_w rl_97 (by decide) (by decide)) (rg_w rl_4 (by decide) (by decide)) (g.2.2 101) 80 (G_7.2.1 (g.2.2 101)) (G_7.2.1 (g.2.2 115)) (G.1 107) (G.1 108) (G_7.1 114) 80 (G_7.1 109) (G_7.1 110) ⟨((frL_7.2.2 106 (by decide)).trans r6), hmk.2.1, rfl, (fun _ _ => rfl), (frL_7.1 107 (by decide)), (frL_7.1 108 (by decide)), rfl, rfl, rfl, (rg_w r7 (by decide) (by decide)), by decide, Or.inl (show ((G.1 107) : Int32).toInt ≤ 80 from (rg_w (a2 := 0) (b2 := 80) r7 (by decide) (by decide)).2), by decide, by decide, (rg_w rg109_7 (by decide) (by decide))⟩) (cwV 2 hts (gwV mw_1483 mw_1485 mw_44 mw_88 mw_1486) rfl rfl rfl hv_X12_oneOf ⟨Nat.le_of_ble_eq_true rfl, Nat.le_of_ble_eq_true rfl⟩) ⟨PcT_blind, hg_recv hK o_c_2 rfl, PcT_pre hK hH⟩ rfl rfl hl.1 rfl (lv_room (Nat.le_of_ble_eq_true rfl)) dX12_readPath_33 ⟨Nat.zero_le _, Nat.zero_le _⟩) hS (fun q _ h => AF.mono hS.1 h) (fun q h => AF.mono hS.1 h) (fun x_5 ux_5 t H locs ht hvm hx_5 hB hz hk hS => ?_)
        obtain ⟨eTx_5, eGx_5⟩ := hx_5
        obtain ⟨G_6, eG_6⟩ : ∃ z, z = ux_5.2 := ⟨_, rfl⟩
        rw [← eG_6] at eGx_5
        have pq_7 := one_pr eGx_5 (rg_w rg109_7 (by decide) (by decide))
        obtain ⟨hr_8, hg_9, hm_10, hq_11⟩ := eGx_5
        have hfr_12 : FR [109, 110] [] [] G_7 G_6 := FR.ps FR.rf hg_9 (by decide) (by decide)
        have fr_13 : FR [109, 110, 117] [(g.2.2 116)] [] G G_6 := FR.tr frL_7 hfr_12 (by decide) (fun _ _ => trivial) (by decide)
        have u_14 : G_6.1 117 = (G_7.1 117) := (hfr_12.1 117 (by decide))
        have u_15 : G_6.1 107 = (G.1 107) := (hfr_12.1 107 (by decide)).trans (frL_7.1 107 (by decide))
        have u_16 : G_6.1 108 = (G.1 108) := (hfr_12.1 108 (by decide)).trans (frL_7.1 108 (by decide))
        have w_17 : G_6.2.1 (g.2.2 116) = fl0_7 := (hfr_12.2.1 (g.2.2 116) trivial).trans efl0_7
        have u_18 : G_6.2.2 106 = some (g.2.2 101) := (hfr_12.2.2 106 (by decide)).trans ((frL_7.2.2 106 (by decide)).trans r6)
        obtain ⟨xw_19, exw_19⟩ : ∃ z : Int32, G_6.1 110 = z := ⟨_, rfl⟩
        obtain ⟨xa_20, exa_20⟩ : ∃ z : Int32, G_6.1 109 = z := ⟨_, rfl⟩
        have r9_21 : rgI 0 80 xa_20 := by rw [← exa_20, pst109 hg_9]; exact hq_11
        rw [exa_20, exw_19] at pq_7
        have hH : HT g Ty G_6 H := by rw [← ht, ← eTx_5, eG_6]; exact hB
        refine lv_i2b hx hb dX12_readPath_36 rfl ?_
        refine lv_topi (fun x_22 ex_22 => ?_)
        obtain ⟨_, rfl, o_c_23⟩ := hH (g.2.2 116) _ hk_4.2.2.2.2.1
        have o_c_23 : va_at g.1 vwCl ((g.2.2 116), .inl (g.2.1 0, 160, .inl (G_6.2.1 (g.2.2 116)))) H := o_c_23
        refine hg_bast hx hb hK hS o_c_23 (AF.of hk_4.2.2.2.2.1) (rg_in (n := 160) rg117_7 (by decide) (by decide)) dX12_readPath_37 (fun H locs o_c_23 hz oq hS => ?_)
        obtain ⟨G_24, eG_24⟩ : ∃ z : Gh, z = aset G_6 (g.2.2 116) (upd (G_6.2.1 (g.2.2 116)) ((G_7.1 117) : Int32).toNatClampNeg (vp_nar .byte x_22)) := ⟨_, rfl⟩
        have hH : HT g Ty G_24 H := by rw [eG_24]; exact HT.putA (upd (G_6.2.1 (g.2.2 116)) ((G_7.1 117) : Int32).toNatClampNeg (vp_nar .byte x_22)) hH hk_4.2.2.2.2.1 cf31 o_c_23 oq
        obtain ⟨f_25, ef_25⟩ : ∃ z : Nat → Int32, z = (upd fl0_7 ((G_7.1 117) : Int32).toNatClampNeg (vp_nar .byte x_22)) := ⟨_, rfl⟩
        have eaf_25 : G_24 = aset G_6 (g.2.2 116) f_25 := by rw [eG_24, ef_25, w_17]
        have fr_26 : FR [109, 110, 117] [(g.2.2 116)] [] G G_24 := FR.a fr_13 eaf_25 (fun b h => h.1)
        have u_27 : G_24.1 117 = (G_7.1 117) := by rw [eaf_25]; exact u_14
        have u_28 : G_24.1 107 = (G.1 107) := by rw [eaf_25]; exact u_15
        have u_29 : G_24.1 108 = (G.1 108) := by rw [eaf_25]; exact u_16
        have u_30 : G_24.1 110 = xw_19 := by rw [eaf_25]; exact exw_19
        have u_31 : G_24.1 109 = xa_20 := by rw [eaf_25]; exact exa_20
        have w_32 : G_24.2.1 (g.2.2 116) = f_25 := by rw [eaf_25]; exact aset_eq
        have u_33 : G_24.2.2 106 = some (g.2.2 101) := by rw [eaf_25]; exact u_18
        clear oq hz
        refine lv_aload_n hx hb dX12_readPath_38 rfl (lv_at hl 0 rfl) ?_
        refine lv_dup hx hb dX12_readPath_39 rfl ?_
        obtain ⟨_, ⟨rfl, t_35, hk_36⟩, o_c_34⟩ := hH h0 _ k_h0
        refine hg_get hx hb hG igX12 hown hK o_c_34 rfl 17 (by decide) (hG _ mw_1301) rfl dX12_readPath_40 ?_
        rw [u_27]
        refine lv_iconst (v := 1) hx hb dX12_readPath_43 (by decide) ?_
        refine lv_iadd hx hb dX12_readPath_44 ?_
        refine lv_topi (fun x_37 ex_37 => ?_)
        have rx_37 : rgI (1) (82) x_37 := by rw [ex_37]; exact rg_w (rg_add rg117_7 rl_1 (by decide) (by decide)) (by decide) (by decide)
        have qx_37 : x_37.toInt = ((G_7.1 117) : Int32).toInt + 1 := by rw [ex_37]; exact rg_addE rg117_7 rl_1 (by decide) (by decide)
        refine hg_put (ty := .int) hx hb hG igX12 tyX12 tyX12_ok nmX12 hown hK hS o_c_34 (AF.of k_h0) rfl 17 (by decide) (hG _ mw_1301) rfl (by decide +kernel) rfl rfl (Nat.le_of_ble_eq_true rfl) dX12_readPath_45 (fun H locs o_c_34 hz oq hS => ?_)
        obtain ⟨G_38, eG_38⟩ : ∃ z : Gh, z = gset G_24 117 x_37 := ⟨_, rfl⟩
        have hH : HT g Ty G_38 H := by rw [eG_38]; exact HT.putN 117 x_37 hH k_h0 ⟨rfl, t_35, hk_36⟩ o_c_34 oq (Or.inr (Or.inr (Or.inr (Or.inr (Or.inr ⟨by decide, t_35⟩)))))
        have fr_39 : FR [109, 110, 117] [(g.2.2 116)] [] G G_38 := FR.n fr_26 eG_38 (by decide)
        have u_40 : G_38.1 107 = (G.1 107) := by rw [eG_38]; exact (gs_ne (by decide)).trans u_28
        have u_41 : G_38.1 108 = (G.1 108) := by rw [eG_38]; exact (gs_ne (by decide)).trans u_29
        have u_42 : G_38.1 110 = xw_19 := by rw [eG_38]; exact (gs_ne (by decide)).trans u_30
        have u_43 : G_38.1 109 = xa_20 := by rw [eG_38]; exact (gs_ne (by decide)).trans u_31
        have u_44 : G_38.1 117 = x_37 := by rw [eG_38]; exact gs_eq
        have w_45 : G_38.2.1 (g.2.2 116) = f_25 := by rw [eG_38]; exact w_32
        have u_46 : G_38.2.2 106 = some (g.2.2 101) := by rw [eG_38]; exact u_33
        clear oq hz
        obtain ⟨x_47, ex_47⟩ : ∃ y : Int32, y = y2_7 + 1 := ⟨_, rfl⟩
        refine lv_iinc (v := x_47) (lv' := [(2, .int x_47), (0, .ref h0), (1, .int y1_7)]) hx hb dX12_readPath_48 hl (k := 2) rfl (by rw [ex_47]; rfl) (by decide) rfl (fun ls hl => ?_)
        have rpe_48 : RPE (G.2.1 (g.2.2 116)) f_25 (G.1 117) x_37 (G.1 109) xa_20 xw_19 := rp_s hi0_7 hlm.1 hlm.2 rg109_7 ef_25 ex_37 ⟨pq_7.1, pq_7.2.1, fun w => (pq_7.2.2.1 w).1⟩
        have wr_49 : WR xw_19 := pq_7.2.2.2 hi1_7
        refine lv_aload_n hx hb dX12_readPath_51 rfl (lv_at hl 1 rfl) ?_
        obtain ⟨_, ⟨rfl, t_51, hk_52⟩, o_c_50⟩ := hH h0 _ k_h0
        refine vp_callSi (W.runV (As := []) (rest := []) ⟨hx, hb, hml, hown, hts⟩ (c_X12_fine_p l g Ty G_38 h0 k_h0 (g.2.2 101) 80 (G_38.2.1 (g.2.2 101)) (G_38.2.1 (g.2.2 115)) (G.1 107) (G.1 108) (G_38.1 114) 80 xa_20 xw_19 ⟨u_46, hmk.2.1, rfl, (fun _ _ => rfl), u_40, u_41, rfl, u_43, u_42, (rg_w r7 (by decide) (by decide)), by decide, Or.inl (show ((G.1 107) : Int32).toInt ≤ 80 from (rg_w (a2 := 0) (b2 := 80) r7 (by decide) (by decide)).2), by decide, by decide, (rg_w r9_21 (by decide) (by decide))⟩) (cwV 0 hts (gwV mw_1463 mw_1465 mw_39 mw_88 mw_1466) rfl rfl rfl hv_X12_fine ⟨Nat.le_of_ble_eq_true rfl, Nat.le_of_ble_eq_true rfl⟩) ⟨PcH_blind, hg_recv hK o_c_50 rfl, PcH_pre hK hH⟩ rfl rfl hl.1 rfl (lv_room (Nat.le_of_ble_eq_true rfl)) dX12_readPath_52 ⟨Nat.zero_le _, Nat.zero_le _⟩) (fun x_53 hx_53 => ?_)
        have rx_53 : rgI (0) (1) x_53 := hx_53.1
        refine lv_if_eq (tgt := 72) hx hb dX12_readPath_55 (by decide) (fun c_54 => ?_) (fun c_54 => ?_)
        · have r_55 : rgI (0) (0) x_53 := rg_w (rg_eq rl_0 c_54) (by decide) (by decide)
          refine lv_aload_n hx hb dX12_readPath_72 rfl (lv_at hl 1 rfl) ?_
          refine hg_get hx hb hG igX12 hown hK o_c_50 rfl 16 (by decide) (hG _ mw_1300) rfl dX12_readPath_73 ?_
          refine lv_aload_n hx hb dX12_readPath_76 rfl (lv_at hl 1 rfl) ?_
          refine hg_get hx hb hG igX12 hown hK o_c_50 rfl 17 (by decide) (hG _ mw_1301) rfl dX12_readPath_77 ?_
          rw [u_44]
          refine lv_iconst (v := 4) hx hb dX12_readPath_80 (by decide) ?_
          obtain ⟨_, rfl, o_c_56⟩ := hH (g.2.2 116) _ hk_52.2.2.2.2.1
          have o_c_56 : va_at g.1 vwCl ((g.2.2 116), .inl (g.2.1 0, 160, .inl (G_38.2.1 (g.2.2 116)))) H := o_c_56
          refine hg_bast hx hb hK hS o_c_56 (AF.of hk_52.2.2.2.2.1) (rg_in (n := 160) rx_37 (by decide) (by decide)) dX12_readPath_81 (fun H locs o_c_56 hz oq hS => ?_)
          obtain ⟨G_57, eG_57⟩ : ∃ z : Gh, z = aset G_38 (g.2.2 116) (upd (G_38.2.1 (g.2.2 116)) (x_37 : Int32).toNatClampNeg (vp_nar .byte 4)) := ⟨_, rfl⟩
          have hH : HT g Ty G_57 H := by rw [eG_57]; exact HT.putA (upd (G_38.2.1 (g.2.2 116)) (x_37 : Int32).toNatClampNeg (vp_nar .byte 4)) hH hk_52.2.2.2.2.1 cf31 o_c_56 oq
          obtain ⟨f_58, ef_58⟩ : ∃ z : Nat → Int32, z = (upd f_25 (x_37 : Int32).toNatClampNeg (vp_nar .byte 4)) := ⟨_, rfl⟩
          have eaf_58 : G_57 = aset G_38 (g.2.2 116) f_58 := by rw [eG_57, ef_58, w_45]
          have fr_59 : FR [109, 110, 117] [(g.2.2 116)] [] G G_57 := FR.a fr_39 eaf_58 (fun b h => h.1)
          have u_60 : G_57.1 107 = (G.1 107) := by rw [eaf_58]; exact u_40
          have u_61 : G_57.1 108 = (G.1 108) := by rw [eaf_58]; exact u_41
          have u_62 : G_57.1 110 = xw_19 := by rw [eaf_58]; exact u_42
          have u_63 : G_57.1 109 = xa_20 := by rw [eaf_58]; exact u_43
          have u_64 : G_57.1 117 = x_37 := by rw [eaf_58]; exact u_44
          have w_65 : G_57.2.1 (g.2.2 116) = f_58 := by rw [eaf_58]; exact aset_eq
          have u_66 : G_57.2.2 106 = some (g.2.2 101) := by rw [eaf_58]; exact u_46
          clear oq hz
          refine lv_aload_n hx hb dX12_readPath_82 rfl (lv_at hl 1 rfl) ?_
          refine lv_dup hx hb dX12_readPath_83 rfl ?_
          obtain ⟨_, ⟨rfl, t_68, hk_69⟩, o_c_67⟩ := hH h0 _ k_h0
          refine hg_get hx hb hG igX12 hown hK o_c_67 rfl 17 (by decide) (hG _ mw_1301) rfl dX12_readPath_84 ?_
          rw [u_64]
          refine lv_iconst (v := 1) hx hb dX12_readPath_87 (by decide) ?_
          refine lv_iadd hx hb dX12_readPath_88 ?_
          refine lv_topi (fun x_70 ex_70 => ?_)
          have rx_70 : rgI (2) (83) x_70 := by rw [ex_70]; exact rg_w (rg_add rx_37 rl_1 (by decide) (by decide)) (by decide) (by decide)
          have qx_70 : x_70.toInt = (x_37 : Int32).toInt + 1 := by rw [ex_70]; exact rg_addE rx_37 rl_1 (by decide) (by decide)
          refine hg_put (ty := .int) hx hb hG igX12 tyX12 tyX12_ok nmX12 hown hK hS o_c_67 (AF.of k_h0) rfl 17 (by decide) (hG _ mw_1301) rfl (by decide +kernel) rfl rfl (Nat.le_of_ble_eq_true rfl) dX12_readPath_89 (fun H locs o_c_67 hz oq hS => ?_)
          obtain ⟨G_71, eG_71⟩ : ∃ z : Gh, z = gset G_57 117 x_70 := ⟨_, rfl⟩
          have hH : HT g Ty G_71 H := by rw [eG_71]; exact HT.putN 117 x_70 hH k_h0 ⟨rfl, t_68, hk_69⟩ o_c_67 oq (Or.inr (Or.inr (Or.inr (Or.inr (Or.inr ⟨by decide, t_68⟩)))))
          have fr_72 : FR [109, 110, 117] [(g.2.2 116)] [] G G_71 := FR.n fr_59 eG_71 (by decide)
          have u_73 : G_71.1 107 = (G.1 107) := by rw [eG_71]; exact (gs_ne (by decide)).trans u_60
          have u_74 : G_71.1 108 = (G.1 108) := by rw [eG_71]; exact (gs_ne (by decide)).trans u_61
          have u_75 : G_71.1 110 = xw_19 := by rw [eG_71]; exact (gs_ne (by decide)).trans u_62
          have u_76 : G_71.1 109 = xa_20 := by rw [eG_71]; exact (gs_ne (by decide)).trans u_63
          have u_77 : G_71.1 117 = x_70 := by rw [eG_71]; exact gs_eq
          have w_78 : G_71.2.1 (g.2.2 116) = f_58 := by rw [eG_71]; exact w_65
          have u_79 : G_71.2.2 106 = some (g.2.2 101) := by rw [eG_71]; exact u_66
          clear oq hz
          refine lv_iload_n hx hb dX12_readPath_92 rfl (lv_at hl 2 rfl) ?_
          exact W.iret hx hb hr (fun t ht hWm => ⟨⟨y1_7, (Ty, G_71), rfl, ⟨rfl, ⟨fr_72, ⟨by rw [w_78, u_77, u_76, u_75]; exact rp_e rpe_48 hlm.1 hlm.2 r9_21 ef_58 ex_70, (by rw [u_75]; exact wr_49), (by rw [u_76]; exact r9_21), (by rw [u_76]; exact rp_mono hi0_7 pq_7 hlm.1), hi2_7⟩⟩⟩, by show HT g Ty G_71 t.heap; rw [ht]; exact hH⟩, hS.F ht⟩) hS.2.2 dX12_readPath_93
        · have r_80 : rgI (1) (1) x_53 := rg_w (rg_neL rx_53 rl_0 c_54) (by decide) (by decide)
          have rl_81 : rgI 0 81 x_37 := rp_ix (RPE.b rpe_48 (fin_1 hx_53.2 c_54)) hlm.1 hlm.2 r9_21
          refine lv_aload_n hx hb dX12_readPath_58 rfl (lv_at hl 1 rfl) ?_
          refine vp_callSi (W.runV (As := []) (rest := []) ⟨hx, hb, hml, hown, hts⟩ (c_X12_here l g Ty G_38 h0 k_h0 (g.2.2 101) 80 (G_38.2.1 (g.2.2 101)) (G_38.2.1 (g.2.2 115)) (G.1 107) (G.1 108) (G_38.1 114) 80 xa_20 xw_19 ⟨u_46, hmk.2.1, rfl, (fun _ _ => rfl), u_40, u_41, rfl, u_43, u_42, (rg_w r7 (by decide) (by decide)), by decide, Or.inl (show ((G.1 107) : Int32).toInt ≤ 80 from (rg_w (a2 := 0) (b2 := 80) r7 (by decide) (by decide)).2), by decide, by decide, (rg_w r9_21 (by decide) (by decide))⟩) (cwV 0 hts (gwV mw_1467 mw_1469 mw_40 mw_88 mw_1470) rfl rfl rfl hv_X12_here ⟨Nat.le_of_ble_eq_true rfl, Nat.le_of_ble_eq_true rfl⟩) ⟨PcH_blind, hg_recv hK o_c_50 rfl, PcH_pre hK hH⟩ rfl rfl hl.1 rfl (lv_room (Nat.le_of_ble_eq_true rfl)) dX12_readPath_59 ⟨Nat.zero_le _, Nat.zero_le _⟩) (fun x_82 hx_82 => ?_)
          have rx_82 : rgI (-1) (255) x_82 := hx_82.1
          refine lv_bipush (v := 97) hx hb dX12_readPath_62 (by decide) ?_
          refine lv_bipush (v := 100) hx hb dX12_readPath_64 (by decide) ?_
          refine vp_callSi (W.runS (As := [.int x_82, .int 97, .int 100]) (rest := []) ⟨hx, hb, hml, hown, hts⟩ (c_X12_in l g Ty G_38 x_82 97 100 ) (cwSx 3 hts hG (gwC mw_1426) mw_88 mw_1424 mw_1425 rfl rfl rfl hd_X12_in ⟨Nat.le_of_ble_eq_true rfl, Nat.le_of_ble_eq_true rfl⟩) ⟨PcH_blind, PcH_pre hK hH⟩ rfl rfl hl.1 rfl (lv_room (Nat.le_of_ble_eq_true rfl)) dX12_readPath_66 ⟨Nat.zero_le _, Nat.zero_le _⟩) (fun x_83 hx_83 => ?_)
          have rx_83 : rgI (0) (1) x_83 := hx_83.1
          refine lv_if_ne (tgt := 7) hx hb dX12_readPath_69 (by decide) (fun c_84 => ?_) (fun c_84 => ?_)
          · have r_85 : rgI (1) (1) x_83 := rg_w (rg_neL rx_83 rl_0 c_84) (by decide) (by decide)
            exact ih_7 H locs G_38 f_25 y1_7 x_47 ls (by rw [u_44]; exact rg_w rl_81 (by decide) (by decide)) (by rw [u_43]; exact rg_w r9_21 (by decide) (by decide)) fr_39 w_45 ry1_7 (by rw [u_44, u_43]; exact (RPE.b rpe_48 (fin_1 hx_53.2 c_54))) (by rw [u_42]; exact (Or.inl (fin_1 hx_53.2 c_54))) hi2_7 (by have q := (pq_7.2.2.1 (fin_1 hx_53.2 c_54)).1; have q2 := (rg109_7).2; have q3 := hm_7; show (81 - (G_38.1 109).toInt).toNat < _; rw [u_43]; omega) (lv_sub hl [1, 2, 0] rfl) hH hS
          · have r_86 : rgI (0) (0) x_83 := rg_w (rg_eq rl_0 c_84) (by decide) (by decide)
            refine lv_aload_n hx hb dX12_readPath_72 rfl (lv_at hl 1 rfl) ?_
            refine hg_get hx hb hG igX12 hown hK o_c_50 rfl 16 (by decide) (hG _ mw_1300) rfl dX12_readPath_73 ?_
            refine lv_aload_n hx hb dX12_readPath_76 rfl (lv_at hl 1 rfl) ?_
            refine hg_get hx hb hG igX12 hown hK o_c_50 rfl 17 (by decide) (hG _ mw_1301) rfl dX12_readPath_77 ?_
            rw [u_44]
            refine lv_iconst (v := 4) hx hb dX12_readPath_80 (by decide) ?_
            obtain ⟨_, rfl, o_c_87⟩ := hH (g.2.2 116) _ hk_52.2.2.2.2.1
            have o_c_87 : va_at g.1 vwCl ((g.2.2 116), .inl (g.2.1 0, 160, .inl (G_38.2.1 (g.2.2 116)))) H := o_c_87
            refine hg_bast hx hb hK hS o_c_87 (AF.of hk_52.2.2.2.2.1) (rg_in (n := 160) rx_37 (by decide) (by decide)) dX12_readPath_81 (fun H locs o_c_87 hz oq hS => ?_)
            obtain ⟨G_88, eG_88⟩ : ∃ z : Gh, z = aset G_38 (g.2.2 116) (upd (G_38.2.1 (g.2.2 116)) (x_37 : Int32).toNatClampNeg (vp_nar .byte 4)) := ⟨_, rfl⟩
            have hH : HT g Ty G_88 H := by rw [eG_88]; exact HT.putA (upd (G_38.2.1 (g.2.2 116)) (x_37 : Int32).toNatClampNeg (vp_nar .byte 4)) hH hk_52.2.2.2.2.1 cf31 o_c_87 oq
            obtain ⟨f_89, ef_89⟩ : ∃ z : Nat → Int32, z = (upd f_25 (x_37 : Int32).toNatClampNeg (vp_nar .byte 4)) := ⟨_, rfl⟩
            have eaf_89 : G_88 = aset G_38 (g.2.2 116) f_89 := by rw [eG_88, ef_89, w_45]
            have fr_90 : FR [109, 110, 117] [(g.2.2 116)] [] G G_88 := FR.a fr_39 eaf_89 (fun b h => h.1)
            have u_91 : G_88.1 107 = (G.1 107) := by rw [eaf_89]; exact u_40
            have u_92 : G_88.1 108 = (G.1 108) := by rw [eaf_89]; exact u_41
            have u_93 : G_88.1 110 = xw_19 := by rw [eaf_89]; exact u_42
            have u_94 : G_88.1 109 = xa_20 := by rw [eaf_89]; exact u_43
            have u_95 : G_88.1 117 = x_37 := by rw [eaf_89]; exact u_44
            have w_96 : G_88.2.1 (g.2.2 116) = f_89 := by rw [eaf_89]; exact aset_eq
            have u_97 : G_88.2.2 106 = some (g.2.2 101) := by rw [eaf_89]; exact u_46
            clear oq hz
            refine lv_aload_n hx hb dX12_readPath_82 rfl (lv_at hl 1 rfl) ?_
            refine lv_dup hx hb dX12_readPath_83 rfl ?_
            obtain ⟨_, ⟨rfl, t_99, hk_100⟩, o_c_98⟩ := hH h0 _ k_h0
            refine hg_get hx hb hG igX12 hown hK o_c_98 rfl 17 (by decide) (hG _ mw_1301) rfl dX12_readPath_84 ?_
            rw [u_95]
            refine lv_iconst (v := 1) hx hb dX12_readPath_87 (by decide) ?_
            refine lv_iadd hx hb dX12_readPath_88 ?_
            refine lv_topi (fun x_101 ex_101 => ?_)
            have rx_101 : rgI (1) (82) x_101 := by rw [ex_101]; exact rg_w (rg_add rl_81 rl_1 (by decide) (by decide)) (by decide) (by decide)
            have qx_101 : x_101.toInt = (x_37 : Int32).toInt + 1 := by rw [ex_101]; exact rg_addE rl_81 rl_1 (by decide) (by decide)
            refine hg_put (ty := .int) hx hb hG igX12 tyX12 tyX12_ok nmX12 hown hK hS o_c_98 (AF.of k_h0) rfl 17 (by decide) (hG _ mw_1301) rfl (by decide +kernel) rfl rfl (Nat.le_of_ble_eq_true rfl) dX12_readPath_89 (fun H locs o_c_98 hz oq hS => ?_)
            obtain ⟨G_102, eG_102⟩ : ∃ z : Gh, z = gset G_88 117 x_101 := ⟨_, rfl⟩
            have hH : HT g Ty G_102 H := by rw [eG_102]; exact HT.putN 117 x_101 hH k_h0 ⟨rfl, t_99, hk_100⟩ o_c_98 oq (Or.inr (Or.inr (Or.inr (Or.inr (Or.inr ⟨by decide, t_99⟩)))))
            have fr_103 : FR [109, 110, 117] [(g.2.2 116)] [] G G_102 := FR.n fr_90 eG_102 (by decide)
            have u_104 : G_102.1 107 = (G.1 107) := by rw [eG_102]; exact (gs_ne (by decide)).trans u_91
            have u_105 : G_102.1 108 = (G.1 108) := by rw [eG_102]; exact (gs_ne (by decide)).trans u_92
            have u_106 : G_102.1 110 = xw_19 := by rw [eG_102]; exact (gs_ne (by decide)).trans u_93
            have u_107 : G_102.1 109 = xa_20 := by rw [eG_102]; exact (gs_ne (by decide)).trans u_94
            have u_108 : G_102.1 117 = x_101 := by rw [eG_102]; exact gs_eq
            have w_109 : G_102.2.1 (g.2.2 116) = f_89 := by rw [eG_102]; exact w_96
            have u_110 : G_102.2.2 106 = some (g.2.2 101) := by rw [eG_102]; exact u_97
            clear oq hz
            refine lv_iload_n hx hb dX12_readPath_92 rfl (lv_at hl 2 rfl) ?_
            exact W.iret hx hb hr (fun t ht hWm => ⟨⟨y1_7, (Ty, G_102), rfl, ⟨rfl, ⟨fr_103, ⟨by rw [w_109, u_108, u_107, u_106]; exact rp_e rpe_48 hlm.1 hlm.2 r9_21 ef_89 ex_101, (by rw [u_106]; exact wr_49), (by rw [u_107]; exact r9_21), (by rw [u_107]; exact rp_mono hi0_7 pq_7 hlm.1), hi2_7⟩⟩⟩, by show HT g Ty G_102 t.heap; rw [ht]; exact hH⟩, hS.F ht⟩) hS.2.2 dX12_readPath_93
      · have r_111 : rgI (12) (12) y2_7 := rg_w (rg_eq rl_12 c_1) (by decide) (by decide)
        refine lv_aload_n hx hb dX12_readPath_13 rfl (lv_at hl 0 rfl) ?_
        refine lv_aload_n hx hb dX12_readPath_14 rfl (lv_at hl 0 rfl) ?_
        obtain ⟨_, ⟨rfl, t_113, hk_114⟩, o_c_112⟩ := hH h0 _ k_h0
        refine hg_get hx hb hG igX12 hown hK o_c_112 rfl 9 (by decide) (hG _ mw_1293) rfl dX12_readPath_15 ?_
        refine va_callv (va_runV (As := [.int (G_7.1 109)]) (rest := []) ⟨hx, hb, hml, hown, hts⟩ (c_X12_fault_p l g Ty G_7 H.size h0 (G_7.1 109) k_h0 (g.2.2 101) 80 (G_7.2.1 (g.2.2 101)) (G_7.2.1 (g.2.2 115)) (G.1 107) (G.1 108) (G_7.1 114) 80 (G_7.1 109) (G_7.1 110) ⟨((frL_7.2.2 106 (by decide)).trans r6), hmk.2.1, rfl, (fun _ _ => rfl), (frL_7.1 107 (by decide)), (frL_7.1 108 (by decide)), rfl, rfl, rfl, (rg_w r7 (by decide) (by decide)), by decide, Or.inl (show ((G.1 107) : Int32).toInt ≤ 80 from (rg_w (a2 := 0) (b2 := 80) r7 (by decide) (by decide)).2), by decide, by decide, (rg_w rg109_7 (by decide) (by decide))⟩) (cwV 1 hts (gwV mw_1475 mw_1477 mw_42 mw_88 mw_1478) rfl rfl rfl hv_X12_fault ⟨Nat.le_of_ble_eq_true rfl, Nat.le_of_ble_eq_true rfl⟩) ⟨PcT_blind, hg_recv hK o_c_112 rfl, PcT_pre hK hH⟩ rfl rfl hl.1 rfl (lv_room (Nat.le_of_ble_eq_true rfl)) dX12_readPath_18 ⟨Nat.zero_le _, Nat.zero_le _⟩) hS (fun q _ h => AF.mono hS.1 h) (fun q h => AF.mono hS.1 h) (fun ux_115 t H locs ht hvm hx_115 hB hz hk hS => ?_)
        obtain ⟨eTx_115, eGx_115⟩ := hx_115
        obtain ⟨G_116, eG_116⟩ : ∃ z, z = ux_115.2 := ⟨_, rfl⟩
        rw [← eG_116] at eGx_115
        have pq_117 := flt_pr eGx_115 (rg_w rg109_7 (by decide) (by decide))
        obtain ⟨hg_119, hm_120, hq_121⟩ := eGx_115
        have hfr_122 : FR [109, 110] [] [] G_7 G_116 := FR.ps FR.rf hg_119 (by decide) (by decide)
        have fr_123 : FR [109, 110, 117] [(g.2.2 116)] [] G G_116 := FR.tr frL_7 hfr_122 (by decide) (fun _ _ => trivial) (by decide)
        have u_124 : G_116.1 117 = (G_7.1 117) := (hfr_122.1 117 (by decide))
        have u_125 : G_116.1 107 = (G.1 107) := (hfr_122.1 107 (by decide)).trans (frL_7.1 107 (by decide))
        have u_126 : G_116.1 108 = (G.1 108) := (hfr_122.1 108 (by decide)).trans (frL_7.1 108 (by decide))
        have w_127 : G_116.2.1 (g.2.2 116) = fl0_7 := (hfr_122.2.1 (g.2.2 116) trivial).trans efl0_7
        have u_128 : G_116.2.2 106 = some (g.2.2 101) := (hfr_122.2.2 106 (by decide)).trans ((frL_7.2.2 106 (by decide)).trans r6)
        obtain ⟨xw_129, exw_129⟩ : ∃ z : Int32, G_116.1 110 = z := ⟨_, rfl⟩
        have e9_130 := pq_117.1
        rw [exw_129] at pq_117
        have hH : HT g Ty G_116 H := by rw [← ht, ← eTx_115, eG_116]; exact hB
        refine lv_aload_n hx hb dX12_readPath_21 rfl (lv_at hl 0 rfl) ?_
        obtain ⟨_, ⟨rfl, t_132, hk_133⟩, o_c_131⟩ := hH h0 _ k_h0
        refine hg_get hx hb hG igX12 hown hK o_c_131 rfl 16 (by decide) (hG _ mw_1300) rfl dX12_readPath_22 ?_
        refine lv_aload_n hx hb dX12_readPath_25 rfl (lv_at hl 0 rfl) ?_
        refine hg_get hx hb hG igX12 hown hK o_c_131 rfl 17 (by decide) (hG _ mw_1301) rfl dX12_readPath_26 ?_
        rw [u_124]
        refine lv_aload_n hx hb dX12_readPath_29 rfl (lv_at hl 0 rfl) ?_
        refine lv_bipush (v := 97) hx hb dX12_readPath_30 (by decide) ?_
        refine lv_iconst (v := 4) hx hb dX12_readPath_32 (by decide) ?_
        refine va_calli (va_runV (As := [.int 97, .int 4]) (rest := [.int (G_7.1 117), .ref (g.2.2 116)]) ⟨hx, hb, hml, hown, hts⟩ (c_X12_oneOf l g Ty G_116 H.size h0 97 4 k_h0 (rg_w rl_97 (by decide) (by decide)) (rg_w rl_4 (by decide) (by decide)) (g.2.2 101) 80 (G_116.2.1 (g.2.2 101)) (G_116.2.1 (g.2.2 115)) (G.1 107) (G.1 108) (G_116.1 114) 80 (G_7.1 109) xw_129 ⟨u_128, hmk.2.1, rfl, (fun _ _ => rfl), u_125, u_126, rfl, e9_130, exw_129, (rg_w r7 (by decide) (by decide)), by decide, Or.inl (show ((G.1 107) : Int32).toInt ≤ 80 from (rg_w (a2 := 0) (b2 := 80) r7 (by decide) (by decide)).2), by decide, by decide, (rg_w rg109_7 (by decide) (by decide))⟩) (cwV 2 hts (gwV mw_1483 mw_1485 mw_44 mw_88 mw_1486) rfl rfl rfl hv_X12_oneOf ⟨Nat.le_of_ble_eq_true rfl, Nat.le_of_ble_eq_true rfl⟩) ⟨PcT_blind, hg_recv hK o_c_131 rfl, PcT_pre hK hH⟩ rfl rfl hl.1 rfl (lv_room (Nat.le_of_ble_eq_true rfl)) dX12_readPath_33 ⟨Nat.zero_le _, Nat.zero_le _⟩) hS (fun q _ h => AF.mono hS.1 h) (fun q h => AF.mono hS.1 h) (fun x_134 ux_134 t H locs ht hvm hx_134 hB hz hk hS => ?_)
        obtain ⟨eTx_134, eGx_134⟩ := hx_134
        obtain ⟨G_135, eG_135⟩ : ∃ z, z = ux_134.2 := ⟨_, rfl⟩
        rw [← eG_135] at eGx_134
        have pq_136 := one_pr eGx_134 (rg_w rg109_7 (by decide) (by decide))
        obtain ⟨hr_137, hg_138, hm_139, hq_140⟩ := eGx_134
        have hfr_141 : FR [109, 110] [] [] G_116 G_135 := FR.ps FR.rf hg_138 (by decide) (by decide)
        have fr_142 : FR [109, 110, 117] [(g.2.2 116)] [] G G_135 := FR.tr fr_123 hfr_141 (by decide) (fun _ _ => trivial) (by decide)
        have u_143 : G_135.1 117 = (G_7.1 117) := (hfr_141.1 117 (by decide)).trans u_124
        have u_144 : G_135.1 107 = (G.1 107) := (hfr_141.1 107 (by decide)).trans u_125
        have u_145 : G_135.1 108 = (G.1 108) := (hfr_141.1 108 (by decide)).trans u_126
        have w_146 : G_135.2.1 (g.2.2 116) = fl0_7 := (hfr_141.2.1 (g.2.2 116) trivial).trans w_127
        have u_147 : G_135.2.2 106 = some (g.2.2 101) := (hfr_141.2.2 106 (by decide)).trans u_128
        obtain ⟨xw_148, exw_148⟩ : ∃ z : Int32, G_135.1 110 = z := ⟨_, rfl⟩
        obtain ⟨xa_149, exa_149⟩ : ∃ z : Int32, G_135.1 109 = z := ⟨_, rfl⟩
        have r9_150 : rgI 0 80 xa_149 := by rw [← exa_149, pst109 hg_138]; exact hq_140
        rw [exa_149, exw_148] at pq_136
        have hH : HT g Ty G_135 H := by rw [← ht, ← eTx_134, eG_135]; exact hB
        refine lv_i2b hx hb dX12_readPath_36 rfl ?_
        refine lv_topi (fun x_151 ex_151 => ?_)
        obtain ⟨_, rfl, o_c_152⟩ := hH (g.2.2 116) _ hk_133.2.2.2.2.1
        have o_c_152 : va_at g.1 vwCl ((g.2.2 116), .inl (g.2.1 0, 160, .inl (G_135.2.1 (g.2.2 116)))) H := o_c_152
        refine hg_bast hx hb hK hS o_c_152 (AF.of hk_133.2.2.2.2.1) (rg_in (n := 160) rg117_7 (by decide) (by decide)) dX12_readPath_37 (fun H locs o_c_152 hz oq hS => ?_)
        obtain ⟨G_153, eG_153⟩ : ∃ z : Gh, z = aset G_135 (g.2.2 116) (upd (G_135.2.1 (g.2.2 116)) ((G_7.1 117) : Int32).toNatClampNeg (vp_nar .byte x_151)) := ⟨_, rfl⟩
        have hH : HT g Ty G_153 H := by rw [eG_153]; exact HT.putA (upd (G_135.2.1 (g.2.2 116)) ((G_7.1 117) : Int32).toNatClampNeg (vp_nar .byte x_151)) hH hk_133.2.2.2.2.1 cf31 o_c_152 oq
        obtain ⟨f_154, ef_154⟩ : ∃ z : Nat → Int32, z = (upd fl0_7 ((G_7.1 117) : Int32).toNatClampNeg (vp_nar .byte x_151)) := ⟨_, rfl⟩
        have eaf_154 : G_153 = aset G_135 (g.2.2 116) f_154 := by rw [eG_153, ef_154, w_146]
        have fr_155 : FR [109, 110, 117] [(g.2.2 116)] [] G G_153 := FR.a fr_142 eaf_154 (fun b h => h.1)
        have u_156 : G_153.1 117 = (G_7.1 117) := by rw [eaf_154]; exact u_143
        have u_157 : G_153.1 107 = (G.1 107) := by rw [eaf_154]; exact u_144
        have u_158 : G_153.1 108 = (G.1 108) := by rw [eaf_154]; exact u_145
        have u_159 : G_153.1 110 = xw_148 := by rw [eaf_154]; exact exw_148
        have u_160 : G_153.1 109 = xa_149 := by rw [eaf_154]; exact exa_149
        have w_161 : G_153.2.1 (g.2.2 116) = f_154 := by rw [eaf_154]; exact aset_eq
        have u_162 : G_153.2.2 106 = some (g.2.2 101) := by rw [eaf_154]; exact u_147
        clear oq hz
        refine lv_aload_n hx hb dX12_readPath_38 rfl (lv_at hl 0 rfl) ?_
        refine lv_dup hx hb dX12_readPath_39 rfl ?_
        obtain ⟨_, ⟨rfl, t_164, hk_165⟩, o_c_163⟩ := hH h0 _ k_h0
        refine hg_get hx hb hG igX12 hown hK o_c_163 rfl 17 (by decide) (hG _ mw_1301) rfl dX12_readPath_40 ?_
        rw [u_156]
        refine lv_iconst (v := 1) hx hb dX12_readPath_43 (by decide) ?_
        refine lv_iadd hx hb dX12_readPath_44 ?_
        refine lv_topi (fun x_166 ex_166 => ?_)
        have rx_166 : rgI (1) (82) x_166 := by rw [ex_166]; exact rg_w (rg_add rg117_7 rl_1 (by decide) (by decide)) (by decide) (by decide)
        have qx_166 : x_166.toInt = ((G_7.1 117) : Int32).toInt + 1 := by rw [ex_166]; exact rg_addE rg117_7 rl_1 (by decide) (by decide)
        refine hg_put (ty := .int) hx hb hG igX12 tyX12 tyX12_ok nmX12 hown hK hS o_c_163 (AF.of k_h0) rfl 17 (by decide) (hG _ mw_1301) rfl (by decide +kernel) rfl rfl (Nat.le_of_ble_eq_true rfl) dX12_readPath_45 (fun H locs o_c_163 hz oq hS => ?_)
        obtain ⟨G_167, eG_167⟩ : ∃ z : Gh, z = gset G_153 117 x_166 := ⟨_, rfl⟩
        have hH : HT g Ty G_167 H := by rw [eG_167]; exact HT.putN 117 x_166 hH k_h0 ⟨rfl, t_164, hk_165⟩ o_c_163 oq (Or.inr (Or.inr (Or.inr (Or.inr (Or.inr ⟨by decide, t_164⟩)))))
        have fr_168 : FR [109, 110, 117] [(g.2.2 116)] [] G G_167 := FR.n fr_155 eG_167 (by decide)
        have u_169 : G_167.1 107 = (G.1 107) := by rw [eG_167]; exact (gs_ne (by decide)).trans u_157
        have u_170 : G_167.1 108 = (G.1 108) := by rw [eG_167]; exact (gs_ne (by decide)).trans u_158
        have u_171 : G_167.1 110 = xw_148 := by rw [eG_167]; exact (gs_ne (by decide)).trans u_159
        have u_172 : G_167.1 109 = xa_149 := by rw [eG_167]; exact (gs_ne (by decide)).trans u_160
        have u_173 : G_167.1 117 = x_166 := by rw [eG_167]; exact gs_eq
        have w_174 : G_167.2.1 (g.2.2 116) = f_154 := by rw [eG_167]; exact w_161
        have u_175 : G_167.2.2 106 = some (g.2.2 101) := by rw [eG_167]; exact u_162
        clear oq hz
        obtain ⟨x_176, ex_176⟩ : ∃ y : Int32, y = y2_7 + 1 := ⟨_, rfl⟩
        have rx_176 : rgI (13) (13) x_176 := by rw [ex_176]; exact rg_w (rg_add r_111 rl_1 (by decide) (by decide)) (by decide) (by decide)
        have qx_176 : x_176.toInt = (y2_7 : Int32).toInt + 1 := by rw [ex_176]; exact rg_addE r_111 rl_1 (by decide) (by decide)
        refine lv_iinc (v := x_176) (lv' := [(2, .int x_176), (0, .ref h0), (1, .int y1_7)]) hx hb dX12_readPath_48 hl (k := 2) rfl (by rw [ex_176]; rfl) (by decide) rfl (fun ls hl => ?_)
        have rpe_177 : RPE (G.2.1 (g.2.2 116)) f_154 (G.1 117) x_166 (G.1 109) xa_149 xw_148 := rp_s hi0_7 hlm.1 hlm.2 rg109_7 ef_154 ex_166 ⟨pq_136.1, pq_136.2.1, fun w => (pq_136.2.2.1 w).1⟩
        have wr_178 : WR xw_148 := pq_136.2.2.2 (pq_117.2.2 hi1_7)
        refine lv_aload_n hx hb dX12_readPath_51 rfl (lv_at hl 1 rfl) ?_
        obtain ⟨_, ⟨rfl, t_180, hk_181⟩, o_c_179⟩ := hH h0 _ k_h0
        refine vp_callSi (W.runV (As := []) (rest := []) ⟨hx, hb, hml, hown, hts⟩ (c_X12_fine_p l g Ty G_167 h0 k_h0 (g.2.2 101) 80 (G_167.2.1 (g.2.2 101)) (G_167.2.1 (g.2.2 115)) (G.1 107) (G.1 108) (G_167.1 114) 80 xa_149 xw_148 ⟨u_175, hmk.2.1, rfl, (fun _ _ => rfl), u_169, u_170, rfl, u_172, u_171, (rg_w r7 (by decide) (by decide)), by decide, Or.inl (show ((G.1 107) : Int32).toInt ≤ 80 from (rg_w (a2 := 0) (b2 := 80) r7 (by decide) (by decide)).2), by decide, by decide, (rg_w r9_150 (by decide) (by decide))⟩) (cwV 0 hts (gwV mw_1463 mw_1465 mw_39 mw_88 mw_1466) rfl rfl rfl hv_X12_fine ⟨Nat.le_of_ble_eq_true rfl, Nat.le_of_ble_eq_true rfl⟩) ⟨PcH_blind, hg_recv hK o_c_179 rfl, PcH_pre hK hH⟩ rfl rfl hl.1 rfl (lv_room (Nat.le_of_ble_eq_true rfl)) dX12_readPath_52 ⟨Nat.zero_le _, Nat.zero_le _⟩) (fun x_182 hx_182 => ?_)
        have rx_182 : rgI (0) (1) x_182 := hx_182.1
        refine lv_if_eq (tgt := 72) hx hb dX12_readPath_55 (by decide) (fun c_183 => ?_) (fun c_183 => ?_)
        · have r_184 : rgI (0) (0) x_182 := rg_w (rg_eq rl_0 c_183) (by decide) (by decide)
          refine lv_aload_n hx hb dX12_readPath_72 rfl (lv_at hl 1 rfl) ?_
          refine hg_get hx hb hG igX12 hown hK o_c_179 rfl 16 (by decide) (hG _ mw_1300) rfl dX12_readPath_73 ?_
          refine lv_aload_n hx hb dX12_readPath_76 rfl (lv_at hl 1 rfl) ?_
          refine hg_get hx hb hG igX12 hown hK o_c_179 rfl 17 (by decide) (hG _ mw_1301) rfl dX12_readPath_77 ?_
          rw [u_173]
          refine lv_iconst (v := 4) hx hb dX12_readPath_80 (by decide) ?_
          obtain ⟨_, rfl, o_c_185⟩ := hH (g.2.2 116) _ hk_181.2.2.2.2.1
          have o_c_185 : va_at g.1 vwCl ((g.2.2 116), .inl (g.2.1 0, 160, .inl (G_167.2.1 (g.2.2 116)))) H := o_c_185
          refine hg_bast hx hb hK hS o_c_185 (AF.of hk_181.2.2.2.2.1) (rg_in (n := 160) rx_166 (by decide) (by decide)) dX12_readPath_81 (fun H locs o_c_185 hz oq hS => ?_)
          obtain ⟨G_186, eG_186⟩ : ∃ z : Gh, z = aset G_167 (g.2.2 116) (upd (G_167.2.1 (g.2.2 116)) (x_166 : Int32).toNatClampNeg (vp_nar .byte 4)) := ⟨_, rfl⟩
          have hH : HT g Ty G_186 H := by rw [eG_186]; exact HT.putA (upd (G_167.2.1 (g.2.2 116)) (x_166 : Int32).toNatClampNeg (vp_nar .byte 4)) hH hk_181.2.2.2.2.1 cf31 o_c_185 oq
          obtain ⟨f_187, ef_187⟩ : ∃ z : Nat → Int32, z = (upd f_154 (x_166 : Int32).toNatClampNeg (vp_nar .byte 4)) := ⟨_, rfl⟩
          have eaf_187 : G_186 = aset G_167 (g.2.2 116) f_187 := by rw [eG_186, ef_187, w_174]
          have fr_188 : FR [109, 110, 117] [(g.2.2 116)] [] G G_186 := FR.a fr_168 eaf_187 (fun b h => h.1)
          have u_189 : G_186.1 107 = (G.1 107) := by rw [eaf_187]; exact u_169
          have u_190 : G_186.1 108 = (G.1 108) := by rw [eaf_187]; exact u_170
          have u_191 : G_186.1 110 = xw_148 := by rw [eaf_187]; exact u_171
          have u_192 : G_186.1 109 = xa_149 := by rw [eaf_187]; exact u_172
          have u_193 : G_186.1 117 = x_166 := by rw [eaf_187]; exact u_173
          have w_194 : G_186.2.1 (g.2.2 116) = f_187 := by rw [eaf_187]; exact aset_eq
          have u_195 : G_186.2.2 106 = some (g.2.2 101) := by rw [eaf_187]; exact u_175
          clear oq hz
          refine lv_aload_n hx hb dX12_readPath_82 rfl (lv_at hl 1 rfl) ?_
          refine lv_dup hx hb dX12_readPath_83 rfl ?_
          obtain ⟨_, ⟨rfl, t_197, hk_198⟩, o_c_196⟩ := hH h0 _ k_h0
          refine hg_get hx hb hG igX12 hown hK o_c_196 rfl 17 (by decide) (hG _ mw_1301) rfl dX12_readPath_84 ?_
          rw [u_193]
          refine lv_iconst (v := 1) hx hb dX12_readPath_87 (by decide) ?_
          refine lv_iadd hx hb dX12_readPath_88 ?_
          refine lv_topi (fun x_199 ex_199 => ?_)
          have rx_199 : rgI (2) (83) x_199 := by rw [ex_199]; exact rg_w (rg_add rx_166 rl_1 (by decide) (by decide)) (by decide) (by decide)
          have qx_199 : x_199.toInt = (x_166 : Int32).toInt + 1 := by rw [ex_199]; exact rg_addE rx_166 rl_1 (by decide) (by decide)
          refine hg_put (ty := .int) hx hb hG igX12 tyX12 tyX12_ok nmX12 hown hK hS o_c_196 (AF.of k_h0) rfl 17 (by decide) (hG _ mw_1301) rfl (by decide +kernel) rfl rfl (Nat.le_of_ble_eq_true rfl) dX12_readPath_89 (fun H locs o_c_196 hz oq hS => ?_)
          obtain ⟨G_200, eG_200⟩ : ∃ z : Gh, z = gset G_186 117 x_199 := ⟨_, rfl⟩
          have hH : HT g Ty G_200 H := by rw [eG_200]; exact HT.putN 117 x_199 hH k_h0 ⟨rfl, t_197, hk_198⟩ o_c_196 oq (Or.inr (Or.inr (Or.inr (Or.inr (Or.inr ⟨by decide, t_197⟩)))))
          have fr_201 : FR [109, 110, 117] [(g.2.2 116)] [] G G_200 := FR.n fr_188 eG_200 (by decide)
          have u_202 : G_200.1 107 = (G.1 107) := by rw [eG_200]; exact (gs_ne (by decide)).trans u_189
          have u_203 : G_200.1 108 = (G.1 108) := by rw [eG_200]; exact (gs_ne (by decide)).trans u_190
          have u_204 : G_200.1 110 = xw_148 := by rw [eG_200]; exact (gs_ne (by decide)).trans u_191
          have u_205 : G_200.1 109 = xa_149 := by rw [eG_200]; exact (gs_ne (by decide)).trans u_192
          have u_206 : G_200.1 117 = x_199 := by rw [eG_200]; exact gs_eq
          have w_207 : G_200.2.1 (g.2.2 116) = f_187 := by rw [eG_200]; exact w_194
          have u_208 : G_200.2.2 106 = some (g.2.2 101) := by rw [eG_200]; exact u_195
          clear oq hz
          refine lv_iload_n hx hb dX12_readPath_92 rfl (lv_at hl 2 rfl) ?_
          exact W.iret hx hb hr (fun t ht hWm => ⟨⟨y1_7, (Ty, G_200), rfl, ⟨rfl, ⟨fr_201, ⟨by rw [w_207, u_206, u_205, u_204]; exact rp_e rpe_177 hlm.1 hlm.2 r9_150 ef_187 ex_199, (by rw [u_204]; exact wr_178), (by rw [u_205]; exact r9_150), (by rw [u_205]; exact rp_mono hi0_7 pq_136 hlm.1), hi2_7⟩⟩⟩, by show HT g Ty G_200 t.heap; rw [ht]; exact hH⟩, hS.F ht⟩) hS.2.2 dX12_readPath_93
        · have r_209 : rgI (1) (1) x_182 := rg_w (rg_neL rx_182 rl_0 c_183) (by decide) (by decide)
          have rl_210 : rgI 0 81 x_166 := rp_ix (RPE.b rpe_177 (fin_1 hx_182.2 c_183)) hlm.1 hlm.2 r9_150
          refine lv_aload_n hx hb dX12_readPath_58 rfl (lv_at hl 1 rfl) ?_
          refine vp_callSi (W.runV (As := []) (rest := []) ⟨hx, hb, hml, hown, hts⟩ (c_X12_here l g Ty G_167 h0 k_h0 (g.2.2 101) 80 (G_167.2.1 (g.2.2 101)) (G_167.2.1 (g.2.2 115)) (G.1 107) (G.1 108) (G_167.1 114) 80 xa_149 xw_148 ⟨u_175, hmk.2.1, rfl, (fun _ _ => rfl), u_169, u_170, rfl, u_172, u_171, (rg_w r7 (by decide) (by decide)), by decide, Or.inl (show ((G.1 107) : Int32).toInt ≤ 80 from (rg_w (a2 := 0) (b2 := 80) r7 (by decide) (by decide)).2), by decide, by decide, (rg_w r9_150 (by decide) (by decide))⟩) (cwV 0 hts (gwV mw_1467 mw_1469 mw_40 mw_88 mw_1470) rfl rfl rfl hv_X12_here ⟨Nat.le_of_ble_eq_true rfl, Nat.le_of_ble_eq_true rfl⟩) ⟨PcH_blind, hg_recv hK o_c_179 rfl, PcH_pre hK hH⟩ rfl rfl hl.1 rfl (lv_room (Nat.le_of_ble_eq_true rfl)) dX12_readPath_59 ⟨Nat.zero_le _, Nat.zero_le _⟩) (fun x_211 hx_211 => ?_)
          have rx_211 : rgI (-1) (255) x_211 := hx_211.1
          refine lv_bipush (v := 97) hx hb dX12_readPath_62 (by decide) ?_
          refine lv_bipush (v := 100) hx hb dX12_readPath_64 (by decide) ?_
          refine vp_callSi (W.runS (As := [.int x_211, .int 97, .int 100]) (rest := []) ⟨hx, hb, hml, hown, hts⟩ (c_X12_in l g Ty G_167 x_211 97 100 ) (cwSx 3 hts hG (gwC mw_1426) mw_88 mw_1424 mw_1425 rfl rfl rfl hd_X12_in ⟨Nat.le_of_ble_eq_true rfl, Nat.le_of_ble_eq_true rfl⟩) ⟨PcH_blind, PcH_pre hK hH⟩ rfl rfl hl.1 rfl (lv_room (Nat.le_of_ble_eq_true rfl)) dX12_readPath_66 ⟨Nat.zero_le _, Nat.zero_le _⟩) (fun x_212 hx_212 => ?_)
          have rx_212 : rgI (0) (1) x_212 := hx_212.1
          refine lv_if_ne (tgt := 7) hx hb dX12_readPath_69 (by decide) (fun c_213 => ?_) (fun c_213 => ?_)
          · have r_214 : rgI (1) (1) x_212 := rg_w (rg_neL rx_212 rl_0 c_213) (by decide) (by decide)
            exact ih_7 H locs G_167 f_154 y1_7 x_176 ls (by rw [u_173]; exact rg_w rl_210 (by decide) (by decide)) (by rw [u_172]; exact rg_w r9_150 (by decide) (by decide)) fr_168 w_174 ry1_7 (by rw [u_173, u_172]; exact (RPE.b rpe_177 (fin_1 hx_182.2 c_183))) (by rw [u_171]; exact (Or.inl (fin_1 hx_182.2 c_183))) hi2_7 (by have q := (pq_136.2.2.1 (fin_1 hx_182.2 c_183)).1; have q2 := (rg109_7).2; have q3 := hm_7; show (81 - (G_167.1 109).toInt).toNat < _; rw [u_172]; omega) (lv_sub hl [1, 2, 0] rfl) hH hS
          · have r_215 : rgI (0) (0) x_212 := rg_w (rg_eq rl_0 c_213) (by decide) (by decide)
            refine lv_aload_n hx hb dX12_readPath_72 rfl (lv_at hl 1 rfl) ?_
            refine hg_get hx hb hG igX12 hown hK o_c_179 rfl 16 (by decide) (hG _ mw_1300) rfl dX12_readPath_73 ?_
            refine lv_aload_n hx hb dX12_readPath_76 rfl (lv_at hl 1 rfl) ?_
            refine hg_get hx hb hG igX12 hown hK o_c_179 rfl 17 (by decide) (hG _ mw_1301) rfl dX12_readPath_77 ?_
            rw [u_173]
            refine lv_iconst (v := 4) hx hb dX12_readPath_80 (by decide) ?_
            obtain ⟨_, rfl, o_c_216⟩ := hH (g.2.2 116) _ hk_181.2.2.2.2.1
            have o_c_216 : va_at g.1 vwCl ((g.2.2 116), .inl (g.2.1 0, 160, .inl (G_167.2.1 (g.2.2 116)))) H := o_c_216
            refine hg_bast hx hb hK hS o_c_216 (AF.of hk_181.2.2.2.2.1) (rg_in (n := 160) rx_166 (by decide) (by decide)) dX12_readPath_81 (fun H locs o_c_216 hz oq hS => ?_)
            obtain ⟨G_217, eG_217⟩ : ∃ z : Gh, z = aset G_167 (g.2.2 116) (upd (G_167.2.1 (g.2.2 116)) (x_166 : Int32).toNatClampNeg (vp_nar .byte 4)) := ⟨_, rfl⟩
            have hH : HT g Ty G_217 H := by rw [eG_217]; exact HT.putA (upd (G_167.2.1 (g.2.2 116)) (x_166 : Int32).toNatClampNeg (vp_nar .byte 4)) hH hk_181.2.2.2.2.1 cf31 o_c_216 oq
            obtain ⟨f_218, ef_218⟩ : ∃ z : Nat → Int32, z = (upd f_154 (x_166 : Int32).toNatClampNeg (vp_nar .byte 4)) := ⟨_, rfl⟩
            have eaf_218 : G_217 = aset G_167 (g.2.2 116) f_218 := by rw [eG_217, ef_218, w_174]
            have fr_219 : FR [109, 110, 117] [(g.2.2 116)] [] G G_217 := FR.a fr_168 eaf_218 (fun b h => h.1)
            have u_220 : G_217.1 107 = (G.1 107) := by rw [eaf_218]; exact u_169
            have u_221 : G_217.1 108 = (G.1 108) := by rw [eaf_218]; exact u_170
            have u_222 : G_217.1 110 = xw_148 := by rw [eaf_218]; exact u_171
            have u_223 : G_217.1 109 = xa_149 := by rw [eaf_218]; exact u_172
            have u_224 : G_217.1 117 = x_166 := by rw [eaf_218]; exact u_173
            have w_225 : G_217.2.1 (g.2.2 116) = f_218 := by rw [eaf_218]; exact aset_eq
            have u_226 : G_217.2.2 106 = some (g.2.2 101) := by rw [eaf_218]; exact u_175
            clear oq hz
            refine lv_aload_n hx hb dX12_readPath_82 rfl (lv_at hl 1 rfl) ?_
            refine lv_dup hx hb dX12_readPath_83 rfl ?_
            obtain ⟨_, ⟨rfl, t_228, hk_229⟩, o_c_227⟩ := hH h0 _ k_h0
            refine hg_get hx hb hG igX12 hown hK o_c_227 rfl 17 (by decide) (hG _ mw_1301) rfl dX12_readPath_84 ?_
            rw [u_224]
            refine lv_iconst (v := 1) hx hb dX12_readPath_87 (by decide) ?_
            refine lv_iadd hx hb dX12_readPath_88 ?_
            refine lv_topi (fun x_230 ex_230 => ?_)
            have rx_230 : rgI (1) (82) x_230 := by rw [ex_230]; exact rg_w (rg_add rl_210 rl_1 (by decide) (by decide)) (by decide) (by decide)
            have qx_230 : x_230.toInt = (x_166 : Int32).toInt + 1 := by rw [ex_230]; exact rg_addE rl_210 rl_1 (by decide) (by decide)
            refine hg_put (ty := .int) hx hb hG igX12 tyX12 tyX12_ok nmX12 hown hK hS o_c_227 (AF.of k_h0) rfl 17 (by decide) (hG _ mw_1301) rfl (by decide +kernel) rfl rfl (Nat.le_of_ble_eq_true rfl) dX12_readPath_89 (fun H locs o_c_227 hz oq hS => ?_)
            obtain ⟨G_231, eG_231⟩ : ∃ z : Gh, z = gset G_217 117 x_230 := ⟨_, rfl⟩
            have hH : HT g Ty G_231 H := by rw [eG_231]; exact HT.putN 117 x_230 hH k_h0 ⟨rfl, t_228, hk_229⟩ o_c_227 oq (Or.inr (Or.inr (Or.inr (Or.inr (Or.inr ⟨by decide, t_228⟩)))))
            have fr_232 : FR [109, 110, 117] [(g.2.2 116)] [] G G_231 := FR.n fr_219 eG_231 (by decide)
            have u_233 : G_231.1 107 = (G.1 107) := by rw [eG_231]; exact (gs_ne (by decide)).trans u_220
            have u_234 : G_231.1 108 = (G.1 108) := by rw [eG_231]; exact (gs_ne (by decide)).trans u_221
            have u_235 : G_231.1 110 = xw_148 := by rw [eG_231]; exact (gs_ne (by decide)).trans u_222
            have u_236 : G_231.1 109 = xa_149 := by rw [eG_231]; exact (gs_ne (by decide)).trans u_223
            have u_237 : G_231.1 117 = x_230 := by rw [eG_231]; exact gs_eq
            have w_238 : G_231.2.1 (g.2.2 116) = f_218 := by rw [eG_231]; exact w_225
            have u_239 : G_231.2.2 106 = some (g.2.2 101) := by rw [eG_231]; exact u_226
            clear oq hz
            refine lv_iload_n hx hb dX12_readPath_92 rfl (lv_at hl 2 rfl) ?_
            exact W.iret hx hb hr (fun t ht hWm => ⟨⟨y1_7, (Ty, G_231), rfl, ⟨rfl, ⟨fr_232, ⟨by rw [w_238, u_237, u_236, u_235]; exact rp_e rpe_177 hlm.1 hlm.2 r9_150 ef_218 ex_230, (by rw [u_235]; exact wr_178), (by rw [u_236]; exact r9_150), (by rw [u_236]; exact rp_mono hi0_7 pq_136 hlm.1), hi2_7⟩⟩⟩, by show HT g Ty G_231 t.heap; rw [ht]; exact hH⟩, hS.F ht⟩) hS.2.2 dX12_readPath_93
  refine lv_aload_n hx hb dX12_readPath_0 rfl (lv_at hl 0 rfl) ?_
  obtain ⟨_, ⟨rfl, t_241, hk_242⟩, o_c_240⟩ := hH h0 _ k_h0
  refine hg_get hx hb hG igX12 hown hK o_c_240 rfl 17 (by decide) (hG _ mw_1301) rfl dX12_readPath_1 ?_
  refine lv_istore_n (lv' := [(1, .int (G.1 117)), (0, .ref h0)]) hx hb dX12_readPath_4 rfl hl (by decide) rfl (fun ls hl => ?_)
  refine lv_iconst (v := 0) hx hb dX12_readPath_5 (by decide) ?_
  refine lv_istore_n (lv' := [(2, .int 0), (1, .int (G.1 117)), (0, .ref h0)]) hx hb dX12_readPath_6 rfl hl (by decide) rfl (fun ls hl => ?_)
  exact L_7 _ s.heap [] G (G.2.1 (g.2.2 116)) (G.1 117) 0 ls (rg_w (lm_r hlm r9) (by decide) (by decide)) (rg_w r9 (by decide) (by decide)) FR.rf rfl (lm_r hlm r9) ⟨fun _ _ => rfl, Int.le_refl _, Int.le_refl _⟩ w0 rfl (Nat.lt_succ_self _) (lv_sub hl [2, 1, 0] rfl) hH hS
