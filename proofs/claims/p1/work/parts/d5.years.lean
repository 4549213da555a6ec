set_option maxHeartbeats 4000000 in
set_option maxRecDepth 100000 in
theorem c_X4_push (l : Launch) (g : Gx) (Ty : TyM) (G : Gh) (sz : Nat) (h0 : Nat) (b0 : Nat) (k_h0 : Ty h0 = some (14, 0)) (k_b0 : Ty b0 = some (20, 0)) (hD1 : LD1 g) : Met l yX4_push (wsG yX4_push cX4_push 2 none) ({ frames := 2, cells := 4, slots := 79, locals := 33 }) (PcT g Ty G sz [.ref h0, .ref b0]) (QwV g Ty sz (fun u => Ext sz Ty u.1 ∧ FR [28] [] [] G u.2)) 4 79 (AF Ty sz) := by
  refine Met.ofW (cc := cX4_push) (maxL := 2) (ret := none) (by decide) rfl ?_
  intro p e s m args below meth c s₁ B hml hv
  obtain ⟨rfl, hsz, hK, hH⟩ := hv
  subst hsz
  have hx := B.exec
  have hb := B.bytes
  have hr := B.returns
  have hts := atoms_spec (ws := (wsG yX4_push cX4_push 2 none)) B.pre
  have hG : ∀ w ∈ GW, w.before ([.ref h0, .ref b0] : List Value).toArray s = true := fun w h => hts w (List.mem_cons_of_mem _ h)
  have hown : s.vm.findClass RX4 = some m.cls := findClass_of_methodNamed B.named
  have hlocks := B.notSynchronized
  have hl := lv_entry [.ref h0, .ref b0] (n := 2) (Nat.le_of_ble_eq_true rfl)
  rw [lg_entry_eq]
  generalize (lg_sl [.ref h0, .ref b0] ++ List.replicate (2 - (lg_sl [.ref h0, .ref b0]).length) Slot.unset).toArray = ls at hl ⊢
  have hl : lv_has ls 2 [(0, .ref h0), (1, .ref b0)] := hl
  have hS : va_S (AF Ty s.heap.size) s.heap s.heap [] := va_S.rf
  refine lv_aload_n hx hb dX4_push_0 rfl (lv_at hl 0 rfl) ?_
  obtain ⟨_, ⟨q_2, q_3, rfl, kq_2, t_5⟩, o_c_1⟩ := hH h0 _ k_h0
  refine hg_get hx hb hG igX4 hown hK o_c_1 rfl 1 (by decide) (hG _ mw_155) rfl dX4_push_1 ?_
  refine lv_if_lt (tgt := 16) hx hb dX4_push_4 (by decide) (fun c_6 => ?_) (fun c_6 => ?_)
  · have r_7 : rgI (-2147483648) (-1) q_3 := rg_w (rg_ltL (rg_top q_3) rl_0 c_6) (by decide) (by decide)
    refine lv_aload_n hx hb dX4_push_16 rfl (lv_at hl 0 rfl) ?_
    refine lv_iconst (v := 0) hx hb dX4_push_17 (by decide) ?_
    refine hg_put (ty := .int) hx hb hG igX4 tyX4 tyX4_ok nmX4 hown hK hS o_c_1 (AF.of k_h0) rfl 1 (by decide) (hG _ mw_155) rfl (by decide +kernel) rfl rfl (Nat.le_of_ble_eq_true rfl) dX4_push_18 (fun H locs o_c_1 hz oq hS => ?_)
    have o_c_1 : va_at g.1 vwCl (h0, .inr (4, [.ref q_2, .int 0, .int (G.1 28)])) H := o_c_1
    have hH : HT g Ty G H := hH.put k_h0 ⟨q_2, 0, rfl, kq_2, t_5⟩ o_c_1 oq
    clear oq hz
    refine lv_aload_n hx hb dX4_push_21 rfl (lv_at hl 0 rfl) ?_
    refine hg_get hx hb hG igX4 hown hK o_c_1 rfl 0 (by decide) (hG _ mw_154) rfl dX4_push_22 ?_
    refine lv_aload_n hx hb dX4_push_25 rfl (lv_at hl 0 rfl) ?_
    refine hg_get hx hb hG igX4 hown hK o_c_1 rfl 1 (by decide) (hG _ mw_155) rfl dX4_push_26 ?_
    obtain ⟨_, ⟨f_9, rfl, qf_9⟩, o_c_8⟩ := hH q_2 _ kq_2
    refine hg_aald hx hb hK o_c_8 (rg_in (n := 12) rl_0 (by decide) (by decide)) dX4_push_29 ?_
    obtain ⟨w_10, ew_10⟩ : ∃ z, z = f_9 (0 : Int32).toNatClampNeg := ⟨_, rfl⟩
    rw [← ew_10]
    rcases w_10 with _ | y_12
    · refine lv_ifnonnullN hx hb dX4_push_30 ?_
      refine lv_aload_n hx hb dX4_push_33 rfl (lv_at hl 0 rfl) ?_
      refine hg_get hx hb hG igX4 hown hK o_c_1 rfl 0 (by decide) (hG _ mw_154) rfl dX4_push_34 ?_
      refine lv_aload_n hx hb dX4_push_37 rfl (lv_at hl 0 rfl) ?_
      refine hg_get hx hb hG igX4 hown hK o_c_1 rfl 1 (by decide) (hG _ mw_155) rfl dX4_push_38 ?_
      obtain ⟨qn_13, eqn_13⟩ : ∃ z, z = H.size := ⟨_, rfl⟩
      have nqn_13 : Ty qn_13 = none := hH.free (by rw [eqn_13]; exact Nat.le_refl _)
      have gqn_13 : s.heap.size ≤ qn_13 := by rw [eqn_13]; exact hS.1
      refine hg_newQ (ci := 10) (fs := [.null, .null, .null, .int 0, .int 0, .int 0, .int 0]) (C := RX10) (T := TX10) (N := 7) hx hb hG igX10 tyX10 tyX10_ok hown (hG _ mw_152) (hG _ mw_110) (hG _ mw_77) hK hS rfl (fun j hj => by rcases (show j = 0 ∨ j = 1 ∨ j = 2 ∨ j = 3 ∨ j = 4 ∨ j = 5 ∨ j = 6 by omega) with rfl | rfl | rfl | rfl | rfl | rfl | rfl <;> rfl) (Nat.le_of_ble_eq_true rfl) (Nat.le_of_ble_eq_true rfl) dX4_push_41 eqn_13 (fun H oqn_13 zqn_13 pqn_13 hS => ?_)
      have hH : HT g Ty G H := hH.more pqn_13
      have o_c_1 := o_c_1.kept (pqn_13 _ o_c_1.lt)
      have o_c_8 := o_c_8.kept (pqn_13 _ o_c_8.lt)
      refine lv_dup hx hb dX4_push_44 rfl ?_
      have gzqn_13 : qn_13 < H.size := oqn_13.lt
      have gsqn_13 := hS.1
      obtain ⟨T_14, eT_14⟩ : ∃ z, z = tree4 Ty qn_13 H.size := ⟨_, rfl⟩
      have eTqn_13 : Ext s.heap.size Ty T_14 := by rw [eT_14]; exact tree4_ext hH nqn_13 gqn_13 gsqn_13
      have kqqn_13 : T_14 qn_13 = some (20, 0) := by rw [eT_14]; exact tree4_q
      refine va_callv (va_runI (As := []) (rest := [.ref qn_13, .int 0, .ref q_2]) ⟨hx, hb, hml, hown, hts⟩ (c_X10_init l g Ty G H.size qn_13 nqn_13) (cwI 0 hts (gwC mw_113) rfl rfl rfl (hG _ mw_77) (hG _ mw_750) (hG _ mw_112) rfl hd_X10_init ⟨Nat.le_of_ble_eq_true rfl, Nat.le_of_ble_eq_true rfl⟩) ⟨PcC_blind, PcC_pre hK hH oqn_13⟩ rfl rfl hl.1 rfl (lv_room (Nat.le_of_ble_eq_true rfl)) dX4_push_45 ⟨Nat.le_of_ble_eq_true rfl, Nat.le_of_ble_eq_true rfl⟩) hS (fun q _ h => Or.inr (by rcases h with h | h <;> omega)) (fun q h => Or.inr (by rcases h with h | h <;> omega)) (fun _ t H locs ht hvm _ hB hz hk hS => ?_)
      have hH : HT g T_14 G H := by rw [eT_14, ← ht]; exact hB.1
      have o_c_1 := o_c_1.kept (hk _ o_c_1.lt (fun h => by rcases h with h | h; exact ne_none k_h0 nqn_13 h; exact absurd o_c_1.lt (by omega)))
      have k_15 := eTqn_13.1 _ _ k_h0
      have o_c_8 := o_c_8.kept (hk _ o_c_8.lt (fun h => by rcases h with h | h; exact ne_none kq_2 nqn_13 h; exact absurd o_c_8.lt (by omega)))
      have k_16 := eTqn_13.1 _ _ kq_2
      have q_17 : ∀ j t, f_9 j = some t → T_14 t = some (20, 0) := fun j t h => eTqn_13.1 _ _ (qf_9 j t h)
      have k_18 := eTqn_13.1 _ _ k_h0
      have k_19 := eTqn_13.1 _ _ k_b0
      have k_20 := eTqn_13.1 _ _ kq_2
      have hE_21 : Ext s.heap.size Ty T_14 := eTqn_13
      obtain ⟨_, ⟨q_23, q_24, q_25, q_26, q_27, q_28, q_29, rfl, kq_23, kq_24, kq_25⟩, o_c_22⟩ := hH qn_13 _ kqqn_13
      refine hg_aast hx hb hK hS o_c_8 (AF.ofE hE_21 k_16) o_c_22 (rg_in (n := 12) rl_0 (by decide) (by decide)) dX4_push_48 (fun H locs o_c_8 hz oq hS => ?_)
      generalize hff_30 : va_up f_9 _ _ = f_30 at o_c_8
      have qf_30 : ∀ j t, f_30 j = some t → T_14 t = some (20, 0) := by rw [← hff_30]; exact up_all q_17 kqqn_13
      have knf_30 : f_30 (0 : Int32).toNatClampNeg = some qn_13 := by rw [← hff_30]; exact va_upS
      have hH : HT g T_14 G H := hH.put k_16 ⟨_, rfl, qf_30⟩ o_c_8 oq
      have o_c_1 := o_c_1.kept (oq _ (ne_kd k_15 k_16 (by decide)))
      have o_c_22 := o_c_22.kept (oq _ (ne_kd kqqn_13 k_16 (by decide)))
      clear oq hz
      refine lv_aload_n hx hb dX4_push_49 rfl (lv_at hl 0 rfl) ?_
      refine hg_get hx hb hG igX4 hown hK o_c_1 rfl 0 (by decide) (hG _ mw_154) rfl dX4_push_50 ?_
      refine lv_aload_n hx hb dX4_push_53 rfl (lv_at hl 0 rfl) ?_
      refine hg_get hx hb hG igX4 hown hK o_c_1 rfl 1 (by decide) (hG _ mw_155) rfl dX4_push_54 ?_
      refine hg_aald hx hb hK o_c_8 (rg_in (n := 12) rl_0 (by decide) (by decide)) dX4_push_57 ?_
      rw [show va_rf (f_30 (0 : Int32).toNatClampNeg) = Value.ref qn_13 by rw [knf_30]; rfl]
      refine lv_aload_n hx hb dX4_push_58 rfl (lv_at hl 1 rfl) ?_
      refine va_callv (va_runV (As := [.ref b0]) (rest := []) ⟨hx, hb, hml, hown, hts⟩ (c_X10_take l g T_14 G H.size qn_13 b0 (qf_30 _ _ knf_30) k_19) (cwV 1 hts (gwV mw_751 mw_629 mw_630 mw_77 mw_631) rfl rfl rfl hv_X10_take ⟨Nat.le_of_ble_eq_true rfl, Nat.le_of_ble_eq_true rfl⟩) ⟨PcT_blind, hg_recv hK o_c_22 rfl, PcT_pre hK hH⟩ rfl rfl hl.1 rfl (lv_room (Nat.le_of_ble_eq_true rfl)) dX4_push_59 ⟨Nat.le_of_ble_eq_true rfl, Nat.le_of_ble_eq_true rfl⟩) hS (fun q _ h => AF.back hE_21 hS.1 h) (fun q h => AF.back hE_21 hS.1 h) (fun ux_31 t H locs ht hvm hx_31 hB hz hk hS => ?_)
      have hH : HT g T_14 G H := by rw [← ht]; rw [hx_31] at hB; exact hB
      refine lv_aload_n hx hb dX4_push_62 rfl (lv_at hl 0 rfl) ?_
      refine lv_dup hx hb dX4_push_63 rfl ?_
      obtain ⟨_, ⟨q_33, q_34, rfl, kq_33, t_36⟩, o_c_32⟩ := hH h0 _ k_18
      refine hg_get hx hb hG igX4 hown hK o_c_32 rfl 1 (by decide) (hG _ mw_155) rfl dX4_push_64 ?_
      refine lv_iconst (v := 1) hx hb dX4_push_67 (by decide) ?_
      refine lv_iadd hx hb dX4_push_68 ?_
      refine lv_topi (fun x_37 ex_37 => ?_)
      refine hg_put (ty := .int) hx hb hG igX4 tyX4 tyX4_ok nmX4 hown hK hS o_c_32 (AF.ofE hE_21 k_18) rfl 1 (by decide) (hG _ mw_155) rfl (by decide +kernel) rfl rfl (Nat.le_of_ble_eq_true rfl) dX4_push_69 (fun H locs o_c_32 hz oq hS => ?_)
      have o_c_32 : va_at g.1 vwCl (h0, .inr (4, [.ref q_33, .int x_37, .int (G.1 28)])) H := o_c_32
      have hH : HT g T_14 G H := hH.put k_18 ⟨q_33, x_37, rfl, kq_33, t_36⟩ o_c_32 oq
      clear oq hz
      refine lv_aload_n hx hb dX4_push_72 rfl (lv_at hl 0 rfl) ?_
      refine lv_aload_n hx hb dX4_push_73 rfl (lv_at hl 0 rfl) ?_
      refine hg_get hx hb hG igX4 hown hK o_c_32 rfl 2 (by decide) (hG _ mw_156) rfl dX4_push_74 ?_
      refine lv_iconst (v := 1) hx hb dX4_push_77 (by decide) ?_
      refine lv_iadd hx hb dX4_push_78 ?_
      refine lv_topi (fun x_38 ex_38 => ?_)
      refine lv_bipush (v := 12) hx hb dX4_push_79 (by decide) ?_
      refine va_mmin hx hb (by rw [hml]; exact hl.1.symm) hown (hG _ mw_752) (hG _ mw_476) (hG _ mw_91) (hG _ mw_477) (Nat.le_of_ble_eq_true rfl) (Nat.le_of_ble_eq_true rfl) (Nat.le_of_ble_eq_true rfl) (Nat.le_of_ble_eq_true rfl) dX4_push_81 ?_
      refine lv_topi (fun x_39 ex_39 => ?_)
      have rx_39 : rgI (-2147483648) (12) x_39 := by rw [ex_39]; exact rg_w (show rgI (-2147483648) (12) _ from rg_mn (rg_top x_38) rl_12 (by decide) (by decide) (by decide) (by decide)) (by decide) (by decide)
      refine hg_put (ty := .int) hx hb hG igX4 tyX4 tyX4_ok nmX4 hown hK hS o_c_32 (AF.ofE hE_21 k_18) rfl 2 (by decide) (hG _ mw_156) rfl (by decide +kernel) rfl rfl (Nat.le_of_ble_eq_true rfl) dX4_push_84 (fun H locs o_c_32 hz oq hS => ?_)
      obtain ⟨G_40, eG_40⟩ : ∃ z : Gh, z = gset G 28 x_39 := ⟨_, rfl⟩
      have hH : HT g T_14 G_40 H := by rw [eG_40]; exact HT.putM 28 x_39 hH k_18 ⟨q_33, x_37, rfl, kq_33, t_36⟩ o_c_32 oq (⟨⟨by decide, by decide⟩, t_36⟩)
      have fr_41 : FR [28] [] [] G G_40 := FR.n FR.rf eG_40 (by decide)
      have u_42 : G_40.1 28 = x_39 := by rw [eG_40]; exact gs_eq
      clear oq hz
      exact W.vret hx hb hr (fun t ht hWm => ⟨⟨(T_14, G_40), rfl, ⟨hE_21, fr_41⟩, by show HT g T_14 G_40 t.heap; rw [ht]; exact hH⟩, hS.F ht⟩) hS.2.2 dX4_push_87
    · refine lv_ifnonnull (tgt := 49) hx hb dX4_push_30 (by decide) ?_
      refine lv_aload_n hx hb dX4_push_49 rfl (lv_at hl 0 rfl) ?_
      refine hg_get hx hb hG igX4 hown hK o_c_1 rfl 0 (by decide) (hG _ mw_154) rfl dX4_push_50 ?_
      refine lv_aload_n hx hb dX4_push_53 rfl (lv_at hl 0 rfl) ?_
      refine hg_get hx hb hG igX4 hown hK o_c_1 rfl 1 (by decide) (hG _ mw_155) rfl dX4_push_54 ?_
      refine hg_aald hx hb hK o_c_8 (rg_in (n := 12) rl_0 (by decide) (by decide)) dX4_push_57 ?_
      rw [show va_rf (f_9 (0 : Int32).toNatClampNeg) = Value.ref y_12 by rw [ew_10.symm]; rfl]
      refine lv_aload_n hx hb dX4_push_58 rfl (lv_at hl 1 rfl) ?_
      obtain ⟨_, ⟨q_44, q_45, q_46, q_47, q_48, q_49, q_50, rfl, kq_44, kq_45, kq_46⟩, o_c_43⟩ := hH y_12 _ (qf_9 _ _ ew_10.symm)
      refine va_callv (va_runV (As := [.ref b0]) (rest := []) ⟨hx, hb, hml, hown, hts⟩ (c_X10_take l g Ty G H.size y_12 b0 (qf_9 _ _ ew_10.symm) k_b0) (cwV 1 hts (gwV mw_751 mw_629 mw_630 mw_77 mw_631) rfl rfl rfl hv_X10_take ⟨Nat.le_of_ble_eq_true rfl, Nat.le_of_ble_eq_true rfl⟩) ⟨PcT_blind, hg_recv hK o_c_43 rfl, PcT_pre hK hH⟩ rfl rfl hl.1 rfl (lv_room (Nat.le_of_ble_eq_true rfl)) dX4_push_59 ⟨Nat.le_of_ble_eq_true rfl, Nat.le_of_ble_eq_true rfl⟩) hS (fun q _ h => AF.mono hS.1 h) (fun q h => AF.mono hS.1 h) (fun ux_51 t H locs ht hvm hx_51 hB hz hk hS => ?_)
      have hH : HT g Ty G H := by rw [← ht]; rw [hx_51] at hB; exact hB
      refine lv_aload_n hx hb dX4_push_62 rfl (lv_at hl 0 rfl) ?_
      refine lv_dup hx hb dX4_push_63 rfl ?_
      obtain ⟨_, ⟨q_53, q_54, rfl, kq_53, t_56⟩, o_c_52⟩ := hH h0 _ k_h0
      refine hg_get hx hb hG igX4 hown hK o_c_52 rfl 1 (by decide) (hG _ mw_155) rfl dX4_push_64 ?_
      refine lv_iconst (v := 1) hx hb dX4_push_67 (by decide) ?_
      refine lv_iadd hx hb dX4_push_68 ?_
      refine lv_topi (fun x_57 ex_57 => ?_)
      refine hg_put (ty := .int) hx hb hG igX4 tyX4 tyX4_ok nmX4 hown hK hS o_c_52 (AF.of k_h0) rfl 1 (by decide) (hG _ mw_155) rfl (by decide +kernel) rfl rfl (Nat.le_of_ble_eq_true rfl) dX4_push_69 (fun H locs o_c_52 hz oq hS => ?_)
      have o_c_52 : va_at g.1 vwCl (h0, .inr (4, [.ref q_53, .int x_57, .int (G.1 28)])) H := o_c_52
      have hH : HT g Ty G H := hH.put k_h0 ⟨q_53, x_57, rfl, kq_53, t_56⟩ o_c_52 oq
      clear oq hz
      refine lv_aload_n hx hb dX4_push_72 rfl (lv_at hl 0 rfl) ?_
      refine lv_aload_n hx hb dX4_push_73 rfl (lv_at hl 0 rfl) ?_
      refine hg_get hx hb hG igX4 hown hK o_c_52 rfl 2 (by decide) (hG _ mw_156) rfl dX4_push_74 ?_
      refine lv_iconst (v := 1) hx hb dX4_push_77 (by decide) ?_
      refine lv_iadd hx hb dX4_push_78 ?_
      refine lv_topi (fun x_58 ex_58 => ?_)
      refine lv_bipush (v := 12) hx hb dX4_push_79 (by decide) ?_
      refine va_mmin hx hb (by rw [hml]; exact hl.1.symm) hown (hG _ mw_752) (hG _ mw_476) (hG _ mw_91) (hG _ mw_477) (Nat.le_of_ble_eq_true rfl) (Nat.le_of_ble_eq_true rfl) (Nat.le_of_ble_eq_true rfl) (Nat.le_of_ble_eq_true rfl) dX4_push_81 ?_
      refine lv_topi (fun x_59 ex_59 => ?_)
      have rx_59 : rgI (-2147483648) (12) x_59 := by rw [ex_59]; exact rg_w (show rgI (-2147483648) (12) _ from rg_mn (rg_top x_58) rl_12 (by decide) (by decide) (by decide) (by decide)) (by decide) (by decide)
      refine hg_put (ty := .int) hx hb hG igX4 tyX4 tyX4_ok nmX4 hown hK hS o_c_52 (AF.of k_h0) rfl 2 (by decide) (hG _ mw_156) rfl (by decide +kernel) rfl rfl (Nat.le_of_ble_eq_true rfl) dX4_push_84 (fun H locs o_c_52 hz oq hS => ?_)
      obtain ⟨G_60, eG_60⟩ : ∃ z : Gh, z = gset G 28 x_59 := ⟨_, rfl⟩
      have hH : HT g Ty G_60 H := by rw [eG_60]; exact HT.putM 28 x_59 hH k_h0 ⟨q_53, x_57, rfl, kq_53, t_56⟩ o_c_52 oq (⟨⟨by decide, by decide⟩, t_56⟩)
      have fr_61 : FR [28] [] [] G G_60 := FR.n FR.rf eG_60 (by decide)
      have u_62 : G_60.1 28 = x_59 := by rw [eG_60]; exact gs_eq
      clear oq hz
      refine W.widen (k := 4) (n := 79) (by decide) (by decide) ?_
      exact W.vret hx hb hr (fun t ht hWm => ⟨⟨(Ty, G_60), rfl, ⟨Ext.rf, fr_61⟩, by show HT g Ty G_60 t.heap; rw [ht]; exact hH⟩, hS.F ht⟩) hS.2.2 dX4_push_87
  · have r_63 : rgI (0) (2147483647) q_3 := rg_w (rg_leR rl_0 (rg_top q_3) (nlt_le c_6)) (by decide) (by decide)
    refine lv_aload_n hx hb dX4_push_7 rfl (lv_at hl 0 rfl) ?_
    refine hg_get hx hb hG igX4 hown hK o_c_1 rfl 1 (by decide) (hG _ mw_155) rfl dX4_push_8 ?_
    refine lv_bipush (v := 12) hx hb dX4_push_11 (by decide) ?_
    refine lv_icmp_lt (tgt := 21) hx hb dX4_push_13 (by decide) (fun c_64 => ?_) (fun c_64 => ?_)
    · have r_65 : rgI (0) (11) q_3 := rg_w (rg_ltL r_63 rl_12 c_64) (by decide) (by decide)
      refine lv_aload_n hx hb dX4_push_21 rfl (lv_at hl 0 rfl) ?_
      refine hg_get hx hb hG igX4 hown hK o_c_1 rfl 0 (by decide) (hG _ mw_154) rfl dX4_push_22 ?_
      refine lv_aload_n hx hb dX4_push_25 rfl (lv_at hl 0 rfl) ?_
      refine hg_get hx hb hG igX4 hown hK o_c_1 rfl 1 (by decide) (hG _ mw_155) rfl dX4_push_26 ?_
      obtain ⟨_, ⟨f_67, rfl, qf_67⟩, o_c_66⟩ := hH q_2 _ kq_2
      refine hg_aald hx hb hK o_c_66 (rg_in (n := 12) r_65 (by decide) (by decide)) dX4_push_29 ?_
      obtain ⟨w_68, ew_68⟩ : ∃ z, z = f_67 (q_3 : Int32).toNatClampNeg := ⟨_, rfl⟩
      rw [← ew_68]
      rcases w_68 with _ | y_70
      · refine lv_ifnonnullN hx hb dX4_push_30 ?_
        refine lv_aload_n hx hb dX4_push_33 rfl (lv_at hl 0 rfl) ?_
        refine hg_get hx hb hG igX4 hown hK o_c_1 rfl 0 (by decide) (hG _ mw_154) rfl dX4_push_34 ?_
        refine lv_aload_n hx hb dX4_push_37 rfl (lv_at hl 0 rfl) ?_
        refine hg_get hx hb hG igX4 hown hK o_c_1 rfl 1 (by decide) (hG _ mw_155) rfl dX4_push_38 ?_
        obtain ⟨qn_71, eqn_71⟩ : ∃ z, z = s.heap.size := ⟨_, rfl⟩
        have nqn_71 : Ty qn_71 = none := hH.free (by rw [eqn_71]; exact Nat.le_refl _)
        have gqn_71 : s.heap.size ≤ qn_71 := by rw [eqn_71]; exact hS.1
        refine hg_newQ (ci := 10) (fs := [.null, .null, .null, .int 0, .int 0, .int 0, .int 0]) (C := RX10) (T := TX10) (N := 7) hx hb hG igX10 tyX10 tyX10_ok hown (hG _ mw_152) (hG _ mw_110) (hG _ mw_77) hK hS rfl (fun j hj => by rcases (show j = 0 ∨ j = 1 ∨ j = 2 ∨ j = 3 ∨ j = 4 ∨ j = 5 ∨ j = 6 by omega) with rfl | rfl | rfl | rfl | rfl | rfl | rfl <;> rfl) (Nat.le_of_ble_eq_true rfl) (Nat.le_of_ble_eq_true rfl) dX4_push_41 eqn_71 (fun H oqn_71 zqn_71 pqn_71 hS => ?_)
        have hH : HT g Ty G H := hH.more pqn_71
        have o_c_1 := o_c_1.kept (pqn_71 _ o_c_1.lt)
        have o_c_66 := o_c_66.kept (pqn_71 _ o_c_66.lt)
        refine lv_dup hx hb dX4_push_44 rfl ?_
        have gzqn_71 : qn_71 < H.size := oqn_71.lt
        have gsqn_71 := hS.1
        obtain ⟨T_72, eT_72⟩ : ∃ z, z = tree4 Ty qn_71 H.size := ⟨_, rfl⟩
        have eTqn_71 : Ext s.heap.size Ty T_72 := by rw [eT_72]; exact tree4_ext hH nqn_71 gqn_71 gsqn_71
        have kqqn_71 : T_72 qn_71 = some (20, 0) := by rw [eT_72]; exact tree4_q
        refine va_callv (va_runI (As := []) (rest := [.ref qn_71, .int q_3, .ref q_2]) ⟨hx, hb, hml, hown, hts⟩ (c_X10_init l g Ty G H.size qn_71 nqn_71) (cwI 0 hts (gwC mw_113) rfl rfl rfl (hG _ mw_77) (hG _ mw_750) (hG _ mw_112) rfl hd_X10_init ⟨Nat.le_of_ble_eq_true rfl, Nat.le_of_ble_eq_true rfl⟩) ⟨PcC_blind, PcC_pre hK hH oqn_71⟩ rfl rfl hl.1 rfl (lv_room (Nat.le_of_ble_eq_true rfl)) dX4_push_45 ⟨Nat.le_of_ble_eq_true rfl, Nat.le_of_ble_eq_true rfl⟩) hS (fun q _ h => Or.inr (by rcases h with h | h <;> omega)) (fun q h => Or.inr (by rcases h with h | h <;> omega)) (fun _ t H locs ht hvm _ hB hz hk hS => ?_)
        have hH : HT g T_72 G H := by rw [eT_72, ← ht]; exact hB.1
        have o_c_1 := o_c_1.kept (hk _ o_c_1.lt (fun h => by rcases h with h | h; exact ne_none k_h0 nqn_71 h; exact absurd o_c_1.lt (by omega)))
        have k_73 := eTqn_71.1 _ _ k_h0
        have o_c_66 := o_c_66.kept (hk _ o_c_66.lt (fun h => by rcases h with h | h; exact ne_none kq_2 nqn_71 h; exact absurd o_c_66.lt (by omega)))
        have k_74 := eTqn_71.1 _ _ kq_2
        have q_75 : ∀ j t, f_67 j = some t → T_72 t = some (20, 0) := fun j t h => eTqn_71.1 _ _ (qf_67 j t h)
        have k_76 := eTqn_71.1 _ _ k_h0
        have k_77 := eTqn_71.1 _ _ k_b0
        have k_78 := eTqn_71.1 _ _ kq_2
        have hE_79 : Ext s.heap.size Ty T_72 := eTqn_71
        obtain ⟨_, ⟨q_81, q_82, q_83, q_84, q_85, q_86, q_87, rfl, kq_81, kq_82, kq_83⟩, o_c_80⟩ := hH qn_71 _ kqqn_71
        refine hg_aast hx hb hK hS o_c_66 (AF.ofE hE_79 k_74) o_c_80 (rg_in (n := 12) r_65 (by decide) (by decide)) dX4_push_48 (fun H locs o_c_66 hz oq hS => ?_)
        generalize hff_88 : va_up f_67 _ _ = f_88 at o_c_66
        have qf_88 : ∀ j t, f_88 j = some t → T_72 t = some (20, 0) := by rw [← hff_88]; exact up_all q_75 kqqn_71
        have knf_88 : f_88 (q_3 : Int32).toNatClampNeg = some qn_71 := by rw [← hff_88]; exact va_upS
        have hH : HT g T_72 G H := hH.put k_74 ⟨_, rfl, qf_88⟩ o_c_66 oq
        have o_c_1 := o_c_1.kept (oq _ (ne_kd k_73 k_74 (by decide)))
        have o_c_80 := o_c_80.kept (oq _ (ne_kd kqqn_71 k_74 (by decide)))
        clear oq hz
        refine lv_aload_n hx hb dX4_push_49 rfl (lv_at hl 0 rfl) ?_
        refine hg_get hx hb hG igX4 hown hK o_c_1 rfl 0 (by decide) (hG _ mw_154) rfl dX4_push_50 ?_
        refine lv_aload_n hx hb dX4_push_53 rfl (lv_at hl 0 rfl) ?_
        refine hg_get hx hb hG igX4 hown hK o_c_1 rfl 1 (by decide) (hG _ mw_155) rfl dX4_push_54 ?_
        refine hg_aald hx hb hK o_c_66 (rg_in (n := 12) r_65 (by decide) (by decide)) dX4_push_57 ?_
        rw [show va_rf (f_88 (q_3 : Int32).toNatClampNeg) = Value.ref qn_71 by rw [knf_88]; rfl]
        refine lv_aload_n hx hb dX4_push_58 rfl (lv_at hl 1 rfl) ?_
        refine va_callv (va_runV (As := [.ref b0]) (rest := []) ⟨hx, hb, hml, hown, hts⟩ (c_X10_take l g T_72 G H.size qn_71 b0 (qf_88 _ _ knf_88) k_77) (cwV 1 hts (gwV mw_751 mw_629 mw_630 mw_77 mw_631) rfl rfl rfl hv_X10_take ⟨Nat.le_of_ble_eq_true rfl, Nat.le_of_ble_eq_true rfl⟩) ⟨PcT_blind, hg_recv hK o_c_80 rfl, PcT_pre hK hH⟩ rfl rfl hl.1 rfl (lv_room (Nat.le_of_ble_eq_true rfl)) dX4_push_59 ⟨Nat.le_of_ble_eq_true rfl, Nat.le_of_ble_eq_true rfl⟩) hS (fun q _ h => AF.back hE_79 hS.1 h) (fun q h => AF.back hE_79 hS.1 h) (fun ux_89 t H locs ht hvm hx_89 hB hz hk hS => ?_)
        have hH : HT g T_72 G H := by rw [← ht]; rw [hx_89] at hB; exact hB
        refine lv_aload_n hx hb dX4_push_62 rfl (lv_at hl 0 rfl) ?_
        refine lv_dup hx hb dX4_push_63 rfl ?_
        obtain ⟨_, ⟨q_91, q_92, rfl, kq_91, t_94⟩, o_c_90⟩ := hH h0 _ k_76
        refine hg_get hx hb hG igX4 hown hK o_c_90 rfl 1 (by decide) (hG _ mw_155) rfl dX4_push_64 ?_
        refine lv_iconst (v := 1) hx hb dX4_push_67 (by decide) ?_
        refine lv_iadd hx hb dX4_push_68 ?_
        refine lv_topi (fun x_95 ex_95 => ?_)
        refine hg_put (ty := .int) hx hb hG igX4 tyX4 tyX4_ok nmX4 hown hK hS o_c_90 (AF.ofE hE_79 k_76) rfl 1 (by decide) (hG _ mw_155) rfl (by decide +kernel) rfl rfl (Nat.le_of_ble_eq_true rfl) dX4_push_69 (fun H locs o_c_90 hz oq hS => ?_)
        have o_c_90 : va_at g.1 vwCl (h0, .inr (4, [.ref q_91, .int x_95, .int (G.1 28)])) H := o_c_90
        have hH : HT g T_72 G H := hH.put k_76 ⟨q_91, x_95, rfl, kq_91, t_94⟩ o_c_90 oq
        clear oq hz
        refine lv_aload_n hx hb dX4_push_72 rfl (lv_at hl 0 rfl) ?_
        refine lv_aload_n hx hb dX4_push_73 rfl (lv_at hl 0 rfl) ?_
        refine hg_get hx hb hG igX4 hown hK o_c_90 rfl 2 (by decide) (hG _ mw_156) rfl dX4_push_74 ?_
        refine lv_iconst (v := 1) hx hb dX4_push_77 (by decide) ?_
        refine lv_iadd hx hb dX4_push_78 ?_
        refine lv_topi (fun x_96 ex_96 => ?_)
        refine lv_bipush (v := 12) hx hb dX4_push_79 (by decide) ?_
        refine va_mmin hx hb (by rw [hml]; exact hl.1.symm) hown (hG _ mw_752) (hG _ mw_476) (hG _ mw_91) (hG _ mw_477) (Nat.le_of_ble_eq_true rfl) (Nat.le_of_ble_eq_true rfl) (Nat.le_of_ble_eq_true rfl) (Nat.le_of_ble_eq_true rfl) dX4_push_81 ?_
        refine lv_topi (fun x_97 ex_97 => ?_)
        have rx_97 : rgI (-2147483648) (12) x_97 := by rw [ex_97]; exact rg_w (show rgI (-2147483648) (12) _ from rg_mn (rg_top x_96) rl_12 (by decide) (by decide) (by decide) (by decide)) (by decide) (by decide)
        refine hg_put (ty := .int) hx hb hG igX4 tyX4 tyX4_ok nmX4 hown hK hS o_c_90 (AF.ofE hE_79 k_76) rfl 2 (by decide) (hG _ mw_156) rfl (by decide +kernel) rfl rfl (Nat.le_of_ble_eq_true rfl) dX4_push_84 (fun H locs o_c_90 hz oq hS => ?_)
        obtain ⟨G_98, eG_98⟩ : ∃ z : Gh, z = gset G 28 x_97 := ⟨_, rfl⟩
        have hH : HT g T_72 G_98 H := by rw [eG_98]; exact HT.putM 28 x_97 hH k_76 ⟨q_91, x_95, rfl, kq_91, t_94⟩ o_c_90 oq (⟨⟨by decide, by decide⟩, t_94⟩)
        have fr_99 : FR [28] [] [] G G_98 := FR.n FR.rf eG_98 (by decide)
        have u_100 : G_98.1 28 = x_97 := by rw [eG_98]; exact gs_eq
        clear oq hz
        exact W.vret hx hb hr (fun t ht hWm => ⟨⟨(T_72, G_98), rfl, ⟨hE_79, fr_99⟩, by show HT g T_72 G_98 t.heap; rw [ht]; exact hH⟩, hS.F ht⟩) hS.2.2 dX4_push_87
      · refine lv_ifnonnull (tgt := 49) hx hb dX4_push_30 (by decide) ?_
        refine lv_aload_n hx hb dX4_push_49 rfl (lv_at hl 0 rfl) ?_
        refine hg_get hx hb hG igX4 hown hK o_c_1 rfl 0 (by decide) (hG _ mw_154) rfl dX4_push_50 ?_
        refine lv_aload_n hx hb dX4_push_53 rfl (lv_at hl 0 rfl) ?_
        refine hg_get hx hb hG igX4 hown hK o_c_1 rfl 1 (by decide) (hG _ mw_155) rfl dX4_push_54 ?_
        refine hg_aald hx hb hK o_c_66 (rg_in (n := 12) r_65 (by decide) (by decide)) dX4_push_57 ?_
        rw [show va_rf (f_67 (q_3 : Int32).toNatClampNeg) = Value.ref y_70 by rw [ew_68.symm]; rfl]
        refine lv_aload_n hx hb dX4_push_58 rfl (lv_at hl 1 rfl) ?_
        obtain ⟨_, ⟨q_102, q_103, q_104, q_105, q_106, q_107, q_108, rfl, kq_102, kq_103, kq_104⟩, o_c_101⟩ := hH y_70 _ (qf_67 _ _ ew_68.symm)
        refine va_callv (va_runV (As := [.ref b0]) (rest := []) ⟨hx, hb, hml, hown, hts⟩ (c_X10_take l g Ty G s.heap.size y_70 b0 (qf_67 _ _ ew_68.symm) k_b0) (cwV 1 hts (gwV mw_751 mw_629 mw_630 mw_77 mw_631) rfl rfl rfl hv_X10_take ⟨Nat.le_of_ble_eq_true rfl, Nat.le_of_ble_eq_true rfl⟩) ⟨PcT_blind, hg_recv hK o_c_101 rfl, PcT_pre hK hH⟩ rfl rfl hl.1 rfl (lv_room (Nat.le_of_ble_eq_true rfl)) dX4_push_59 ⟨Nat.le_of_ble_eq_true rfl, Nat.le_of_ble_eq_true rfl⟩) hS (fun q _ h => AF.mono hS.1 h) (fun q h => AF.mono hS.1 h) (fun ux_109 t H locs ht hvm hx_109 hB hz hk hS => ?_)
        have hH : HT g Ty G H := by rw [← ht]; rw [hx_109] at hB; exact hB
        refine lv_aload_n hx hb dX4_push_62 rfl (lv_at hl 0 rfl) ?_
        refine lv_dup hx hb dX4_push_63 rfl ?_
        obtain ⟨_, ⟨q_111, q_112, rfl, kq_111, t_114⟩, o_c_110⟩ := hH h0 _ k_h0
        refine hg_get hx hb hG igX4 hown hK o_c_110 rfl 1 (by decide) (hG _ mw_155) rfl dX4_push_64 ?_
        refine lv_iconst (v := 1) hx hb dX4_push_67 (by decide) ?_
        refine lv_iadd hx hb dX4_push_68 ?_
        refine lv_topi (fun x_115 ex_115 => ?_)
        refine hg_put (ty := .int) hx hb hG igX4 tyX4 tyX4_ok nmX4 hown hK hS o_c_110 (AF.of k_h0) rfl 1 (by decide) (hG _ mw_155) rfl (by decide +kernel) rfl rfl (Nat.le_of_ble_eq_true rfl) dX4_push_69 (fun H locs o_c_110 hz oq hS => ?_)
        have o_c_110 : va_at g.1 vwCl (h0, .inr (4, [.ref q_111, .int x_115, .int (G.1 28)])) H := o_c_110
        have hH : HT g Ty G H := hH.put k_h0 ⟨q_111, x_115, rfl, kq_111, t_114⟩ o_c_110 oq
        clear oq hz
        refine lv_aload_n hx hb dX4_push_72 rfl (lv_at hl 0 rfl) ?_
        refine lv_aload_n hx hb dX4_push_73 rfl (lv_at hl 0 rfl) ?_
        refine hg_get hx hb hG igX4 hown hK o_c_110 rfl 2 (by decide) (hG _ mw_156) rfl dX4_push_74 ?_
        refine lv_iconst (v := 1) hx hb dX4_push_77 (by decide) ?_
        refine lv_iadd hx hb dX4_push_78 ?_
        refine lv_topi (fun x_116 ex_116 => ?_)
        refine lv_bipush (v := 12) hx hb dX4_push_79 (by decide) ?_
        refine va_mmin hx hb (by rw [hml]; exact hl.1.symm) hown (hG _ mw_752) (hG _ mw_476) (hG _ mw_91) (hG _ mw_477) (Nat.le_of_ble_eq_true rfl) (Nat.le_of_ble_eq_true rfl) (Nat.le_of_ble_eq_true rfl) (Nat.le_of_ble_eq_true rfl) dX4_push_81 ?_
        refine lv_topi (fun x_117 ex_117 => ?_)
        have rx_117 : rgI (-2147483648) (12) x_117 := by rw [ex_117]; exact rg_w (show rgI (-2147483648) (12) _ from rg_mn (rg_top x_116) rl_12 (by decide) (by decide) (by decide) (by decide)) (by decide) (by decide)
        refine hg_put (ty := .int) hx hb hG igX4 tyX4 tyX4_ok nmX4 hown hK hS o_c_110 (AF.of k_h0) rfl 2 (by decide) (hG _ mw_156) rfl (by decide +kernel) rfl rfl (Nat.le_of_ble_eq_true rfl) dX4_push_84 (fun H locs o_c_110 hz oq hS => ?_)
        obtain ⟨G_118, eG_118⟩ : ∃ z : Gh, z = gset G 28 x_117 := ⟨_, rfl⟩
        have hH : HT g Ty G_118 H := by rw [eG_118]; exact HT.putM 28 x_117 hH k_h0 ⟨q_111, x_115, rfl, kq_111, t_114⟩ o_c_110 oq (⟨⟨by decide, by decide⟩, t_114⟩)
        have fr_119 : FR [28] [] [] G G_118 := FR.n FR.rf eG_118 (by decide)
        have u_120 : G_118.1 28 = x_117 := by rw [eG_118]; exact gs_eq
        clear oq hz
        refine W.widen (k := 4) (n := 79) (by decide) (by decide) ?_
        exact W.vret hx hb hr (fun t ht hWm => ⟨⟨(Ty, G_118), rfl, ⟨Ext.rf, fr_119⟩, by show HT g Ty G_118 t.heap; rw [ht]; exact hH⟩, hS.F ht⟩) hS.2.2 dX4_push_87
    · have r_121 : rgI (12) (2147483647) q_3 := rg_w (rg_leR rl_12 r_63 (nlt_le c_64)) (by decide) (by decide)
      refine lv_aload_n hx hb dX4_push_16 rfl (lv_at hl 0 rfl) ?_
      refine lv_iconst (v := 0) hx hb dX4_push_17 (by decide) ?_
      refine hg_put (ty := .int) hx hb hG igX4 tyX4 tyX4_ok nmX4 hown hK hS o_c_1 (AF.of k_h0) rfl 1 (by decide) (hG _ mw_155) rfl (by decide +kernel) rfl rfl (Nat.le_of_ble_eq_true rfl) dX4_push_18 (fun H locs o_c_1 hz oq hS => ?_)
      have o_c_1 : va_at g.1 vwCl (h0, .inr (4, [.ref q_2, .int 0, .int (G.1 28)])) H := o_c_1
      have hH : HT g Ty G H := hH.put k_h0 ⟨q_2, 0, rfl, kq_2, t_5⟩ o_c_1 oq
      clear oq hz
      refine lv_aload_n hx hb dX4_push_21 rfl (lv_at hl 0 rfl) ?_
      refine hg_get hx hb hG igX4 hown hK o_c_1 rfl 0 (by decide) (hG _ mw_154) rfl dX4_push_22 ?_
      refine lv_aload_n hx hb dX4_push_25 rfl (lv_at hl 0 rfl) ?_
      refine hg_get hx hb hG igX4 hown hK o_c_1 rfl 1 (by decide) (hG _ mw_155) rfl dX4_push_26 ?_
      obtain ⟨_, ⟨f_123, rfl, qf_123⟩, o_c_122⟩ := hH q_2 _ kq_2
      refine hg_aald hx hb hK o_c_122 (rg_in (n := 12) rl_0 (by decide) (by decide)) dX4_push_29 ?_
      obtain ⟨w_124, ew_124⟩ : ∃ z, z = f_123 (0 : Int32).toNatClampNeg := ⟨_, rfl⟩
      rw [← ew_124]
      rcases w_124 with _ | y_126
      · refine lv_ifnonnullN hx hb dX4_push_30 ?_
        refine lv_aload_n hx hb dX4_push_33 rfl (lv_at hl 0 rfl) ?_
        refine hg_get hx hb hG igX4 hown hK o_c_1 rfl 0 (by decide) (hG _ mw_154) rfl dX4_push_34 ?_
        refine lv_aload_n hx hb dX4_push_37 rfl (lv_at hl 0 rfl) ?_
        refine hg_get hx hb hG igX4 hown hK o_c_1 rfl 1 (by decide) (hG _ mw_155) rfl dX4_push_38 ?_
        obtain ⟨qn_127, eqn_127⟩ : ∃ z, z = H.size := ⟨_, rfl⟩
        have nqn_127 : Ty qn_127 = none := hH.free (by rw [eqn_127]; exact Nat.le_refl _)
        have gqn_127 : s.heap.size ≤ qn_127 := by rw [eqn_127]; exact hS.1
        refine hg_newQ (ci := 10) (fs := [.null, .null, .null, .int 0, .int 0, .int 0, .int 0]) (C := RX10) (T := TX10) (N := 7) hx hb hG igX10 tyX10 tyX10_ok hown (hG _ mw_152) (hG _ mw_110) (hG _ mw_77) hK hS rfl (fun j hj => by rcases (show j = 0 ∨ j = 1 ∨ j = 2 ∨ j = 3 ∨ j = 4 ∨ j = 5 ∨ j = 6 by omega) with rfl | rfl | rfl | rfl | rfl | rfl | rfl <;> rfl) (Nat.le_of_ble_eq_true rfl) (Nat.le_of_ble_eq_true rfl) dX4_push_41 eqn_127 (fun H oqn_127 zqn_127 pqn_127 hS => ?_)
        have hH : HT g Ty G H := hH.more pqn_127
        have o_c_1 := o_c_1.kept (pqn_127 _ o_c_1.lt)
        have o_c_122 := o_c_122.kept (pqn_127 _ o_c_122.lt)
        refine lv_dup hx hb dX4_push_44 rfl ?_
        have gzqn_127 : qn_127 < H.size := oqn_127.lt
        have gsqn_127 := hS.1
        obtain ⟨T_128, eT_128⟩ : ∃ z, z = tree4 Ty qn_127 H.size := ⟨_, rfl⟩
        have eTqn_127 : Ext s.heap.size Ty T_128 := by rw [eT_128]; exact tree4_ext hH nqn_127 gqn_127 gsqn_127
        have kqqn_127 : T_128 qn_127 = some (20, 0) := by rw [eT_128]; exact tree4_q
        refine va_callv (va_runI (As := []) (rest := [.ref qn_127, .int 0, .ref q_2]) ⟨hx, hb, hml, hown, hts⟩ (c_X10_init l g Ty G H.size qn_127 nqn_127) (cwI 0 hts (gwC mw_113) rfl rfl rfl (hG _ mw_77) (hG _ mw_750) (hG _ mw_112) rfl hd_X10_init ⟨Nat.le_of_ble_eq_true rfl, Nat.le_of_ble_eq_true rfl⟩) ⟨PcC_blind, PcC_pre hK hH oqn_127⟩ rfl rfl hl.1 rfl (lv_room (Nat.le_of_ble_eq_true rfl)) dX4_push_45 ⟨Nat.le_of_ble_eq_true rfl, Nat.le_of_ble_eq_true rfl⟩) hS (fun q _ h => Or.inr (by rcases h with h | h <;> omega)) (fun q h => Or.inr (by rcases h with h | h <;> omega)) (fun _ t H locs ht hvm _ hB hz hk hS => ?_)
        have hH : HT g T_128 G H := by rw [eT_128, ← ht]; exact hB.1
        have o_c_1 := o_c_1.kept (hk _ o_c_1.lt (fun h => by rcases h with h | h; exact ne_none k_h0 nqn_127 h; exact absurd o_c_1.lt (by omega)))
        have k_129 := eTqn_127.1 _ _ k_h0
        have o_c_122 := o_c_122.kept (hk _ o_c_122.lt (fun h => by rcases h with h | h; exact ne_none kq_2 nqn_127 h; exact absurd o_c_122.lt (by omega)))
        have k_130 := eTqn_127.1 _ _ kq_2
        have q_131 : ∀ j t, f_123 j = some t → T_128 t = some (20, 0) := fun j t h => eTqn_127.1 _ _ (qf_123 j t h)
        have k_132 := eTqn_127.1 _ _ k_h0
        have k_133 := eTqn_127.1 _ _ k_b0
        have k_134 := eTqn_127.1 _ _ kq_2
        have hE_135 : Ext s.heap.size Ty T_128 := eTqn_127
        obtain ⟨_, ⟨q_137, q_138, q_139, q_140, q_141, q_142, q_143, rfl, kq_137, kq_138, kq_139⟩, o_c_136⟩ := hH qn_127 _ kqqn_127
        refine hg_aast hx hb hK hS o_c_122 (AF.ofE hE_135 k_130) o_c_136 (rg_in (n := 12) rl_0 (by decide) (by decide)) dX4_push_48 (fun H locs o_c_122 hz oq hS => ?_)
        generalize hff_144 : va_up f_123 _ _ = f_144 at o_c_122
        have qf_144 : ∀ j t, f_144 j = some t → T_128 t = some (20, 0) := by rw [← hff_144]; exact up_all q_131 kqqn_127
        have knf_144 : f_144 (0 : Int32).toNatClampNeg = some qn_127 := by rw [← hff_144]; exact va_upS
        have hH : HT g T_128 G H := hH.put k_130 ⟨_, rfl, qf_144⟩ o_c_122 oq
        have o_c_1 := o_c_1.kept (oq _ (ne_kd k_129 k_130 (by decide)))
        have o_c_136 := o_c_136.kept (oq _ (ne_kd kqqn_127 k_130 (by decide)))
        clear oq hz
        refine lv_aload_n hx hb dX4_push_49 rfl (lv_at hl 0 rfl) ?_
        refine hg_get hx hb hG igX4 hown hK o_c_1 rfl 0 (by decide) (hG _ mw_154) rfl dX4_push_50 ?_
        refine lv_aload_n hx hb dX4_push_53 rfl (lv_at hl 0 rfl) ?_
        refine hg_get hx hb hG igX4 hown hK o_c_1 rfl 1 (by decide) (hG _ mw_155) rfl dX4_push_54 ?_
        refine hg_aald hx hb hK o_c_122 (rg_in (n := 12) rl_0 (by decide) (by decide)) dX4_push_57 ?_
        rw [show va_rf (f_144 (0 : Int32).toNatClampNeg) = Value.ref qn_127 by rw [knf_144]; rfl]
        refine lv_aload_n hx hb dX4_push_58 rfl (lv_at hl 1 rfl) ?_
        refine va_callv (va_runV (As := [.ref b0]) (rest := []) ⟨hx, hb, hml, hown, hts⟩ (c_X10_take l g T_128 G H.size qn_127 b0 (qf_144 _ _ knf_144) k_133) (cwV 1 hts (gwV mw_751 mw_629 mw_630 mw_77 mw_631) rfl rfl rfl hv_X10_take ⟨Nat.le_of_ble_eq_true rfl, Nat.le_of_ble_eq_true rfl⟩) ⟨PcT_blind, hg_recv hK o_c_136 rfl, PcT_pre hK hH⟩ rfl rfl hl.1 rfl (lv_room (Nat.le_of_ble_eq_true rfl)) dX4_push_59 ⟨Nat.le_of_ble_eq_true rfl, Nat.le_of_ble_eq_true rfl⟩) hS (fun q _ h => AF.back hE_135 hS.1 h) (fun q h => AF.back hE_135 hS.1 h) (fun ux_145 t H locs ht hvm hx_145 hB hz hk hS => ?_)
        have hH : HT g T_128 G H := by rw [← ht]; rw [hx_145] at hB; exact hB
        refine lv_aload_n hx hb dX4_push_62 rfl (lv_at hl 0 rfl) ?_
        refine lv_dup hx hb dX4_push_63 rfl ?_
        obtain ⟨_, ⟨q_147, q_148, rfl, kq_147, t_150⟩, o_c_146⟩ := hH h0 _ k_132
        refine hg_get hx hb hG igX4 hown hK o_c_146 rfl 1 (by decide) (hG _ mw_155) rfl dX4_push_64 ?_
        refine lv_iconst (v := 1) hx hb dX4_push_67 (by decide) ?_
        refine lv_iadd hx hb dX4_push_68 ?_
        refine lv_topi (fun x_151 ex_151 => ?_)
        refine hg_put (ty := .int) hx hb hG igX4 tyX4 tyX4_ok nmX4 hown hK hS o_c_146 (AF.ofE hE_135 k_132) rfl 1 (by decide) (hG _ mw_155) rfl (by decide +kernel) rfl rfl (Nat.le_of_ble_eq_true rfl) dX4_push_69 (fun H locs o_c_146 hz oq hS => ?_)
        have o_c_146 : va_at g.1 vwCl (h0, .inr (4, [.ref q_147, .int x_151, .int (G.1 28)])) H := o_c_146
        have hH : HT g T_128 G H := hH.put k_132 ⟨q_147, x_151, rfl, kq_147, t_150⟩ o_c_146 oq
        clear oq hz
        refine lv_aload_n hx hb dX4_push_72 rfl (lv_at hl 0 rfl) ?_
        refine lv_aload_n hx hb dX4_push_73 rfl (lv_at hl 0 rfl) ?_
        refine hg_get hx hb hG igX4 hown hK o_c_146 rfl 2 (by decide) (hG _ mw_156) rfl dX4_push_74 ?_
        refine lv_iconst (v := 1) hx hb dX4_push_77 (by decide) ?_
        refine lv_iadd hx hb dX4_push_78 ?_
        refine lv_topi (fun x_152 ex_152 => ?_)
        refine lv_bipush (v := 12) hx hb dX4_push_79 (by decide) ?_
        refine va_mmin hx hb (by rw [hml]; exact hl.1.symm) hown (hG _ mw_752) (hG _ mw_476) (hG _ mw_91) (hG _ mw_477) (Nat.le_of_ble_eq_true rfl) (Nat.le_of_ble_eq_true rfl) (Nat.le_of_ble_eq_true rfl) (Nat.le_of_ble_eq_true rfl) dX4_push_81 ?_
        refine lv_topi (fun x_153 ex_153 => ?_)
        have rx_153 : rgI (-2147483648) (12) x_153 := by rw [ex_153]; exact rg_w (show rgI (-2147483648) (12) _ from rg_mn (rg_top x_152) rl_12 (by decide) (by decide) (by decide) (by decide)) (by decide) (by decide)
        refine hg_put (ty := .int) hx hb hG igX4 tyX4 tyX4_ok nmX4 hown hK hS o_c_146 (AF.ofE hE_135 k_132) rfl 2 (by decide) (hG _ mw_156) rfl (by decide +kernel) rfl rfl (Nat.le_of_ble_eq_true rfl) dX4_push_84 (fun H locs o_c_146 hz oq hS => ?_)
        obtain ⟨G_154, eG_154⟩ : ∃ z : Gh, z = gset G 28 x_153 := ⟨_, rfl⟩
        have hH : HT g T_128 G_154 H := by rw [eG_154]; exact HT.putM 28 x_153 hH k_132 ⟨q_147, x_151, rfl, kq_147, t_150⟩ o_c_146 oq (⟨⟨by decide, by decide⟩, t_150⟩)
        have fr_155 : FR [28] [] [] G G_154 := FR.n FR.rf eG_154 (by decide)
        have u_156 : G_154.1 28 = x_153 := by rw [eG_154]; exact gs_eq
        clear oq hz
        exact W.vret hx hb hr (fun t ht hWm => ⟨⟨(T_128, G_154), rfl, ⟨hE_135, fr_155⟩, by show HT g T_128 G_154 t.heap; rw [ht]; exact hH⟩, hS.F ht⟩) hS.2.2 dX4_push_87
      · refine lv_ifnonnull (tgt := 49) hx hb dX4_push_30 (by decide) ?_
        refine lv_aload_n hx hb dX4_push_49 rfl (lv_at hl 0 rfl) ?_
        refine hg_get hx hb hG igX4 hown hK o_c_1 rfl 0 (by decide) (hG _ mw_154) rfl dX4_push_50 ?_
        refine lv_aload_n hx hb dX4_push_53 rfl (lv_at hl 0 rfl) ?_
        refine hg_get hx hb hG igX4 hown hK o_c_1 rfl 1 (by decide) (hG _ mw_155) rfl dX4_push_54 ?_
        refine hg_aald hx hb hK o_c_122 (rg_in (n := 12) rl_0 (by decide) (by decide)) dX4_push_57 ?_
        rw [show va_rf (f_123 (0 : Int32).toNatClampNeg) = Value.ref y_126 by rw [ew_124.symm]; rfl]
        refine lv_aload_n hx hb dX4_push_58 rfl (lv_at hl 1 rfl) ?_
        obtain ⟨_, ⟨q_158, q_159, q_160, q_161, q_162, q_163, q_164, rfl, kq_158, kq_159, kq_160⟩, o_c_157⟩ := hH y_126 _ (qf_123 _ _ ew_124.symm)
        refine va_callv (va_runV (As := [.ref b0]) (rest := []) ⟨hx, hb, hml, hown, hts⟩ (c_X10_take l g Ty G H.size y_126 b0 (qf_123 _ _ ew_124.symm) k_b0) (cwV 1 hts (gwV mw_751 mw_629 mw_630 mw_77 mw_631) rfl rfl rfl hv_X10_take ⟨Nat.le_of_ble_eq_true rfl, Nat.le_of_ble_eq_true rfl⟩) ⟨PcT_blind, hg_recv hK o_c_157 rfl, PcT_pre hK hH⟩ rfl rfl hl.1 rfl (lv_room (Nat.le_of_ble_eq_true rfl)) dX4_push_59 ⟨Nat.le_of_ble_eq_true rfl, Nat.le_of_ble_eq_true rfl⟩) hS (fun q _ h => AF.mono hS.1 h) (fun q h => AF.mono hS.1 h) (fun ux_165 t H locs ht hvm hx_165 hB hz hk hS => ?_)
        have hH : HT g Ty G H := by rw [← ht]; rw [hx_165] at hB; exact hB
        refine lv_aload_n hx hb dX4_push_62 rfl (lv_at hl 0 rfl) ?_
        refine lv_dup hx hb dX4_push_63 rfl ?_
        obtain ⟨_, ⟨q_167, q_168, rfl, kq_167, t_170⟩, o_c_166⟩ := hH h0 _ k_h0
        refine hg_get hx hb hG igX4 hown hK o_c_166 rfl 1 (by decide) (hG _ mw_155) rfl dX4_push_64 ?_
        refine lv_iconst (v := 1) hx hb dX4_push_67 (by decide) ?_
        refine lv_iadd hx hb dX4_push_68 ?_
        refine lv_topi (fun x_171 ex_171 => ?_)
        refine hg_put (ty := .int) hx hb hG igX4 tyX4 tyX4_ok nmX4 hown hK hS o_c_166 (AF.of k_h0) rfl 1 (by decide) (hG _ mw_155) rfl (by decide +kernel) rfl rfl (Nat.le_of_ble_eq_true rfl) dX4_push_69 (fun H locs o_c_166 hz oq hS => ?_)
        have o_c_166 : va_at g.1 vwCl (h0, .inr (4, [.ref q_167, .int x_171, .int (G.1 28)])) H := o_c_166
        have hH : HT g Ty G H := hH.put k_h0 ⟨q_167, x_171, rfl, kq_167, t_170⟩ o_c_166 oq
        clear oq hz
        refine lv_aload_n hx hb dX4_push_72 rfl (lv_at hl 0 rfl) ?_
        refine lv_aload_n hx hb dX4_push_73 rfl (lv_at hl 0 rfl) ?_
        refine hg_get hx hb hG igX4 hown hK o_c_166 rfl 2 (by decide) (hG _ mw_156) rfl dX4_push_74 ?_
        refine lv_iconst (v := 1) hx hb dX4_push_77 (by decide) ?_
        refine lv_iadd hx hb dX4_push_78 ?_
        refine lv_topi (fun x_172 ex_172 => ?_)
        refine lv_bipush (v := 12) hx hb dX4_push_79 (by decide) ?_
        refine va_mmin hx hb (by rw [hml]; exact hl.1.symm) hown (hG _ mw_752) (hG _ mw_476) (hG _ mw_91) (hG _ mw_477) (Nat.le_of_ble_eq_true rfl) (Nat.le_of_ble_eq_true rfl) (Nat.le_of_ble_eq_true rfl) (Nat.le_of_ble_eq_true rfl) dX4_push_81 ?_
        refine lv_topi (fun x_173 ex_173 => ?_)
        have rx_173 : rgI (-2147483648) (12) x_173 := by rw [ex_173]; exact rg_w (show rgI (-2147483648) (12) _ from rg_mn (rg_top x_172) rl_12 (by decide) (by decide) (by decide) (by decide)) (by decide) (by decide)
        refine hg_put (ty := .int) hx hb hG igX4 tyX4 tyX4_ok nmX4 hown hK hS o_c_166 (AF.of k_h0) rfl 2 (by decide) (hG _ mw_156) rfl (by decide +kernel) rfl rfl (Nat.le_of_ble_eq_true rfl) dX4_push_84 (fun H locs o_c_166 hz oq hS => ?_)
        obtain ⟨G_174, eG_174⟩ : ∃ z : Gh, z = gset G 28 x_173 := ⟨_, rfl⟩
        have hH : HT g Ty G_174 H := by rw [eG_174]; exact HT.putM 28 x_173 hH k_h0 ⟨q_167, x_171, rfl, kq_167, t_170⟩ o_c_166 oq (⟨⟨by decide, by decide⟩, t_170⟩)
        have fr_175 : FR [28] [] [] G G_174 := FR.n FR.rf eG_174 (by decide)
        have u_176 : G_174.1 28 = x_173 := by rw [eG_174]; exact gs_eq
        clear oq hz
        refine W.widen (k := 4) (n := 79) (by decide) (by decide) ?_
        exact W.vret hx hb hr (fun t ht hWm => ⟨⟨(Ty, G_174), rfl, ⟨Ext.rf, fr_175⟩, by show HT g Ty G_174 t.heap; rw [ht]; exact hH⟩, hS.F ht⟩) hS.2.2 dX4_push_87

def F_X11_remembered (a0 : Int32) : Int32 := (if a0 < (0 : Int32) then a0 else a0)
set_option maxHeartbeats 4000000 in
set_option maxRecDepth 100000 in
theorem c_X11_remembered (l : Launch) (g : Gx) (Ty : TyM) (G : Gh) (sz : Nat) (h0 : Nat) (a0 : Int32) (k_h0 : Ty h0 = some (21, 0)) (hD1 : LD1 g) : Met l yX11_remembered (wsG yX11_remembered cX11_remembered 2 (some .int)) ({ frames := 3, cells := 4, slots := 79, locals := 54 }) (PcT g Ty G sz [.ref h0, .int a0]) (QwI g Ty sz (fun r u => Ext sz Ty u.1 ∧ FR [28] [] [] G u.2 ∧ F_X11_remembered a0 = r)) 4 79 (AF Ty sz) := by
  refine Met.ofW (cc := cX11_remembered) (maxL := 2) (ret := (some .int)) (by decide) rfl ?_
  intro p e s m args below meth c s₁ B hml hv
  obtain ⟨rfl, hsz, hK, hH⟩ := hv
  subst hsz
  have hx := B.exec
  have hb := B.bytes
  have hr := B.returns
  have hts := atoms_spec (ws := (wsG yX11_remembered cX11_remembered 2 (some .int))) B.pre
  have hG : ∀ w ∈ GW, w.before ([.ref h0, .int a0] : List Value).toArray s = true := fun w h => hts w (List.mem_cons_of_mem _ h)
  have hown : s.vm.findClass RX11 = some m.cls := findClass_of_methodNamed B.named
  have hlocks := B.notSynchronized
  have hl := lv_entry [.ref h0, .int a0] (n := 2) (Nat.le_of_ble_eq_true rfl)
  rw [lg_entry_eq]
  generalize (lg_sl [.ref h0, .int a0] ++ List.replicate (2 - (lg_sl [.ref h0, .int a0]).length) Slot.unset).toArray = ls at hl ⊢
  have hl : lv_has ls 2 [(0, .ref h0), (1, .int a0)] := hl
  have hv : (if a0 < (0 : Int32) then a0 else a0) = F_X11_remembered a0 := rfl
  have hS : va_S (AF Ty s.heap.size) s.heap s.heap [] := va_S.rf
  have L_15 : ∀ (H : Heap) (locs : List Loc) (Ty_15 : TyM) (G_15 : Gh) (ls : Array Slot), Ext s.heap.size Ty Ty_15 → FR [28] [] [] G G_15 → lv_has ls 2 [(1, .int a0)] → a0 = F_X11_remembered a0 → HT g Ty_15 G_15 H → va_S (AF Ty s.heap.size) s.heap H locs → Wm p l e (wsG yX11_remembered cX11_remembered 2 (some .int)) ({ frames := 3, cells := 4, slots := 79, locals := 54 }) s m [.ref h0, .int a0] below meth c H locs (4) (79) (QwI g Ty s.heap.size (fun r u => Ext s.heap.size Ty u.1 ∧ FR [28] [] [] G u.2 ∧ F_X11_remembered a0 = r)) 4 79 (AF Ty s.heap.size) (F0 m 15 ls []) := by
    intro H locs Ty_15 G_15 ls hE_15 frL_15 hl hv hH hS
    refine lv_iload_n hx hb dX11_remembered_15 rfl (lv_at hl 0 rfl) ?_
    exact W.iret hx hb hr (fun t ht hWm => ⟨⟨a0, (Ty_15, G_15), rfl, ⟨hE_15, ⟨frL_15, hv.symm⟩⟩, by show HT g Ty_15 G_15 t.heap; rw [ht]; exact hH⟩, hS.F ht⟩) hS.2.2 dX11_remembered_16
  refine lv_iload_n hx hb dX11_remembered_0 rfl (lv_at hl 1 rfl) ?_
  refine lv_if_lt (tgt := 15) hx hb dX11_remembered_1 (by decide) (fun c_1 => ?_) (fun c_1 => ?_)
  · rw [if_pos c_1] at hv
    have r_2 : rgI (-2147483648) (-1) a0 := rg_w (rg_ltL (rg_top a0) rl_0 c_1) (by decide) (by decide)
    refine W.widen (k := 4) (n := 79) (by decide) (by decide) ?_
    exact L_15 s.heap [] Ty G ls Ext.rf FR.rf (lv_sub hl [1] rfl) hv hH hS
  · rw [if_neg c_1] at hv
    have r_3 : rgI (0) (2147483647) a0 := rg_w (rg_leR rl_0 (rg_top a0) (nlt_le c_1)) (by decide) (by decide)
    refine lv_aload_n hx hb dX11_remembered_4 rfl (lv_at hl 0 rfl) ?_
    obtain ⟨_, ⟨rfl, kq_5, kq_6, kq_7, kq_8, kq_9, kq_10, kq_11, kq_12, kq_13, kq_14, kq_15, kq_16, kq_17, kq_18, t_20⟩, o_c_4⟩ := hH h0 _ k_h0
    refine hg_get hx hb hG igX11 hown hK o_c_4 rfl 2 (by decide) (hG _ mw_359) rfl dX11_remembered_5 ?_
    refine lv_aload_n hx hb dX11_remembered_8 rfl (lv_at hl 0 rfl) ?_
    refine hg_get hx hb hG igX11 hown hK o_c_4 rfl 1 (by decide) (hG _ mw_358) rfl dX11_remembered_9 ?_
    obtain ⟨_, ⟨q_22, q_23, rfl, kq_22, t_25⟩, o_c_21⟩ := hH (g.2.2 2) _ kq_7
    have hLx_26 := hS.1
    refine va_callv (va_runV (As := [.ref (g.2.2 1)]) (rest := []) ⟨hx, hb, hml, hown, hts⟩ (c_X4_push l g Ty G s.heap.size (g.2.2 2) (g.2.2 1) kq_7 kq_6 hD1) (cwV 1 hts (gwV mw_746 mw_747 mw_748 mw_78 mw_749) rfl rfl rfl hv_X4_push ⟨Nat.le_of_ble_eq_true rfl, Nat.le_of_ble_eq_true rfl⟩) ⟨PcT_blind, hg_recv hK o_c_21 rfl, PcT_pre hK hH⟩ rfl rfl hl.1 rfl (lv_room (Nat.le_of_ble_eq_true rfl)) dX11_remembered_12 ⟨Nat.le_of_ble_eq_true rfl, Nat.le_of_ble_eq_true rfl⟩) hS (fun q _ h => AF.mono hS.1 h) (fun q h => AF.mono hS.1 h) (fun ux_26 t H locs ht hvm hx_26 hB hz hk hS => ?_)
    obtain ⟨eTx_26, eGx_26⟩ := hx_26
    obtain ⟨T_27, eT_27⟩ : ∃ z, z = ux_26.1 := ⟨_, rfl⟩
    rw [← eT_27] at eTx_26
    have k_28 := eTx_26.1 _ _ k_h0
    have hE_29 : Ext s.heap.size Ty T_27 := Ext.le hLx_26 eTx_26
    obtain ⟨G_30, eG_30⟩ : ∃ z, z = ux_26.2 := ⟨_, rfl⟩
    rw [← eG_30] at eGx_26
    have fr_31 : FR [28] [] [] G G_30 := FR.tr FR.rf eGx_26 (by decide) (fun _ _ => trivial) (by decide)
    have hH : HT g T_27 G_30 H := by rw [← ht, eT_27, eG_30]; exact hB
    exact L_15 H locs T_27 G_30 ls hE_29 fr_31 (lv_sub hl [1] rfl) hv hH hS

def F_X11_toldWithCame (a0 : Int32) : Int32 := (if (F_X11_remembered a0) < (0 : Int32) then a0 else a0)
set_option maxHeartbeats 4000000 in
set_option maxRecDepth 100000 in
theorem c_X11_toldWithCame (l : Launch) (g : Gx) (Ty : TyM) (G : Gh) (sz : Nat) (h0 : Nat) (a0 : Int32) (k_h0 : Ty h0 = some (21, 0)) (hD1 : LD1 g) : Met l yX11_toldWithCame (wsG yX11_toldWithCame cX11_toldWithCame 3 (some .int)) ({ frames := 4, cells := 4, slots := 79, locals := 75 }) (PcT g Ty G sz [.ref h0, .int a0]) (QwI g Ty sz (fun r u => Ext sz Ty u.1 ∧ FR [27, 28] [] [] G u.2 ∧ F_X11_toldWithCame a0 = r)) 4 79 (AF Ty sz) := by
  refine Met.ofW (cc := cX11_toldWithCame) (maxL := 3) (ret := (some .int)) (by decide) rfl ?_
  intro p e s m args below meth c s₁ B hml hv
  obtain ⟨rfl, hsz, hK, hH⟩ := hv
  subst hsz
  have hx := B.exec
  have hb := B.bytes
  have hr := B.returns
  have hts := atoms_spec (ws := (wsG yX11_toldWithCame cX11_toldWithCame 3 (some .int))) B.pre
  have hG : ∀ w ∈ GW, w.before ([.ref h0, .int a0] : List Value).toArray s = true := fun w h => hts w (List.mem_cons_of_mem _ h)
  have hown : s.vm.findClass RX11 = some m.cls := findClass_of_methodNamed B.named
  have hlocks := B.notSynchronized
  have hl := lv_entry [.ref h0, .int a0] (n := 3) (Nat.le_of_ble_eq_true rfl)
  rw [lg_entry_eq]
  generalize (lg_sl [.ref h0, .int a0] ++ List.replicate (3 - (lg_sl [.ref h0, .int a0]).length) Slot.unset).toArray = ls at hl ⊢
  have hl : lv_has ls 3 [(0, .ref h0), (1, .int a0)] := hl
  have hv : (if (F_X11_remembered a0) < (0 : Int32) then a0 else a0) = F_X11_toldWithCame a0 := rfl
  have hS : va_S (AF Ty s.heap.size) s.heap s.heap [] := va_S.rf
  have L_40 : ∀ (H : Heap) (locs : List Loc) (Ty_40 : TyM) (G_40 : Gh) (ls : Array Slot), Ext s.heap.size Ty Ty_40 → FR [27, 28] [] [] G G_40 → lv_has ls 3 [(1, .int a0)] → a0 = F_X11_toldWithCame a0 → HT g Ty_40 G_40 H → va_S (AF Ty s.heap.size) s.heap H locs → Wm p l e (wsG yX11_toldWithCame cX11_toldWithCame 3 (some .int)) ({ frames := 4, cells := 4, slots := 79, locals := 75 }) s m [.ref h0, .int a0] below meth c H locs (4) (79) (QwI g Ty s.heap.size (fun r u => Ext s.heap.size Ty u.1 ∧ FR [27, 28] [] [] G u.2 ∧ F_X11_toldWithCame a0 = r)) 4 79 (AF Ty s.heap.size) (F0 m 40 ls []) := by
    intro H locs Ty_40 G_40 ls hE_40 frL_40 hl hv hH hS
    refine lv_iload_n hx hb dX11_toldWithCame_40 rfl (lv_at hl 0 rfl) ?_
    exact W.iret hx hb hr (fun t ht hWm => ⟨⟨a0, (Ty_40, G_40), rfl, ⟨hE_40, ⟨frL_40, hv.symm⟩⟩, by show HT g Ty_40 G_40 t.heap; rw [ht]; exact hH⟩, hS.F ht⟩) hS.2.2 dX11_toldWithCame_41
  refine lv_aload_n hx hb dX11_toldWithCame_0 rfl (lv_at hl 0 rfl) ?_
  refine lv_iload_n hx hb dX11_toldWithCame_1 rfl (lv_at hl 1 rfl) ?_
  obtain ⟨_, ⟨rfl, kq_2, kq_3, kq_4, kq_5, kq_6, kq_7, kq_8, kq_9, kq_10, kq_11, kq_12, kq_13, kq_14, kq_15, t_17⟩, o_c_1⟩ := hH h0 _ k_h0
  have hLx_18 := hS.1
  refine va_calli (va_runV (As := [.int a0]) (rest := []) ⟨hx, hb, hml, hown, hts⟩ (c_X11_remembered l g Ty G s.heap.size h0 a0 k_h0 hD1) (cwV 1 hts (gwV mw_742 mw_744 mw_16 mw_76 mw_745) rfl rfl rfl hv_X11_remembered ⟨Nat.le_of_ble_eq_true rfl, Nat.le_of_ble_eq_true rfl⟩) ⟨PcT_blind, hg_recv hK o_c_1 rfl, PcT_pre hK hH⟩ rfl rfl hl.1 rfl (lv_room (Nat.le_of_ble_eq_true rfl)) dX11_toldWithCame_2 ⟨Nat.le_of_ble_eq_true rfl, Nat.le_of_ble_eq_true rfl⟩) hS (fun q _ h => AF.mono hS.1 h) (fun q h => AF.mono hS.1 h) (fun x_18 ux_18 t H locs ht hvm hx_18 hB hz hk hS => ?_)
  obtain ⟨eTx_18, eGx_18⟩ := hx_18
  obtain ⟨T_19, eT_19⟩ : ∃ z, z = ux_18.1 := ⟨_, rfl⟩
  rw [← eT_19] at eTx_18
  have k_20 := eTx_18.1 _ _ k_h0
  have hE_21 : Ext s.heap.size Ty T_19 := Ext.le hLx_18 eTx_18
  obtain ⟨G_22, eG_22⟩ : ∃ z, z = ux_18.2 := ⟨_, rfl⟩
  rw [← eG_22] at eGx_18
  obtain ⟨hfr_23, hex_24⟩ := eGx_18
  have fr_25 : FR [27, 28] [] [] G G_22 := FR.tr FR.rf hfr_23 (by decide) (fun _ _ => trivial) (by decide)
  have hq_26 : F_X11_remembered a0 = x_18 := by have q := hex_24; exact q
  try rw [hq_26] at hv
  have hH : HT g T_19 G_22 H := by rw [← ht, eT_19, eG_22]; exact hB
  refine lv_if_lt (tgt := 40) hx hb dX11_toldWithCame_5 (by decide) (fun c_27 => ?_) (fun c_27 => ?_)
  · rw [if_pos c_27] at hv
    have r_28 : rgI (-2147483648) (-1) x_18 := rg_w (rg_ltL (rg_top x_18) rl_0 c_27) (by decide) (by decide)
    exact L_40 H locs T_19 G_22 ls hE_21 fr_25 (lv_sub hl [1] rfl) hv hH hS
  · rw [if_neg c_27] at hv
    have r_29 : rgI (0) (2147483647) x_18 := rg_w (rg_leR rl_0 (rg_top x_18) (nlt_le c_27)) (by decide) (by decide)
    refine lv_aload_n hx hb dX11_toldWithCame_8 rfl (lv_at hl 0 rfl) ?_
    obtain ⟨_, ⟨rfl, kq_31, kq_32, kq_33, kq_34, kq_35, kq_36, kq_37, kq_38, kq_39, kq_40, kq_41, kq_42, kq_43, kq_44, t_46⟩, o_c_30⟩ := hH h0 _ k_20
    refine hg_get hx hb hG igX11 hown hK o_c_30 rfl 0 (by decide) (hG _ mw_357) rfl dX11_toldWithCame_9 ?_
    obtain ⟨_, ⟨rfl, kq_48, kq_49, kq_50, t_55⟩, o_c_47⟩ := hH (g.2.2 0) _ kq_31
    refine hg_getN hx hb hG igX10 hown hK o_c_47 rfl 3 (by decide) ((hK.2.1 _ nwf_121).use rfl) rfl dX11_toldWithCame_12 ?_
    refine lv_aload_n hx hb dX11_toldWithCame_15 rfl (lv_at hl 0 rfl) ?_
    refine hg_get hx hb hG igX11 hown hK o_c_30 rfl 1 (by decide) (hG _ mw_358) rfl dX11_toldWithCame_16 ?_
    obtain ⟨_, ⟨q_57, q_58, q_59, q_60, q_61, q_62, q_63, rfl, kq_57, kq_58, kq_59⟩, o_c_56⟩ := hH (g.2.2 1) _ kq_32
    refine hg_getN hx hb hG igX10 hown hK o_c_56 rfl 3 (by decide) ((hK.2.1 _ nwf_121).use rfl) rfl dX11_toldWithCame_19 ?_
    refine lv_iconst (v := (-1)) hx hb dX11_toldWithCame_22 (by decide) ?_
    refine lv_ixor hx hb dX11_toldWithCame_23 ?_
    refine lv_topi (fun x_64 ex_64 => ?_)
    try rw [← ex_64] at hv
    refine lv_iand hx hb dX11_toldWithCame_24 ?_
    refine lv_topi (fun x_65 ex_65 => ?_)
    try rw [← ex_65] at hv
    refine lv_istore_n (lv' := [(2, .int x_65), (0, .ref h0), (1, .int a0)]) hx hb dX11_toldWithCame_25 rfl hl (by decide) rfl (fun ls hl => ?_)
    refine lv_aload_n hx hb dX11_toldWithCame_26 rfl (lv_at hl 1 rfl) ?_
    refine hg_get hx hb hG igX11 hown hK o_c_30 rfl 5 (by decide) (hG _ mw_362) rfl dX11_toldWithCame_27 ?_
    refine lv_iload_n hx hb dX11_toldWithCame_30 rfl (lv_at hl 0 rfl) ?_
    refine vp_callSi (W.runS (As := [.int x_65]) (rest := [.ref (g.2.2 5)]) ⟨hx, hb, hml, hown, hts⟩ (c_J6_bitCount_x l g T_19 G_22 x_65 ) (cwSx 1 hts hG (gwC mw_620) mw_99 mw_618 mw_619 rfl rfl rfl hd_J6_bitCount_0f7a4 ⟨Nat.le_of_ble_eq_true rfl, Nat.le_of_ble_eq_true rfl⟩) ⟨PcH_blind, PcH_pre hK hH⟩ rfl rfl hl.1 rfl (lv_room (Nat.le_of_ble_eq_true rfl)) dX11_toldWithCame_31 ⟨Nat.le_of_ble_eq_true rfl, Nat.le_of_ble_eq_true rfl⟩) (fun x_66 hx_66 => ?_)
    have rx_66 : rgI (0) (63) x_66 := hx_66.1
    try rw [← hx_66.2] at hv
    try rw [← hx_66.2] at hv
    refine lv_i2l hx hb dX11_toldWithCame_34 rfl ?_
    refine lv_topl (fun u_67 eu_67 => ?_)
    refine lv_iload_n hx hb dX11_toldWithCame_35 rfl (lv_at hl 0 rfl) ?_
    refine lv_i2l hx hb dX11_toldWithCame_36 rfl ?_
    refine lv_topl (fun u_68 eu_68 => ?_)
    obtain ⟨_, ⟨q_70, rfl, kq_70, rq_71, t_72⟩, o_c_69⟩ := hH (g.2.2 5) _ kq_36
    refine va_callv (va_runV (As := [.long u_67, .long u_68]) (rest := []) ⟨hx, hb, hml, hown, hts⟩ (c_X7_tellTwo l g T_19 G_22 H.size (g.2.2 5) u_67 u_68 kq_36 hD1) (cwV 2 hts (gwV mw_753 mw_754 mw_755 mw_80 mw_756) rfl rfl rfl hv_X7_tellTwo ⟨Nat.le_of_ble_eq_true rfl, Nat.le_of_ble_eq_true rfl⟩) ⟨PcT_blind, hg_recv hK o_c_69 rfl, PcT_pre hK hH⟩ rfl rfl hl.1 rfl (lv_room (Nat.le_of_ble_eq_true rfl)) dX11_toldWithCame_37 ⟨Nat.le_of_ble_eq_true rfl, Nat.le_of_ble_eq_true rfl⟩) hS (fun q _ h => AF.back hE_21 hS.1 h) (fun q h => AF.back hE_21 hS.1 h) (fun ux_73 t H locs ht hvm hx_73 hB hz hk hS => ?_)
    obtain ⟨eTx_73, eGx_73⟩ := hx_73
    obtain ⟨G_74, eG_74⟩ : ∃ z, z = ux_73.2 := ⟨_, rfl⟩
    rw [← eG_74] at eGx_73
    have fr_75 : FR [27, 28] [] [] G G_74 := FR.tr fr_25 eGx_73 (by decide) (fun _ _ => trivial) (by decide)
    have hH : HT g T_19 G_74 H := by rw [← ht, ← eTx_73, eG_74]; exact hB
    exact L_40 H locs T_19 G_74 ls hE_21 fr_75 (lv_sub hl [2] rfl) hv hH hS

def F_X11_mounts (r0 : Nat → Int32) (r1 : Nat → Int32) (r2 : Nat → Int32) (r3 : Nat → Int32) (m20 : Int32) (m22 : Int32) (m23 : Int32) (a0 : Int32) (a1 : Int32) : Int32 × (Nat → Int32) × (Nat → Int32) × (Nat → Int32) × (Nat → Int32) × Int32 × Int32 × Int32 := (tu8 (F_X0_mountNew r0 r1 r2 r3 m20 m22 m23 a0 a1) (fun z9 z10 z11 z12 z13 z14 z15 z16 => ((F_X11_toldWithCame z9), z10, z11, z12, z13, z14, z15, z16)))
set_option maxHeartbeats 4000000 in
set_option maxRecDepth 100000 in
theorem c_X11_mounts (l : Launch) (g : Gx) (Ty : TyM) (G : Gh) (sz : Nat) (h0 : Nat) (a0 : Int32) (a1 : Int32) (k_h0 : Ty h0 = some (21, 0)) (hD1 : LD1 g) (h24 : G.1 24 = 0) : Met l yX11_mounts (wsG yX11_mounts cX11_mounts 3 (some .int)) ({ frames := 6, cells := 4, slots := 79, locals := 146 }) (PcT g Ty G sz [.ref h0, .int a0, .int a1]) (QwI g Ty sz (fun r u => Ext sz Ty u.1 ∧ FR [20, 22, 23, 27, 28] [(g.2.2 70), (g.2.2 71), (g.2.2 72), (g.2.2 73)] [] G u.2 ∧ F_X11_mounts (G.2.1 (g.2.2 70)) (G.2.1 (g.2.2 71)) (G.2.1 (g.2.2 72)) (G.2.1 (g.2.2 73)) (G.1 20) (G.1 22) (G.1 23) a0 a1 = (r, (u.2.2.1 (g.2.2 70)), (u.2.2.1 (g.2.2 71)), (u.2.2.1 (g.2.2 72)), (u.2.2.1 (g.2.2 73)), (u.2.1 20), (u.2.1 22), (u.2.1 23)))) 4 79 (AF Ty sz) := by
  refine Met.ofW (cc := cX11_mounts) (maxL := 3) (ret := (some .int)) (by decide) rfl ?_
  intro p e s m args below meth c s₁ B hml hv
  obtain ⟨rfl, hsz, hK, hH⟩ := hv
  subst hsz
  have hx := B.exec
  have hb := B.bytes
  have hr := B.returns
  have hts := atoms_spec (ws := (wsG yX11_mounts cX11_mounts 3 (some .int))) B.pre
  have hG : ∀ w ∈ GW, w.before ([.ref h0, .int a0, .int a1] : List Value).toArray s = true := fun w h => hts w (List.mem_cons_of_mem _ h)
  have hown : s.vm.findClass RX11 = some m.cls := findClass_of_methodNamed B.named
  have hlocks := B.notSynchronized
  have hl := lv_entry [.ref h0, .int a0, .int a1] (n := 3) (Nat.le_of_ble_eq_true rfl)
  rw [lg_entry_eq]
  generalize (lg_sl [.ref h0, .int a0, .int a1] ++ List.replicate (3 - (lg_sl [.ref h0, .int a0, .int a1]).length) Slot.unset).toArray = ls at hl ⊢
  have hl : lv_has ls 3 [(0, .ref h0), (1, .int a0), (2, .int a1)] := hl
  have hv : (tu8 (F_X0_mountNew (G.2.1 (g.2.2 70)) (G.2.1 (g.2.2 71)) (G.2.1 (g.2.2 72)) (G.2.1 (g.2.2 73)) (G.1 20) (G.1 22) (G.1 23) a0 a1) (fun z1 z2 z3 z4 z5 z6 z7 z8 => ((F_X11_toldWithCame z1), z2, z3, z4, z5, z6, z7, z8))) = F_X11_mounts (G.2.1 (g.2.2 70)) (G.2.1 (g.2.2 71)) (G.2.1 (g.2.2 72)) (G.2.1 (g.2.2 73)) (G.1 20) (G.1 22) (G.1 23) a0 a1 := rfl
  have hS : va_S (AF Ty s.heap.size) s.heap s.heap [] := va_S.rf
  refine lv_aload_n hx hb dX11_mounts_0 rfl (lv_at hl 0 rfl) ?_
  obtain ⟨_, ⟨rfl, kq_2, kq_3, kq_4, kq_5, kq_6, kq_7, kq_8, kq_9, kq_10, kq_11, kq_12, kq_13, kq_14, kq_15, t_17⟩, o_c_1⟩ := hH h0 _ k_h0
  refine hg_get hx hb hG igX11 hown hK o_c_1 rfl 1 (by decide) (hG _ mw_358) rfl dX11_mounts_1 ?_
  refine lv_aload_n hx hb dX11_mounts_4 rfl (lv_at hl 0 rfl) ?_
  refine hg_get hx hb hG igX11 hown hK o_c_1 rfl 0 (by decide) (hG _ mw_357) rfl dX11_mounts_5 ?_
  obtain ⟨_, ⟨q_19, q_20, q_21, q_22, q_23, q_24, q_25, rfl, kq_19, kq_20, kq_21⟩, o_c_18⟩ := hH (g.2.2 1) _ kq_3
  refine va_callv (va_runV (As := [.ref (g.2.2 0)]) (rest := []) ⟨hx, hb, hml, hown, hts⟩ (c_X10_take_n l g Ty G s.heap.size (g.2.2 1) (g.2.2 0) kq_3 kq_2) (cwV 1 hts (gwV mw_628 mw_629 mw_630 mw_77 mw_631) rfl rfl rfl hv_X10_take ⟨Nat.le_of_ble_eq_true rfl, Nat.le_of_ble_eq_true rfl⟩) ⟨PcT_blind, hg_recv hK o_c_18 rfl, PcT_pre hK hH⟩ rfl rfl hl.1 rfl (lv_room (Nat.le_of_ble_eq_true rfl)) dX11_mounts_8 ⟨Nat.le_of_ble_eq_true rfl, Nat.le_of_ble_eq_true rfl⟩) hS (fun q _ h => AF.mono hS.1 h) (fun q h => AF.mono hS.1 h) (fun ux_26 t H locs ht hvm hx_26 hB hz hk hS => ?_)
  have hH : HT g Ty G H := by rw [← ht]; rw [hx_26] at hB; exact hB
  refine lv_aload_n hx hb dX11_mounts_11 rfl (lv_at hl 0 rfl) ?_
  refine lv_aload_n hx hb dX11_mounts_12 rfl (lv_at hl 0 rfl) ?_
  obtain ⟨_, ⟨rfl, kq_28, kq_29, kq_30, kq_31, kq_32, kq_33, kq_34, kq_35, kq_36, kq_37, kq_38, kq_39, kq_40, kq_41, t_43⟩, o_c_27⟩ := hH h0 _ k_h0
  refine hg_get hx hb hG igX11 hown hK o_c_27 rfl 8 (by decide) (hG _ mw_365) rfl dX11_mounts_13 ?_
  refine lv_iload_n hx hb dX11_mounts_16 rfl (lv_at hl 1 rfl) ?_
  refine lv_iload_n hx hb dX11_mounts_17 rfl (lv_at hl 2 rfl) ?_
  obtain ⟨_, ⟨rfl, kq_45, kq_46, kq_47⟩, o_c_44⟩ := hH (g.2.2 8) _ kq_36
  refine va_calli (va_runV (As := [.int a0, .int a1]) (rest := [.ref h0]) ⟨hx, hb, hml, hown, hts⟩ (c_X0_mountNew l g Ty G H.size (g.2.2 8) a0 a1 kq_36 hD1 h24) (cwV 2 hts (gwV mw_632 mw_633 mw_634 mw_82 mw_635) rfl rfl rfl hv_X0_mountNew ⟨Nat.le_of_ble_eq_true rfl, Nat.le_of_ble_eq_true rfl⟩) ⟨PcT_blind, hg_recv hK o_c_44 rfl, PcT_pre hK hH⟩ rfl rfl hl.1 rfl (lv_room (Nat.le_of_ble_eq_true rfl)) dX11_mounts_18 ⟨Nat.le_of_ble_eq_true rfl, Nat.le_of_ble_eq_true rfl⟩) hS (fun q _ h => AF.mono hS.1 h) (fun q h => AF.mono hS.1 h) (fun x_48 ux_48 t H locs ht hvm hx_48 hB hz hk hS => ?_)
  obtain ⟨eTx_48, eGx_48⟩ := hx_48
  obtain ⟨G_49, eG_49⟩ : ∃ z, z = ux_48.2 := ⟨_, rfl⟩
  rw [← eG_49] at eGx_48
  obtain ⟨hfr_50, hex_51⟩ := eGx_48
  have fr_52 : FR [20, 22, 23, 27, 28] [(g.2.2 70), (g.2.2 71), (g.2.2 72), (g.2.2 73)] [] G G_49 := FR.tr FR.rf hfr_50 (by decide) (fun b h => ⟨h.1, h.2.1, h.2.2.1, h.2.2.2.1, trivial⟩) (by decide)
  have u_53 : G_49.1 24 = 0 := (hfr_50.1 24 (by decide)).trans h24
  obtain ⟨f_54, ef_54⟩ : ∃ z : Nat → Int32, G_49.2.1 (g.2.2 70) = z := ⟨_, rfl⟩
  obtain ⟨f_55, ef_55⟩ : ∃ z : Nat → Int32, G_49.2.1 (g.2.2 71) = z := ⟨_, rfl⟩
  obtain ⟨f_56, ef_56⟩ : ∃ z : Nat → Int32, G_49.2.1 (g.2.2 72) = z := ⟨_, rfl⟩
  obtain ⟨f_57, ef_57⟩ : ∃ z : Nat → Int32, G_49.2.1 (g.2.2 73) = z := ⟨_, rfl⟩
  obtain ⟨n_58, en_58⟩ : ∃ z : Int32, G_49.1 20 = z := ⟨_, rfl⟩
  obtain ⟨n_59, en_59⟩ : ∃ z : Int32, G_49.1 22 = z := ⟨_, rfl⟩
  obtain ⟨n_60, en_60⟩ : ∃ z : Int32, G_49.1 23 = z := ⟨_, rfl⟩
  have hq_61 : F_X0_mountNew (G.2.1 (g.2.2 70)) (G.2.1 (g.2.2 71)) (G.2.1 (g.2.2 72)) (G.2.1 (g.2.2 73)) (G.1 20) (G.1 22) (G.1 23) a0 a1 = (x_48, f_54, f_55, f_56, f_57, n_58, n_59, n_60) := by have q := hex_51; rw [ef_54, ef_55, ef_56, ef_57, en_58, en_59, en_60] at q; exact q
  rw [hq_61, tu8_eq] at hv
  have hH : HT g Ty G_49 H := by rw [← ht, ← eTx_48, eG_49]; exact hB
  obtain ⟨_, ⟨rfl, kq_63, kq_64, kq_65, kq_66, kq_67, kq_68, kq_69, kq_70, kq_71, kq_72, kq_73, kq_74, kq_75, kq_76, t_78⟩, o_c_62⟩ := hH h0 _ k_h0
  have hLx_79 := hS.1
  refine va_calli (va_runV (As := [.int x_48]) (rest := []) ⟨hx, hb, hml, hown, hts⟩ (c_X11_toldWithCame l g Ty G_49 H.size h0 x_48 k_h0 hD1) (cwV 1 hts (gwV mw_738 mw_740 mw_15 mw_76 mw_741) rfl rfl rfl hv_X11_toldWithCame ⟨Nat.le_of_ble_eq_true rfl, Nat.le_of_ble_eq_true rfl⟩) ⟨PcT_blind, hg_recv hK o_c_62 rfl, PcT_pre hK hH⟩ rfl rfl hl.1 rfl (lv_room (Nat.le_of_ble_eq_true rfl)) dX11_mounts_21 ⟨Nat.le_of_ble_eq_true rfl, Nat.le_of_ble_eq_true rfl⟩) hS (fun q _ h => AF.mono hS.1 h) (fun q h => AF.mono hS.1 h) (fun x_79 ux_79 t H locs ht hvm hx_79 hB hz hk hS => ?_)
  obtain ⟨eTx_79, eGx_79⟩ := hx_79
  obtain ⟨T_80, eT_80⟩ : ∃ z, z = ux_79.1 := ⟨_, rfl⟩
  rw [← eT_80] at eTx_79
  have k_81 := eTx_79.1 _ _ k_h0
  have hE_82 : Ext s.heap.size Ty T_80 := Ext.le hLx_79 eTx_79
  obtain ⟨G_83, eG_83⟩ : ∃ z, z = ux_79.2 := ⟨_, rfl⟩
  rw [← eG_83] at eGx_79
  obtain ⟨hfr_84, hex_85⟩ := eGx_79
  have fr_86 : FR [20, 22, 23, 27, 28] [(g.2.2 70), (g.2.2 71), (g.2.2 72), (g.2.2 73)] [] G G_83 := FR.tr fr_52 hfr_84 (by decide) (fun _ _ => trivial) (by decide)
  have u_87 : G_83.1 24 = 0 := (hfr_84.1 24 (by decide)).trans u_53
  have u_88 : G_83.1 20 = n_58 := (hfr_84.1 20 (by decide)).trans en_58
  have u_89 : G_83.1 22 = n_59 := (hfr_84.1 22 (by decide)).trans en_59
  have u_90 : G_83.1 23 = n_60 := (hfr_84.1 23 (by decide)).trans en_60
  have w_91 : G_83.2.1 (g.2.2 70) = f_54 := (hfr_84.2.1 (g.2.2 70) trivial).trans ef_54
  have w_92 : G_83.2.1 (g.2.2 71) = f_55 := (hfr_84.2.1 (g.2.2 71) trivial).trans ef_55
  have w_93 : G_83.2.1 (g.2.2 72) = f_56 := (hfr_84.2.1 (g.2.2 72) trivial).trans ef_56
  have w_94 : G_83.2.1 (g.2.2 73) = f_57 := (hfr_84.2.1 (g.2.2 73) trivial).trans ef_57
  have hq_95 : F_X11_toldWithCame x_48 = x_79 := by have q := hex_85; exact q
  try rw [hq_95] at hv
  have hH : HT g T_80 G_83 H := by rw [← ht, eT_80, eG_83]; exact hB
  exact W.iret hx hb hr (fun t ht hWm => ⟨⟨x_79, (T_80, G_83), rfl, ⟨hE_82, ⟨fr_86, hv.symm.trans (by rw [w_91, w_92, w_93, w_94, u_88, u_89, u_90])⟩⟩, by show HT g T_80 G_83 t.heap; rw [ht]; exact hH⟩, hS.F ht⟩) hS.2.2 dX11_mounts_24

def F_X11_binds (r0 : Nat → Int32) (r1 : Nat → Int32) (r2 : Nat → Int32) (r3 : Nat → Int32) (m20 : Int32) (m21 : Int32) (m22 : Int32) (m23 : Int32) (a0 : Int32) (a1 : Int32) (a2 : Int32) : Int32 × (Nat → Int32) × (Nat → Int32) × (Nat → Int32) × (Nat → Int32) × Int32 × Int32 × Int32 := (tu8 (F_X0_bindOne r0 r1 r2 r3 m20 m21 m22 m23 a0 a1 a2) (fun z9 z10 z11 z12 z13 z14 z15 z16 => ((F_X11_toldWithCame z9), z10, z11, z12, z13, z14, z15, z16)))
set_option maxHeartbeats 4000000 in
set_option maxRecDepth 100000 in
theorem c_X11_binds (l : Launch) (g : Gx) (Ty : TyM) (G : Gh) (sz : Nat) (h0 : Nat) (a0 : Int32) (a1 : Int32) (a2 : Int32) (k_h0 : Ty h0 = some (21, 0)) (hD1 : LD1 g) (h24 : G.1 24 = 0) : Met l yX11_binds (wsG yX11_binds cX11_binds 4 (some .int)) ({ frames := 6, cells := 4, slots := 79, locals := 147 }) (PcT g Ty G sz [.ref h0, .int a0, .int a1, .int a2]) (QwI g Ty sz (fun r u => Ext sz Ty u.1 ∧ FR [20, 22, 23, 27, 28] [(g.2.2 70), (g.2.2 71), (g.2.2 72), (g.2.2 73)] [] G u.2 ∧ F_X11_binds (G.2.1 (g.2.2 70)) (G.2.1 (g.2.2 71)) (G.2.1 (g.2.2 72)) (G.2.1 (g.2.2 73)) (G.1 20) (G.1 21) (G.1 22) (G.1 23) a0 a1 a2 = (r, (u.2.2.1 (g.2.2 70)), (u.2.2.1 (g.2.2 71)), (u.2.2.1 (g.2.2 72)), (u.2.2.1 (g.2.2 73)), (u.2.1 20), (u.2.1 22), (u.2.1 23)))) 4 79 (AF Ty sz) := by
  refine Met.ofW (cc := cX11_binds) (maxL := 4) (ret := (some .int)) (by decide) rfl ?_
  intro p e s m args below meth c s₁ B hml hv
  obtain ⟨rfl, hsz, hK, hH⟩ := hv
  subst hsz
  have hx := B.exec
  have hb := B.bytes
  have hr := B.returns
  have hts := atoms_spec (ws := (wsG yX11_binds cX11_binds 4 (some .int))) B.pre
  have hG : ∀ w ∈ GW, w.before ([.ref h0, .int a0, .int a1, .int a2] : List Value).toArray s = true := fun w h => hts w (List.mem_cons_of_mem _ h)
  have hown : s.vm.findClass RX11 = some m.cls := findClass_of_methodNamed B.named
  have hlocks := B.notSynchronized
  have hl := lv_entry [.ref h0, .int a0, .int a1, .int a2] (n := 4) (Nat.le_of_ble_eq_true rfl)
  rw [lg_entry_eq]
  generalize (lg_sl [.ref h0, .int a0, .int a1, .int a2] ++ List.replicate (4 - (lg_sl [.ref h0, .int a0, .int a1, .int a2]).length) Slot.unset).toArray = ls at hl ⊢
  have hl : lv_has ls 4 [(0, .ref h0), (1, .int a0), (2, .int a1), (3, .int a2)] := hl
  have hv : (tu8 (F_X0_bindOne (G.2.1 (g.2.2 70)) (G.2.1 (g.2.2 71)) (G.2.1 (g.2.2 72)) (G.2.1 (g.2.2 73)) (G.1 20) (G.1 21) (G.1 22) (G.1 23) a0 a1 a2) (fun z1 z2 z3 z4 z5 z6 z7 z8 => ((F_X11_toldWithCame z1), z2, z3, z4, z5, z6, z7, z8))) = F_X11_binds (G.2.1 (g.2.2 70)) (G.2.1 (g.2.2 71)) (G.2.1 (g.2.2 72)) (G.2.1 (g.2.2 73)) (G.1 20) (G.1 21) (G.1 22) (G.1 23) a0 a1 a2 := rfl
  have hS : va_S (AF Ty s.heap.size) s.heap s.heap [] := va_S.rf
  refine lv_aload_n hx hb dX11_binds_0 rfl (lv_at hl 0 rfl) ?_
  obtain ⟨_, ⟨rfl, kq_2, kq_3, kq_4, kq_5, kq_6, kq_7, kq_8, kq_9, kq_10, kq_11, kq_12, kq_13, kq_14, kq_15, t_17⟩, o_c_1⟩ := hH h0 _ k_h0
  refine hg_get hx hb hG igX11 hown hK o_c_1 rfl 1 (by decide) (hG _ mw_358) rfl dX11_binds_1 ?_
  refine lv_aload_n hx hb dX11_binds_4 rfl (lv_at hl 0 rfl) ?_
  refine hg_get hx hb hG igX11 hown hK o_c_1 rfl 0 (by decide) (hG _ mw_357) rfl dX11_binds_5 ?_
  obtain ⟨_, ⟨q_19, q_20, q_21, q_22, q_23, q_24, q_25, rfl, kq_19, kq_20, kq_21⟩, o_c_18⟩ := hH (g.2.2 1) _ kq_3
  refine va_callv (va_runV (As := [.ref (g.2.2 0)]) (rest := []) ⟨hx, hb, hml, hown, hts⟩ (c_X10_take_n l g Ty G s.heap.size (g.2.2 1) (g.2.2 0) kq_3 kq_2) (cwV 1 hts (gwV mw_628 mw_629 mw_630 mw_77 mw_631) rfl rfl rfl hv_X10_take ⟨Nat.le_of_ble_eq_true rfl, Nat.le_of_ble_eq_true rfl⟩) ⟨PcT_blind, hg_recv hK o_c_18 rfl, PcT_pre hK hH⟩ rfl rfl hl.1 rfl (lv_room (Nat.le_of_ble_eq_true rfl)) dX11_binds_8 ⟨Nat.le_of_ble_eq_true rfl, Nat.le_of_ble_eq_true rfl⟩) hS (fun q _ h => AF.mono hS.1 h) (fun q h => AF.mono hS.1 h) (fun ux_26 t H locs ht hvm hx_26 hB hz hk hS => ?_)
  have hH : HT g Ty G H := by rw [← ht]; rw [hx_26] at hB; exact hB
  refine lv_aload_n hx hb dX11_binds_11 rfl (lv_at hl 0 rfl) ?_
  refine lv_aload_n hx hb dX11_binds_12 rfl (lv_at hl 0 rfl) ?_
  obtain ⟨_, ⟨rfl, kq_28, kq_29, kq_30, kq_31, kq_32, kq_33, kq_34, kq_35, kq_36, kq_37, kq_38, kq_39, kq_40, kq_41, t_43⟩, o_c_27⟩ := hH h0 _ k_h0
  refine hg_get hx hb hG igX11 hown hK o_c_27 rfl 8 (by decide) (hG _ mw_365) rfl dX11_binds_13 ?_
  refine lv_iload_n hx hb dX11_binds_16 rfl (lv_at hl 1 rfl) ?_
  refine lv_iload_n hx hb dX11_binds_17 rfl (lv_at hl 2 rfl) ?_
  refine lv_iload_n hx hb dX11_binds_18 rfl (lv_at hl 3 rfl) ?_
  obtain ⟨_, ⟨rfl, kq_45, kq_46, kq_47⟩, o_c_44⟩ := hH (g.2.2 8) _ kq_36
  refine va_calli (va_runV (As := [.int a0, .int a1, .int a2]) (rest := [.ref h0]) ⟨hx, hb, hml, hown, hts⟩ (c_X0_bindOne l g Ty G H.size (g.2.2 8) a0 a1 a2 kq_36 hD1 h24) (cwV 3 hts (gwV mw_761 mw_762 mw_763 mw_82 mw_764) rfl rfl rfl hv_X0_bindOne ⟨Nat.le_of_ble_eq_true rfl, Nat.le_of_ble_eq_true rfl⟩) ⟨PcT_blind, hg_recv hK o_c_44 rfl, PcT_pre hK hH⟩ rfl rfl hl.1 rfl (lv_room (Nat.le_of_ble_eq_true rfl)) dX11_binds_19 ⟨Nat.le_of_ble_eq_true rfl, Nat.le_of_ble_eq_true rfl⟩) hS (fun q _ h => AF.mono hS.1 h) (fun q h => AF.mono hS.1 h) (fun x_48 ux_48 t H locs ht hvm hx_48 hB hz hk hS => ?_)
  obtain ⟨eTx_48, eGx_48⟩ := hx_48
  obtain ⟨G_49, eG_49⟩ : ∃ z, z = ux_48.2 := ⟨_, rfl⟩
  rw [← eG_49] at eGx_48
  obtain ⟨hfr_50, hex_51⟩ := eGx_48
  have fr_52 : FR [20, 22, 23, 27, 28] [(g.2.2 70), (g.2.2 71), (g.2.2 72), (g.2.2 73)] [] G G_49 := FR.tr FR.rf hfr_50 (by decide) (fun b h => ⟨h.1, h.2.1, h.2.2.1, h.2.2.2.1, trivial⟩) (by decide)
  have u_53 : G_49.1 21 = (G.1 21) := (hfr_50.1 21 (by decide))
  have u_54 : G_49.1 24 = 0 := (hfr_50.1 24 (by decide)).trans h24
  obtain ⟨f_55, ef_55⟩ : ∃ z : Nat → Int32, G_49.2.1 (g.2.2 70) = z := ⟨_, rfl⟩
  obtain ⟨f_56, ef_56⟩ : ∃ z : Nat → Int32, G_49.2.1 (g.2.2 71) = z := ⟨_, rfl⟩
  obtain ⟨f_57, ef_57⟩ : ∃ z : Nat → Int32, G_49.2.1 (g.2.2 72) = z := ⟨_, rfl⟩
  obtain ⟨f_58, ef_58⟩ : ∃ z : Nat → Int32, G_49.2.1 (g.2.2 73) = z := ⟨_, rfl⟩
  obtain ⟨n_59, en_59⟩ : ∃ z : Int32, G_49.1 20 = z := ⟨_, rfl⟩
  obtain ⟨n_60, en_60⟩ : ∃ z : Int32, G_49.1 22 = z := ⟨_, rfl⟩
  obtain ⟨n_61, en_61⟩ : ∃ z : Int32, G_49.1 23 = z := ⟨_, rfl⟩
  have hq_62 : F_X0_bindOne (G.2.1 (g.2.2 70)) (G.2.1 (g.2.2 71)) (G.2.1 (g.2.2 72)) (G.2.1 (g.2.2 73)) (G.1 20) (G.1 21) (G.1 22) (G.1 23) a0 a1 a2 = (x_48, f_55, f_56, f_57, f_58, n_59, n_60, n_61) := by have q := hex_51; rw [ef_55, ef_56, ef_57, ef_58, en_59, en_60, en_61] at q; exact q
  rw [hq_62, tu8_eq] at hv
  have hH : HT g Ty G_49 H := by rw [← ht, ← eTx_48, eG_49]; exact hB
  obtain ⟨_, ⟨rfl, kq_64, kq_65, kq_66, kq_67, kq_68, kq_69, kq_70, kq_71, kq_72, kq_73, kq_74, kq_75, kq_76, kq_77, t_79⟩, o_c_63⟩ := hH h0 _ k_h0
  have hLx_80 := hS.1
  refine va_calli (va_runV (As := [.int x_48]) (rest := []) ⟨hx, hb, hml, hown, hts⟩ (c_X11_toldWithCame l g Ty G_49 H.size h0 x_48 k_h0 hD1) (cwV 1 hts (gwV mw_738 mw_740 mw_15 mw_76 mw_741) rfl rfl rfl hv_X11_toldWithCame ⟨Nat.le_of_ble_eq_true rfl, Nat.le_of_ble_eq_true rfl⟩) ⟨PcT_blind, hg_recv hK o_c_63 rfl, PcT_pre hK hH⟩ rfl rfl hl.1 rfl (lv_room (Nat.le_of_ble_eq_true rfl)) dX11_binds_22 ⟨Nat.le_of_ble_eq_true rfl, Nat.le_of_ble_eq_true rfl⟩) hS (fun q _ h => AF.mono hS.1 h) (fun q h => AF.mono hS.1 h) (fun x_80 ux_80 t H locs ht hvm hx_80 hB hz hk hS => ?_)
  obtain ⟨eTx_80, eGx_80⟩ := hx_80
  obtain ⟨T_81, eT_81⟩ : ∃ z, z = ux_80.1 := ⟨_, rfl⟩
  rw [← eT_81] at eTx_80
  have k_82 := eTx_80.1 _ _ k_h0
  have hE_83 : Ext s.heap.size Ty T_81 := Ext.le hLx_80 eTx_80
  obtain ⟨G_84, eG_84⟩ : ∃ z, z = ux_80.2 := ⟨_, rfl⟩
  rw [← eG_84] at eGx_80
  obtain ⟨hfr_85, hex_86⟩ := eGx_80
  have fr_87 : FR [20, 22, 23, 27, 28] [(g.2.2 70), (g.2.2 71), (g.2.2 72), (g.2.2 73)] [] G G_84 := FR.tr fr_52 hfr_85 (by decide) (fun _ _ => trivial) (by decide)
  have u_88 : G_84.1 21 = (G.1 21) := (hfr_85.1 21 (by decide)).trans u_53
  have u_89 : G_84.1 24 = 0 := (hfr_85.1 24 (by decide)).trans u_54
  have u_90 : G_84.1 20 = n_59 := (hfr_85.1 20 (by decide)).trans en_59
  have u_91 : G_84.1 22 = n_60 := (hfr_85.1 22 (by decide)).trans en_60
  have u_92 : G_84.1 23 = n_61 := (hfr_85.1 23 (by decide)).trans en_61
  have w_93 : G_84.2.1 (g.2.2 70) = f_55 := (hfr_85.2.1 (g.2.2 70) trivial).trans ef_55
  have w_94 : G_84.2.1 (g.2.2 71) = f_56 := (hfr_85.2.1 (g.2.2 71) trivial).trans ef_56
  have w_95 : G_84.2.1 (g.2.2 72) = f_57 := (hfr_85.2.1 (g.2.2 72) trivial).trans ef_57
  have w_96 : G_84.2.1 (g.2.2 73) = f_58 := (hfr_85.2.1 (g.2.2 73) trivial).trans ef_58
  have hq_97 : F_X11_toldWithCame x_48 = x_80 := by have q := hex_86; exact q
  try rw [hq_97] at hv
  have hH : HT g T_81 G_84 H := by rw [← ht, eT_81, eG_84]; exact hB
  exact W.iret hx hb hr (fun t ht hWm => ⟨⟨x_80, (T_81, G_84), rfl, ⟨hE_83, ⟨fr_87, hv.symm.trans (by rw [w_93, w_94, w_95, w_96, u_90, u_91, u_92])⟩⟩, by show HT g T_81 G_84 t.heap; rw [ht]; exact hH⟩, hS.F ht⟩) hS.2.2 dX11_binds_25

def F_X11_makes (r0 : Nat → Int32) (r1 : Nat → Int32) (m20 : Int32) (m21 : Int32) (m22 : Int32) (m23 : Int32) (a0 : Int32) (a1 : Int32) : Int32 × (Nat → Int32) × (Nat → Int32) × Int32 × Int32 × Int32 := (tu6 (F_X0_makeKind r0 r1 m20 m21 m22 m23 a0 a1) (fun z7 z8 z9 z10 z11 z12 => ((F_X11_remembered z7), z8, z9, z10, z11, z12)))
set_option maxHeartbeats 4000000 in
set_option maxRecDepth 100000 in
theorem c_X11_makes (l : Launch) (g : Gx) (Ty : TyM) (G : Gh) (sz : Nat) (h0 : Nat) (a0 : Int32) (a1 : Int32) (k_h0 : Ty h0 = some (21, 0)) (hD1 : LD1 g) (h24 : G.1 24 = 0) : Met l yX11_makes (wsG yX11_makes cX11_makes 3 (some .int)) ({ frames := 6, cells := 4, slots := 79, locals := 132 }) (PcT g Ty G sz [.ref h0, .int a0, .int a1]) (QwI g Ty sz (fun r u => Ext sz Ty u.1 ∧ FR [21, 22, 23, 28] [(g.2.2 71), (g.2.2 72)] [] G u.2 ∧ F_X11_makes (G.2.1 (g.2.2 71)) (G.2.1 (g.2.2 72)) (G.1 20) (G.1 21) (G.1 22) (G.1 23) a0 a1 = (r, (u.2.2.1 (g.2.2 71)), (u.2.2.1 (g.2.2 72)), (u.2.1 21), (u.2.1 22), (u.2.1 23)))) 4 79 (AF Ty sz) := by
  refine Met.ofW (cc := cX11_makes) (maxL := 3) (ret := (some .int)) (by decide) rfl ?_
  intro p e s m args below meth c s₁ B hml hv
  obtain ⟨rfl, hsz, hK, hH⟩ := hv
  subst hsz
  have hx := B.exec
  have hb := B.bytes
  have hr := B.returns
  have hts := atoms_spec (ws := (wsG yX11_makes cX11_makes 3 (some .int))) B.pre
  have hG : ∀ w ∈ GW, w.before ([.ref h0, .int a0, .int a1] : List Value).toArray s = true := fun w h => hts w (List.mem_cons_of_mem _ h)
  have hown : s.vm.findClass RX11 = some m.cls := findClass_of_methodNamed B.named
  have hlocks := B.notSynchronized
  have hl := lv_entry [.ref h0, .int a0, .int a1] (n := 3) (Nat.le_of_ble_eq_true rfl)
  rw [lg_entry_eq]
  generalize (lg_sl [.ref h0, .int a0, .int a1] ++ List.replicate (3 - (lg_sl [.ref h0, .int a0, .int a1]).length) Slot.unset).toArray = ls at hl ⊢
  have hl : lv_has ls 3 [(0, .ref h0), (1, .int a0), (2, .int a1)] := hl
  have hv : (tu6 (F_X0_makeKind (G.2.1 (g.2.2 71)) (G.2.1 (g.2.2 72)) (G.1 20) (G.1 21) (G.1 22) (G.1 23) a0 a1) (fun z1 z2 z3 z4 z5 z6 => ((F_X11_remembered z1), z2, z3, z4, z5, z6))) = F_X11_makes (G.2.1 (g.2.2 71)) (G.2.1 (g.2.2 72)) (G.1 20) (G.1 21) (G.1 22) (G.1 23) a0 a1 := rfl
  have hS : va_S (AF Ty s.heap.size) s.heap s.heap [] := va_S.rf
  refine lv_aload_n hx hb dX11_makes_0 rfl (lv_at hl 0 rfl) ?_
  obtain ⟨_, ⟨rfl, kq_2, kq_3, kq_4, kq_5, kq_6, kq_7, kq_8, kq_9, kq_10, kq_11, kq_12, kq_13, kq_14, kq_15, t_17⟩, o_c_1⟩ := hH h0 _ k_h0
  refine hg_get hx hb hG igX11 hown hK o_c_1 rfl 1 (by decide) (hG _ mw_358) rfl dX11_makes_1 ?_
  refine lv_aload_n hx hb dX11_makes_4 rfl (lv_at hl 0 rfl) ?_
  refine hg_get hx hb hG igX11 hown hK o_c_1 rfl 0 (by decide) (hG _ mw_357) rfl dX11_makes_5 ?_
  obtain ⟨_, ⟨q_19, q_20, q_21, q_22, q_23, q_24, q_25, rfl, kq_19, kq_20, kq_21⟩, o_c_18⟩ := hH (g.2.2 1) _ kq_3
  refine va_callv (va_runV (As := [.ref (g.2.2 0)]) (rest := []) ⟨hx, hb, hml, hown, hts⟩ (c_X10_take_n l g Ty G s.heap.size (g.2.2 1) (g.2.2 0) kq_3 kq_2) (cwV 1 hts (gwV mw_628 mw_629 mw_630 mw_77 mw_631) rfl rfl rfl hv_X10_take ⟨Nat.le_of_ble_eq_true rfl, Nat.le_of_ble_eq_true rfl⟩) ⟨PcT_blind, hg_recv hK o_c_18 rfl, PcT_pre hK hH⟩ rfl rfl hl.1 rfl (lv_room (Nat.le_of_ble_eq_true rfl)) dX11_makes_8 ⟨Nat.le_of_ble_eq_true rfl, Nat.le_of_ble_eq_true rfl⟩) hS (fun q _ h => AF.mono hS.1 h) (fun q h => AF.mono hS.1 h) (fun ux_26 t H locs ht hvm hx_26 hB hz hk hS => ?_)
  have hH : HT g Ty G H := by rw [← ht]; rw [hx_26] at hB; exact hB
  refine lv_aload_n hx hb dX11_makes_11 rfl (lv_at hl 0 rfl) ?_
  refine lv_aload_n hx hb dX11_makes_12 rfl (lv_at hl 0 rfl) ?_
  obtain ⟨_, ⟨rfl, kq_28, kq_29, kq_30, kq_31, kq_32, kq_33, kq_34, kq_35, kq_36, kq_37, kq_38, kq_39, kq_40, kq_41, t_43⟩, o_c_27⟩ := hH h0 _ k_h0
  refine hg_get hx hb hG igX11 hown hK o_c_27 rfl 8 (by decide) (hG _ mw_365) rfl dX11_makes_13 ?_
  refine lv_iload_n hx hb dX11_makes_16 rfl (lv_at hl 1 rfl) ?_
  refine lv_iload_n hx hb dX11_makes_17 rfl (lv_at hl 2 rfl) ?_
  obtain ⟨_, ⟨rfl, kq_45, kq_46, kq_47⟩, o_c_44⟩ := hH (g.2.2 8) _ kq_36
  refine va_calli (va_runV (As := [.int a0, .int a1]) (rest := [.ref h0]) ⟨hx, hb, hml, hown, hts⟩ (c_X0_makeKind l g Ty G H.size (g.2.2 8) a0 a1 kq_36 hD1) (cwV 2 hts (gwV mw_792 mw_793 mw_794 mw_82 mw_795) rfl rfl rfl hv_X0_makeKind ⟨Nat.le_of_ble_eq_true rfl, Nat.le_of_ble_eq_true rfl⟩) ⟨PcT_blind, hg_recv hK o_c_44 rfl, PcT_pre hK hH⟩ rfl rfl hl.1 rfl (lv_room (Nat.le_of_ble_eq_true rfl)) dX11_makes_18 ⟨Nat.le_of_ble_eq_true rfl, Nat.le_of_ble_eq_true rfl⟩) hS (fun q _ h => AF.mono hS.1 h) (fun q h => AF.mono hS.1 h) (fun x_48 ux_48 t H locs ht hvm hx_48 hB hz hk hS => ?_)
  obtain ⟨eTx_48, eGx_48⟩ := hx_48
  obtain ⟨G_49, eG_49⟩ : ∃ z, z = ux_48.2 := ⟨_, rfl⟩
  rw [← eG_49] at eGx_48
  obtain ⟨hfr_50, hex_51⟩ := eGx_48
  have fr_52 : FR [21, 22, 23, 28] [(g.2.2 71), (g.2.2 72)] [] G G_49 := FR.tr FR.rf hfr_50 (by decide) (fun b h => ⟨h.1, h.2.1, trivial⟩) (by decide)
  have u_53 : G_49.1 20 = (G.1 20) := (hfr_50.1 20 (by decide))
  have u_54 : G_49.1 24 = 0 := (hfr_50.1 24 (by decide)).trans h24
  obtain ⟨f_55, ef_55⟩ : ∃ z : Nat → Int32, G_49.2.1 (g.2.2 71) = z := ⟨_, rfl⟩
  obtain ⟨f_56, ef_56⟩ : ∃ z : Nat → Int32, G_49.2.1 (g.2.2 72) = z := ⟨_, rfl⟩
  obtain ⟨n_57, en_57⟩ : ∃ z : Int32, G_49.1 21 = z := ⟨_, rfl⟩
  obtain ⟨n_58, en_58⟩ : ∃ z : Int32, G_49.1 22 = z := ⟨_, rfl⟩
  obtain ⟨n_59, en_59⟩ : ∃ z : Int32, G_49.1 23 = z := ⟨_, rfl⟩
  have hq_60 : F_X0_makeKind (G.2.1 (g.2.2 71)) (G.2.1 (g.2.2 72)) (G.1 20) (G.1 21) (G.1 22) (G.1 23) a0 a1 = (x_48, f_55, f_56, n_57, n_58, n_59) := by have q := hex_51; rw [ef_55, ef_56, en_57, en_58, en_59] at q; exact q
  rw [hq_60, tu6_eq] at hv
  have hH : HT g Ty G_49 H := by rw [← ht, ← eTx_48, eG_49]; exact hB
  obtain ⟨_, ⟨rfl, kq_62, kq_63, kq_64, kq_65, kq_66, kq_67, kq_68, kq_69, kq_70, kq_71, kq_72, kq_73, kq_74, kq_75, t_77⟩, o_c_61⟩ := hH h0 _ k_h0
  have hLx_78 := hS.1
  refine va_calli (va_runV (As := [.int x_48]) (rest := []) ⟨hx, hb, hml, hown, hts⟩ (c_X11_remembered l g Ty G_49 H.size h0 x_48 k_h0 hD1) (cwV 1 hts (gwV mw_742 mw_744 mw_16 mw_76 mw_745) rfl rfl rfl hv_X11_remembered ⟨Nat.le_of_ble_eq_true rfl, Nat.le_of_ble_eq_true rfl⟩) ⟨PcT_blind, hg_recv hK o_c_61 rfl, PcT_pre hK hH⟩ rfl rfl hl.1 rfl (lv_room (Nat.le_of_ble_eq_true rfl)) dX11_makes_21 ⟨Nat.le_of_ble_eq_true rfl, Nat.le_of_ble_eq_true rfl⟩) hS (fun q _ h => AF.mono hS.1 h) (fun q h => AF.mono hS.1 h) (fun x_78 ux_78 t H locs ht hvm hx_78 hB hz hk hS => ?_)
  obtain ⟨eTx_78, eGx_78⟩ := hx_78
  obtain ⟨T_79, eT_79⟩ : ∃ z, z = ux_78.1 := ⟨_, rfl⟩
  rw [← eT_79] at eTx_78
  have k_80 := eTx_78.1 _ _ k_h0
  have hE_81 : Ext s.heap.size Ty T_79 := Ext.le hLx_78 eTx_78
  obtain ⟨G_82, eG_82⟩ : ∃ z, z = ux_78.2 := ⟨_, rfl⟩
  rw [← eG_82] at eGx_78
  obtain ⟨hfr_83, hex_84⟩ := eGx_78
  have fr_85 : FR [21, 22, 23, 28] [(g.2.2 71), (g.2.2 72)] [] G G_82 := FR.tr fr_52 hfr_83 (by decide) (fun _ _ => trivial) (by decide)
  have u_86 : G_82.1 20 = (G.1 20) := (hfr_83.1 20 (by decide)).trans u_53
  have u_87 : G_82.1 24 = 0 := (hfr_83.1 24 (by decide)).trans u_54
  have u_88 : G_82.1 21 = n_57 := (hfr_83.1 21 (by decide)).trans en_57
  have u_89 : G_82.1 22 = n_58 := (hfr_83.1 22 (by decide)).trans en_58
  have u_90 : G_82.1 23 = n_59 := (hfr_83.1 23 (by decide)).trans en_59
  have w_91 : G_82.2.1 (g.2.2 71) = f_55 := (hfr_83.2.1 (g.2.2 71) trivial).trans ef_55
  have w_92 : G_82.2.1 (g.2.2 72) = f_56 := (hfr_83.2.1 (g.2.2 72) trivial).trans ef_56
  have hq_93 : F_X11_remembered x_48 = x_78 := by have q := hex_84; exact q
  try rw [hq_93] at hv
  have hH : HT g T_79 G_82 H := by rw [← ht, eT_79, eG_82]; exact hB
  exact W.iret hx hb hr (fun t ht hWm => ⟨⟨x_78, (T_79, G_82), rfl, ⟨hE_81, ⟨fr_85, hv.symm.trans (by rw [w_91, w_92, u_88, u_89, u_90])⟩⟩, by show HT g T_79 G_82 t.heap; rw [ht]; exact hH⟩, hS.F ht⟩) hS.2.2 dX11_makes_24

def F_X11_unmounts (r0 : Nat → Int32) (r1 : Nat → Int32) (r2 : Nat → Int32) (m20 : Int32) (m21 : Int32) (m22 : Int32) (a0 : Int32) (a1 : Int32) : Int32 × (Nat → Int32) × (Nat → Int32) × (Nat → Int32) × Int32 × Int32 × Int32 := (tu7 (F_X0_unmount r0 r1 r2 m20 m21 m22 a0 a1) (fun z8 z9 z10 z11 z12 z13 z14 => (if (F_X11_remembered z8) < (0 : Int32) then ((F_X11_remembered z8), z9, z10, z11, z12, z13, z14) else ((F_X11_remembered z8), z9, z10, z11, z12, z13, z14))))
set_option maxHeartbeats 4000000 in
set_option maxRecDepth 100000 in
theorem c_X11_unmounts (l : Launch) (g : Gx) (Ty : TyM) (G : Gh) (sz : Nat) (h0 : Nat) (a0 : Int32) (a1 : Int32) (k_h0 : Ty h0 = some (21, 0)) (hD1 : LD1 g) (h24 : G.1 24 = 0) : Met l yX11_unmounts (wsG yX11_unmounts cX11_unmounts 4 (some .int)) ({ frames := 6, cells := 4, slots := 79, locals := 144 }) (PcT g Ty G sz [.ref h0, .int a0, .int a1]) (QwI g Ty sz (fun r u => Ext sz Ty u.1 ∧ FR [20, 21, 22, 27, 28] [(g.2.2 70), (g.2.2 71), (g.2.2 72)] [] G u.2 ∧ F_X11_unmounts (G.2.1 (g.2.2 70)) (G.2.1 (g.2.2 71)) (G.2.1 (g.2.2 72)) (G.1 20) (G.1 21) (G.1 22) a0 a1 = (r, (u.2.2.1 (g.2.2 70)), (u.2.2.1 (g.2.2 71)), (u.2.2.1 (g.2.2 72)), (u.2.1 20), (u.2.1 21), (u.2.1 22)))) 4 79 (AF Ty sz) := by
  refine Met.ofW (cc := cX11_unmounts) (maxL := 4) (ret := (some .int)) (by decide) rfl ?_
  intro p e s m args below meth c s₁ B hml hv
  obtain ⟨rfl, hsz, hK, hH⟩ := hv
  subst hsz
  have hx := B.exec
  have hb := B.bytes
  have hr := B.returns
  have hts := atoms_spec (ws := (wsG yX11_unmounts cX11_unmounts 4 (some .int))) B.pre
  have hG : ∀ w ∈ GW, w.before ([.ref h0, .int a0, .int a1] : List Value).toArray s = true := fun w h => hts w (List.mem_cons_of_mem _ h)
  have hown : s.vm.findClass RX11 = some m.cls := findClass_of_methodNamed B.named
  have hlocks := B.notSynchronized
  have hl := lv_entry [.ref h0, .int a0, .int a1] (n := 4) (Nat.le_of_ble_eq_true rfl)
  rw [lg_entry_eq]
  generalize (lg_sl [.ref h0, .int a0, .int a1] ++ List.replicate (4 - (lg_sl [.ref h0, .int a0, .int a1]).length) Slot.unset).toArray = ls at hl ⊢
  have hl : lv_has ls 4 [(0, .ref h0), (1, .int a0), (2, .int a1)] := hl
  have hv : (tu7 (F_X0_unmount (G.2.1 (g.2.2 70)) (G.2.1 (g.2.2 71)) (G.2.1 (g.2.2 72)) (G.1 20) (G.1 21) (G.1 22) a0 a1) (fun z1 z2 z3 z4 z5 z6 z7 => (if (F_X11_remembered z1) < (0 : Int32) then ((F_X11_remembered z1), z2, z3, z4, z5, z6, z7) else ((F_X11_remembered z1), z2, z3, z4, z5, z6, z7)))) = F_X11_unmounts (G.2.1 (g.2.2 70)) (G.2.1 (g.2.2 71)) (G.2.1 (g.2.2 72)) (G.1 20) (G.1 21) (G.1 22) a0 a1 := rfl
  have hS : va_S (AF Ty s.heap.size) s.heap s.heap [] := va_S.rf
  have L_54 : ∀ (H : Heap) (locs : List Loc) (Ty_54 : TyM) (G_54 : Gh) (fl0_54 : Nat → Int32) (fl1_54 : Nat → Int32) (fl2_54 : Nat → Int32) (nl20_54 : Int32) (nl21_54 : Int32) (nl22_54 : Int32) (y3_54 : Int32) (ls : Array Slot), Ext s.heap.size Ty Ty_54 → FR [20, 21, 22, 27, 28] [(g.2.2 70), (g.2.2 71), (g.2.2 72)] [] G G_54 → G_54.2.1 (g.2.2 70) = fl0_54 → G_54.2.1 (g.2.2 71) = fl1_54 → G_54.2.1 (g.2.2 72) = fl2_54 → G_54.1 20 = nl20_54 → G_54.1 21 = nl21_54 → G_54.1 22 = nl22_54 → lv_has ls 4 [(3, .int y3_54)] → (y3_54, fl0_54, fl1_54, fl2_54, nl20_54, nl21_54, nl22_54) = F_X11_unmounts (G.2.1 (g.2.2 70)) (G.2.1 (g.2.2 71)) (G.2.1 (g.2.2 72)) (G.1 20) (G.1 21) (G.1 22) a0 a1 → HT g Ty_54 G_54 H → va_S (AF Ty s.heap.size) s.heap H locs → Wm p l e (wsG yX11_unmounts cX11_unmounts 4 (some .int)) ({ frames := 6, cells := 4, slots := 79, locals := 144 }) s m [.ref h0, .int a0, .int a1] below meth c H locs (4) (79) (QwI g Ty s.heap.size (fun r u => Ext s.heap.size Ty u.1 ∧ FR [20, 21, 22, 27, 28] [(g.2.2 70), (g.2.2 71), (g.2.2 72)] [] G u.2 ∧ F_X11_unmounts (G.2.1 (g.2.2 70)) (G.2.1 (g.2.2 71)) (G.2.1 (g.2.2 72)) (G.1 20) (G.1 21) (G.1 22) a0 a1 = (r, (u.2.2.1 (g.2.2 70)), (u.2.2.1 (g.2.2 71)), (u.2.2.1 (g.2.2 72)), (u.2.1 20), (u.2.1 21), (u.2.1 22)))) 4 79 (AF Ty s.heap.size) (F0 m 54 ls []) := by
    intro H locs Ty_54 G_54 fl0_54 fl1_54 fl2_54 nl20_54 nl21_54 nl22_54 y3_54 ls hE_54 frL_54 efl0_54 efl1_54 efl2_54 enl20_54 enl21_54 enl22_54 hl hv hH hS
    refine lv_iload_n hx hb dX11_unmounts_54 rfl (lv_at hl 0 rfl) ?_
    exact W.iret hx hb hr (fun t ht hWm => ⟨⟨y3_54, (Ty_54, G_54), rfl, ⟨hE_54, ⟨frL_54, hv.symm.trans (by rw [efl0_54, efl1_54, efl2_54, enl20_54, enl21_54, enl22_54])⟩⟩, by show HT g Ty_54 G_54 t.heap; rw [ht]; exact hH⟩, hS.F ht⟩) hS.2.2 dX11_unmounts_55
  refine lv_aload_n hx hb dX11_unmounts_0 rfl (lv_at hl 0 rfl) ?_
  obtain ⟨_, ⟨rfl, kq_2, kq_3, kq_4, kq_5, kq_6, kq_7, kq_8, kq_9, kq_10, kq_11, kq_12, kq_13, kq_14, kq_15, t_17⟩, o_c_1⟩ := hH h0 _ k_h0
  refine hg_get hx hb hG igX11 hown hK o_c_1 rfl 1 (by decide) (hG _ mw_358) rfl dX11_unmounts_1 ?_
  refine lv_aload_n hx hb dX11_unmounts_4 rfl (lv_at hl 0 rfl) ?_
  refine hg_get hx hb hG igX11 hown hK o_c_1 rfl 0 (by decide) (hG _ mw_357) rfl dX11_unmounts_5 ?_
  obtain ⟨_, ⟨q_19, q_20, q_21, q_22, q_23, q_24, q_25, rfl, kq_19, kq_20, kq_21⟩, o_c_18⟩ := hH (g.2.2 1) _ kq_3
  refine va_callv (va_runV (As := [.ref (g.2.2 0)]) (rest := []) ⟨hx, hb, hml, hown, hts⟩ (c_X10_take_n l g Ty G s.heap.size (g.2.2 1) (g.2.2 0) kq_3 kq_2) (cwV 1 hts (gwV mw_628 mw_629 mw_630 mw_77 mw_631) rfl rfl rfl hv_X10_take ⟨Nat.le_of_ble_eq_true rfl, Nat.le_of_ble_eq_true rfl⟩) ⟨PcT_blind, hg_recv hK o_c_18 rfl, PcT_pre hK hH⟩ rfl rfl hl.1 rfl (lv_room (Nat.le_of_ble_eq_true rfl)) dX11_unmounts_8 ⟨Nat.le_of_ble_eq_true rfl, Nat.le_of_ble_eq_true rfl⟩) hS (fun q _ h => AF.mono hS.1 h) (fun q h => AF.mono hS.1 h) (fun ux_26 t H locs ht hvm hx_26 hB hz hk hS => ?_)
  have hH : HT g Ty G H := by rw [← ht]; rw [hx_26] at hB; exact hB
  refine lv_aload_n hx hb dX11_unmounts_11 rfl (lv_at hl 0 rfl) ?_
  refine lv_aload_n hx hb dX11_unmounts_12 rfl (lv_at hl 0 rfl) ?_
  obtain ⟨_, ⟨rfl, kq_28, kq_29, kq_30, kq_31, kq_32, kq_33, kq_34, kq_35, kq_36, kq_37, kq_38, kq_39, kq_40, kq_41, t_43⟩, o_c_27⟩ := hH h0 _ k_h0
  refine hg_get hx hb hG igX11 hown hK o_c_27 rfl 8 (by decide) (hG _ mw_365) rfl dX11_unmounts_13 ?_
  refine lv_iload_n hx hb dX11_unmounts_16 rfl (lv_at hl 1 rfl) ?_
  refine lv_iload_n hx hb dX11_unmounts_17 rfl (lv_at hl 2 rfl) ?_
  obtain ⟨_, ⟨rfl, kq_45, kq_46, kq_47⟩, o_c_44⟩ := hH (g.2.2 8) _ kq_36
  refine va_calli (va_runV (As := [.int a0, .int a1]) (rest := [.ref h0]) ⟨hx, hb, hml, hown, hts⟩ (c_X0_unmount l g Ty G H.size (g.2.2 8) a0 a1 kq_36 hD1 h24) (cwV 2 hts (gwV mw_823 mw_824 mw_825 mw_82 mw_826) rfl rfl rfl hv_X0_unmount ⟨Nat.le_of_ble_eq_true rfl, Nat.le_of_ble_eq_true rfl⟩) ⟨PcT_blind, hg_recv hK o_c_44 rfl, PcT_pre hK hH⟩ rfl rfl hl.1 rfl (lv_room (Nat.le_of_ble_eq_true rfl)) dX11_unmounts_18 ⟨Nat.le_of_ble_eq_true rfl, Nat.le_of_ble_eq_true rfl⟩) hS (fun q _ h => AF.mono hS.1 h) (fun q h => AF.mono hS.1 h) (fun x_48 ux_48 t H locs ht hvm hx_48 hB hz hk hS => ?_)
  obtain ⟨eTx_48, eGx_48⟩ := hx_48
  obtain ⟨G_49, eG_49⟩ : ∃ z, z = ux_48.2 := ⟨_, rfl⟩
  rw [← eG_49] at eGx_48
  obtain ⟨hfr_50, hex_51⟩ := eGx_48
  have fr_52 : FR [20, 21, 22, 27, 28] [(g.2.2 70), (g.2.2 71), (g.2.2 72)] [] G G_49 := FR.tr FR.rf hfr_50 (by decide) (fun b h => ⟨h.1, h.2.1, h.2.2.1, trivial⟩) (by decide)
  have u_53 : G_49.1 24 = 0 := (hfr_50.1 24 (by decide)).trans h24
  obtain ⟨f_54, ef_54⟩ : ∃ z : Nat → Int32, G_49.2.1 (g.2.2 70) = z := ⟨_, rfl⟩
  obtain ⟨f_55, ef_55⟩ : ∃ z : Nat → Int32, G_49.2.1 (g.2.2 71) = z := ⟨_, rfl⟩
  obtain ⟨f_56, ef_56⟩ : ∃ z : Nat → Int32, G_49.2.1 (g.2.2 72) = z := ⟨_, rfl⟩
  obtain ⟨n_57, en_57⟩ : ∃ z : Int32, G_49.1 20 = z := ⟨_, rfl⟩
  obtain ⟨n_58, en_58⟩ : ∃ z : Int32, G_49.1 21 = z := ⟨_, rfl⟩
  obtain ⟨n_59, en_59⟩ : ∃ z : Int32, G_49.1 22 = z := ⟨_, rfl⟩
  have hq_60 : F_X0_unmount (G.2.1 (g.2.2 70)) (G.2.1 (g.2.2 71)) (G.2.1 (g.2.2 72)) (G.1 20) (G.1 21) (G.1 22) a0 a1 = (x_48, f_54, f_55, f_56, n_57, n_58, n_59) := by have q := hex_51; rw [ef_54, ef_55, ef_56, en_57, en_58, en_59] at q; exact q
  rw [hq_60, tu7_eq] at hv
  have hH : HT g Ty G_49 H := by rw [← ht, ← eTx_48, eG_49]; exact hB
  obtain ⟨_, ⟨rfl, kq_62, kq_63, kq_64, kq_65, kq_66, kq_67, kq_68, kq_69, kq_70, kq_71, kq_72, kq_73, kq_74, kq_75, t_77⟩, o_c_61⟩ := hH h0 _ k_h0
  have hLx_78 := hS.1
  refine va_calli (va_runV (As := [.int x_48]) (rest := []) ⟨hx, hb, hml, hown, hts⟩ (c_X11_remembered l g Ty G_49 H.size h0 x_48 k_h0 hD1) (cwV 1 hts (gwV mw_742 mw_744 mw_16 mw_76 mw_745) rfl rfl rfl hv_X11_remembered ⟨Nat.le_of_ble_eq_true rfl, Nat.le_of_ble_eq_true rfl⟩) ⟨PcT_blind, hg_recv hK o_c_61 rfl, PcT_pre hK hH⟩ rfl rfl hl.1 rfl (lv_room (Nat.le_of_ble_eq_true rfl)) dX11_unmounts_21 ⟨Nat.le_of_ble_eq_true rfl, Nat.le_of_ble_eq_true rfl⟩) hS (fun q _ h => AF.mono hS.1 h) (fun q h => AF.mono hS.1 h) (fun x_78 ux_78 t H locs ht hvm hx_78 hB hz hk hS => ?_)
  obtain ⟨eTx_78, eGx_78⟩ := hx_78
  obtain ⟨T_79, eT_79⟩ : ∃ z, z = ux_78.1 := ⟨_, rfl⟩
  rw [← eT_79] at eTx_78
  have k_80 := eTx_78.1 _ _ k_h0
  have hE_81 : Ext s.heap.size Ty T_79 := Ext.le hLx_78 eTx_78
  obtain ⟨G_82, eG_82⟩ : ∃ z, z = ux_78.2 := ⟨_, rfl⟩
  rw [← eG_82] at eGx_78
  obtain ⟨hfr_83, hex_84⟩ := eGx_78
  have fr_85 : FR [20, 21, 22, 27, 28] [(g.2.2 70), (g.2.2 71), (g.2.2 72)] [] G G_82 := FR.tr fr_52 hfr_83 (by decide) (fun _ _ => trivial) (by decide)
  have u_86 : G_82.1 24 = 0 := (hfr_83.1 24 (by decide)).trans u_53
  have u_87 : G_82.1 20 = n_57 := (hfr_83.1 20 (by decide)).trans en_57
  have u_88 : G_82.1 21 = n_58 := (hfr_83.1 21 (by decide)).trans en_58
  have u_89 : G_82.1 22 = n_59 := (hfr_83.1 22 (by decide)).trans en_59
  have w_90 : G_82.2.1 (g.2.2 70) = f_54 := (hfr_83.2.1 (g.2.2 70) trivial).trans ef_54
  have w_91 : G_82.2.1 (g.2.2 71) = f_55 := (hfr_83.2.1 (g.2.2 71) trivial).trans ef_55
  have w_92 : G_82.2.1 (g.2.2 72) = f_56 := (hfr_83.2.1 (g.2.2 72) trivial).trans ef_56
  have hq_93 : F_X11_remembered x_48 = x_78 := by have q := hex_84; exact q
  try rw [hq_93] at hv
  have hH : HT g T_79 G_82 H := by rw [← ht, eT_79, eG_82]; exact hB
  refine lv_istore_n (lv' := [(3, .int x_78), (0, .ref h0), (1, .int a0), (2, .int a1)]) hx hb dX11_unmounts_24 rfl hl (by decide) rfl (fun ls hl => ?_)
  refine lv_iload_n hx hb dX11_unmounts_25 rfl (lv_at hl 0 rfl) ?_
  refine lv_if_lt (tgt := 54) hx hb dX11_unmounts_26 (by decide) (fun c_94 => ?_) (fun c_94 => ?_)
  · rw [if_pos c_94] at hv
    have r_95 : rgI (-2147483648) (-1) x_78 := rg_w (rg_ltL (rg_top x_78) rl_0 c_94) (by decide) (by decide)
    exact L_54 H locs T_79 G_82 f_54 f_55 f_56 n_57 n_58 n_59 x_78 ls hE_81 fr_85 w_90 w_91 w_92 u_87 u_88 u_89 (lv_sub hl [0] rfl) hv hH hS
  · rw [if_neg c_94] at hv
    have r_96 : rgI (0) (2147483647) x_78 := rg_w (rg_leR rl_0 (rg_top x_78) (nlt_le c_94)) (by decide) (by decide)
    refine lv_aload_n hx hb dX11_unmounts_29 rfl (lv_at hl 1 rfl) ?_
    obtain ⟨_, ⟨rfl, kq_98, kq_99, kq_100, kq_101, kq_102, kq_103, kq_104, kq_105, kq_106, kq_107, kq_108, kq_109, kq_110, kq_111, t_113⟩, o_c_97⟩ := hH h0 _ k_80
    refine hg_get hx hb hG igX11 hown hK o_c_97 rfl 5 (by decide) (hG _ mw_362) rfl dX11_unmounts_30 ?_
    refine lv_aload_n hx hb dX11_unmounts_33 rfl (lv_at hl 1 rfl) ?_
    refine hg_get hx hb hG igX11 hown hK o_c_97 rfl 1 (by decide) (hG _ mw_358) rfl dX11_unmounts_34 ?_
    obtain ⟨_, ⟨q_115, q_116, q_117, q_118, q_119, q_120, q_121, rfl, kq_115, kq_116, kq_117⟩, o_c_114⟩ := hH (g.2.2 1) _ kq_99
    refine hg_getN hx hb hG igX10 hown hK o_c_114 rfl 3 (by decide) ((hK.2.1 _ nwf_121).use rfl) rfl dX11_unmounts_37 ?_
    refine lv_aload_n hx hb dX11_unmounts_40 rfl (lv_at hl 1 rfl) ?_
    refine hg_get hx hb hG igX11 hown hK o_c_97 rfl 0 (by decide) (hG _ mw_357) rfl dX11_unmounts_41 ?_
    obtain ⟨_, ⟨rfl, kq_123, kq_124, kq_125, t_130⟩, o_c_122⟩ := hH (g.2.2 0) _ kq_98
    refine hg_getN hx hb hG igX10 hown hK o_c_122 rfl 3 (by decide) ((hK.2.1 _ nwf_121).use rfl) rfl dX11_unmounts_44 ?_
    rw [u_87]
    refine lv_iconst (v := (-1)) hx hb dX11_unmounts_47 (by decide) ?_
    refine lv_ixor hx hb dX11_unmounts_48 ?_
    refine lv_topi (fun x_131 ex_131 => ?_)
    try rw [← ex_131] at hv
    refine lv_iand hx hb dX11_unmounts_49 ?_
    refine lv_topi (fun x_132 ex_132 => ?_)
    try rw [← ex_132] at hv
    refine lv_i2l hx hb dX11_unmounts_50 rfl ?_
    refine lv_topl (fun u_133 eu_133 => ?_)
    obtain ⟨_, ⟨q_135, rfl, kq_135, rq_136, t_137⟩, o_c_134⟩ := hH (g.2.2 5) _ kq_103
    refine va_callv (va_runV (As := [.long u_133]) (rest := []) ⟨hx, hb, hml, hown, hts⟩ (c_X7_tell l g T_79 G_82 H.size (g.2.2 5) u_133 kq_103 hD1) (cwV 1 hts (gwV mw_583 mw_584 mw_585 mw_80 mw_586) rfl rfl rfl hv_X7_tell ⟨Nat.le_of_ble_eq_true rfl, Nat.le_of_ble_eq_true rfl⟩) ⟨PcT_blind, hg_recv hK o_c_134 rfl, PcT_pre hK hH⟩ rfl rfl hl.1 rfl (lv_room (Nat.le_of_ble_eq_true rfl)) dX11_unmounts_51 ⟨Nat.le_of_ble_eq_true rfl, Nat.le_of_ble_eq_true rfl⟩) hS (fun q _ h => AF.back hE_81 hS.1 h) (fun q h => AF.back hE_81 hS.1 h) (fun ux_138 t H locs ht hvm hx_138 hB hz hk hS => ?_)
    obtain ⟨eTx_138, eGx_138⟩ := hx_138
    obtain ⟨G_139, eG_139⟩ : ∃ z, z = ux_138.2 := ⟨_, rfl⟩
    rw [← eG_139] at eGx_138
    have fr_140 : FR [20, 21, 22, 27, 28] [(g.2.2 70), (g.2.2 71), (g.2.2 72)] [] G G_139 := FR.tr fr_85 eGx_138 (by decide) (fun _ _ => trivial) (by decide)
    have u_141 : G_139.1 24 = 0 := (eGx_138.1 24 (by decide)).trans u_86
    have u_142 : G_139.1 20 = n_57 := (eGx_138.1 20 (by decide)).trans u_87
    have u_143 : G_139.1 21 = n_58 := (eGx_138.1 21 (by decide)).trans u_88
    have u_144 : G_139.1 22 = n_59 := (eGx_138.1 22 (by decide)).trans u_89
    have w_145 : G_139.2.1 (g.2.2 70) = f_54 := (eGx_138.2.1 (g.2.2 70) trivial).trans w_90
    have w_146 : G_139.2.1 (g.2.2 71) = f_55 := (eGx_138.2.1 (g.2.2 71) trivial).trans w_91
    have w_147 : G_139.2.1 (g.2.2 72) = f_56 := (eGx_138.2.1 (g.2.2 72) trivial).trans w_92
    have hH : HT g T_79 G_139 H := by rw [← ht, ← eTx_138, eG_139]; exact hB
    exact L_54 H locs T_79 G_139 f_54 f_55 f_56 n_57 n_58 n_59 x_78 ls hE_81 fr_140 w_145 w_146 w_147 u_142 u_143 u_144 (lv_sub hl [0] rfl) hv hH hS

def F_X11_draw (m25 : Int32) (a0 : Int32) : Int32 × Int32 := (if a0 ≤ (0 : Int32) then ((0 : Int32), ((m25 * (1103515245 : Int32)) + (12345 : Int32))) else ((jrem ((Int32.toUInt32 ((m25 * (1103515245 : Int32)) + (12345 : Int32)) >>> (Int32.toUInt32 (16 : Int32) &&& Int32.toUInt32 31)).toInt32) a0), ((m25 * (1103515245 : Int32)) + (12345 : Int32))))
set_option maxHeartbeats 4000000 in
set_option maxRecDepth 100000 in
theorem c_X11_draw (l : Launch) (g : Gx) (Ty : TyM) (G : Gh) (sz : Nat) (h0 : Nat) (a0 : Int32) (k_h0 : Ty h0 = some (21, 0)) (hD1 : LD1 g) : Met l yX11_draw (wsG yX11_draw cX11_draw 2 (some .int)) ({ frames := 0, cells := 0, slots := 0, locals := 0 }) (PcT g Ty G sz [.ref h0, .int a0]) (QwI g Ty sz (fun r u => u.1 = Ty ∧ FR [25] [] [] G u.2 ∧ F_X11_draw (G.1 25) a0 = (r, (u.2.1 25)))) 0 0 (AF Ty sz) := by
  refine Met.ofW (cc := cX11_draw) (maxL := 2) (ret := (some .int)) (by decide) rfl ?_
  intro p e s m args below meth c s₁ B hml hv
  obtain ⟨rfl, hsz, hK, hH⟩ := hv
  subst hsz
  have hx := B.exec
  have hb := B.bytes
  have hr := B.returns
  have hts := atoms_spec (ws := (wsG yX11_draw cX11_draw 2 (some .int))) B.pre
  have hG : ∀ w ∈ GW, w.before ([.ref h0, .int a0] : List Value).toArray s = true := fun w h => hts w (List.mem_cons_of_mem _ h)
  have hown : s.vm.findClass RX11 = some m.cls := findClass_of_methodNamed B.named
  have hlocks := B.notSynchronized
  have hl := lv_entry [.ref h0, .int a0] (n := 2) (Nat.le_of_ble_eq_true rfl)
  rw [lg_entry_eq]
  generalize (lg_sl [.ref h0, .int a0] ++ List.replicate (2 - (lg_sl [.ref h0, .int a0]).length) Slot.unset).toArray = ls at hl ⊢
  have hl : lv_has ls 2 [(0, .ref h0), (1, .int a0)] := hl
  have hv : (if a0 ≤ (0 : Int32) then ((0 : Int32), (((G.1 25) * (1103515245 : Int32)) + (12345 : Int32))) else ((jrem ((Int32.toUInt32 (((G.1 25) * (1103515245 : Int32)) + (12345 : Int32)) >>> (Int32.toUInt32 (16 : Int32) &&& Int32.toUInt32 31)).toInt32) a0), (((G.1 25) * (1103515245 : Int32)) + (12345 : Int32)))) = F_X11_draw (G.1 25) a0 := rfl
  have hS : va_S (AF Ty s.heap.size) s.heap s.heap [] := va_S.rf
  refine lv_aload_n hx hb dX11_draw_0 rfl (lv_at hl 0 rfl) ?_
  refine lv_aload_n hx hb dX11_draw_1 rfl (lv_at hl 0 rfl) ?_
  obtain ⟨_, ⟨rfl, kq_2, kq_3, kq_4, kq_5, kq_6, kq_7, kq_8, kq_9, kq_10, kq_11, kq_12, kq_13, kq_14, kq_15, t_17⟩, o_c_1⟩ := hH h0 _ k_h0
  refine hg_get hx hb hG igX11 hown hK o_c_1 rfl 14 (by decide) (hG _ mw_371) rfl dX11_draw_2 ?_
  refine lv_ldcw (v := 1103515245) hx hb hown (hG _ mw_1158) dX11_draw_5 ?_
  refine lv_imul hx hb dX11_draw_8 ?_
  refine lv_topi (fun x_18 ex_18 => ?_)
  try rw [← ex_18] at hv
  refine lv_sipush (v := 12345) hx hb dX11_draw_9 (by decide) ?_
  refine lv_iadd hx hb dX11_draw_12 ?_
  refine lv_topi (fun x_19 ex_19 => ?_)
  try rw [← ex_19] at hv
  refine hg_put (ty := .int) hx hb hG igX11 tyX11 tyX11_ok nmX11 hown hK hS o_c_1 (AF.of k_h0) rfl 14 (by decide) (hG _ mw_371) rfl (by decide +kernel) rfl rfl (Nat.le_of_ble_eq_true rfl) dX11_draw_13 (fun H locs o_c_1 hz oq hS => ?_)
  obtain ⟨G_20, eG_20⟩ : ∃ z : Gh, z = gset G 25 x_19 := ⟨_, rfl⟩
  have hH : HT g Ty G_20 H := by rw [eG_20]; exact HT.putM 25 x_19 hH k_h0 ⟨rfl, kq_2, kq_3, kq_4, kq_5, kq_6, kq_7, kq_8, kq_9, kq_10, kq_11, kq_12, kq_13, kq_14, kq_15, t_17⟩ o_c_1 oq (⟨⟨by decide, by decide⟩, t_17⟩)
  have fr_21 : FR [25] [] [] G G_20 := FR.n FR.rf eG_20 (by decide)
  have u_22 : G_20.1 25 = x_19 := by rw [eG_20]; exact gs_eq
  clear oq hz
  refine lv_iload_n hx hb dX11_draw_16 rfl (lv_at hl 1 rfl) ?_
  refine lv_if_le (tgt := 32) hx hb dX11_draw_17 (by decide) (fun c_23 => ?_) (fun c_23 => ?_)
  · rw [if_pos c_23] at hv
    have r_24 : rgI (-2147483648) (0) a0 := rg_w (rg_leL (rg_top a0) rl_0 c_23) (by decide) (by decide)
    refine lv_iconst (v := 0) hx hb dX11_draw_32 (by decide) ?_
    exact W.iret hx hb hr (fun t ht hWm => ⟨⟨0, (Ty, G_20), rfl, ⟨rfl, ⟨fr_21, hv.symm.trans (by rw [u_22])⟩⟩, by show HT g Ty G_20 t.heap; rw [ht]; exact hH⟩, hS.F ht⟩) hS.2.2 dX11_draw_33
  · rw [if_neg c_23] at hv
    have r_25 : rgI (1) (2147483647) a0 := rg_w (rg_ltR rl_0 (rg_top a0) (nle_lt c_23)) (by decide) (by decide)
    refine lv_aload_n hx hb dX11_draw_20 rfl (lv_at hl 0 rfl) ?_
    obtain ⟨_, ⟨rfl, kq_27, kq_28, kq_29, kq_30, kq_31, kq_32, kq_33, kq_34, kq_35, kq_36, kq_37, kq_38, kq_39, kq_40, t_42⟩, o_c_26⟩ := hH h0 _ k_h0
    refine hg_get hx hb hG igX11 hown hK o_c_26 rfl 14 (by decide) (hG _ mw_371) rfl dX11_draw_21 ?_
    rw [u_22]
    refine lv_bipush (v := 16) hx hb dX11_draw_24 (by decide) ?_
    refine lv_iushr hx hb dX11_draw_26 rfl ?_
    refine lv_topi (fun x_43 ex_43 => ?_)
    try rw [← ex_43] at hv
    refine lv_iload_n hx hb dX11_draw_27 rfl (lv_at hl 1 rfl) ?_
    refine lv_irem hx hb dX11_draw_28 (rg_ne0 r_25 (by decide)) ?_
    refine lv_topi (fun x_44 ex_44 => ?_)
    try rw [← ex_44] at hv
    try rw [show jrem x_43 a0 = x_44 from ex_44.symm] at hv
    refine lv_goto (tgt := 33) hx hb dX11_draw_29 (by decide) ?_
    exact W.iret hx hb hr (fun t ht hWm => ⟨⟨x_44, (Ty, G_20), rfl, ⟨rfl, ⟨fr_21, hv.symm.trans (by rw [u_22])⟩⟩, by show HT g Ty G_20 t.heap; rw [ht]; exact hH⟩, hS.F ht⟩) hS.2.2 dX11_draw_33

def F_X11_years_23 : Nat → Int32 → Int32 → Int32 → (Nat → Int32) → (Nat → Int32) → (Nat → Int32) → (Nat → Int32) → Int32 → Int32 → Int32 → Int32 → Int32 → Int32 × (Nat → Int32) × (Nat → Int32) × (Nat → Int32) × (Nat → Int32) × Int32 × Int32 × Int32 × Int32 × Int32
  | 0, _, y3, _, yr0, yr1, yr2, yr3, yn20, yn21, yn22, yn23, yn25 => (y3, yr0, yr1, yr2, yr3, yn20, yn21, yn22, yn23, yn25)
  | n + 1, y2, y3, y4, yr0, yr1, yr2, yr3, yn20, yn21, yn22, yn23, yn25 => (if y2 ≤ y4 then (y3, yr0, yr1, yr2, yr3, yn20, yn21, yn22, yn23, yn25) else (tu2 (F_X11_draw yn25 (6 : Int32)) (fun z41 z42 => (tu2 (F_X11_draw z42 (24 : Int32)) (fun z43 z44 => (tu2 (F_X11_draw z44 (4 : Int32)) (fun z45 z46 => (if (3 : Int32) ≤ z41 then (if z41 = (3 : Int32) then (tu6 (F_X11_makes yr1 yr2 yn20 yn21 yn22 yn23 z43 (1 : Int32)) (fun z64 z65 z66 z67 z68 z69 => (if z64 < (0 : Int32) then (F_X11_years_23 n y2 (y3 + (0 : Int32)) (y4 + (1 : Int32)) yr0 z65 z66 yr3 yn20 z67 z68 z69 z46) else (F_X11_years_23 n y2 (y3 + (1 : Int32)) (y4 + (1 : Int32)) yr0 z65 z66 yr3 yn20 z67 z68 z69 z46)))) else (if z41 = (4 : Int32) then (tu2 (F_X11_draw z46 (24 : Int32)) (fun z54 z55 => (tu8 (F_X11_binds yr0 yr1 yr2 yr3 yn20 yn21 yn22 yn23 z54 z43 z45) (fun z56 z57 z58 z59 z60 z61 z62 z63 => (if z56 < (0 : Int32) then (F_X11_years_23 n y2 (y3 + (0 : Int32)) (y4 + (1 : Int32)) z57 z58 z59 z60 z61 yn21 z62 z63 z55) else (F_X11_years_23 n y2 (y3 + (1 : Int32)) (y4 + (1 : Int32)) z57 z58 z59 z60 z61 yn21 z62 z63 z55)))))) else (tu7 (F_X11_unmounts yr0 yr1 yr2 yn20 yn21 yn22 z43 z45) (fun z47 z48 z49 z50 z51 z52 z53 => (if z47 < (0 : Int32) then (F_X11_years_23 n y2 (y3 + (0 : Int32)) (y4 + (1 : Int32)) z48 z49 z50 yr3 z51 z52 z53 yn23 z46) else (F_X11_years_23 n y2 (y3 + (1 : Int32)) (y4 + (1 : Int32)) z48 z49 z50 yr3 z51 z52 z53 yn23 z46)))))) else (tu8 (F_X11_mounts yr0 yr1 yr2 yr3 yn20 yn22 yn23 z43 z45) (fun z70 z71 z72 z73 z74 z75 z76 z77 => (if z70 < (0 : Int32) then (F_X11_years_23 n y2 (y3 + (0 : Int32)) (y4 + (1 : Int32)) z71 z72 z73 z74 z75 yn21 z76 z77 z46) else (F_X11_years_23 n y2 (y3 + (1 : Int32)) (y4 + (1 : Int32)) z71 z72 z73 z74 z75 yn21 z76 z77 z46))))))))))))
def F_X11_years (r0 : Nat → Int32) (r1 : Nat → Int32) (r2 : Nat → Int32) (r3 : Nat → Int32) (m20 : Int32) (m21 : Int32) (m22 : Int32) (m23 : Int32) (m25 : Int32) (a0 : Int32) (a1 : Int32) : Int32 × (Nat → Int32) × (Nat → Int32) × (Nat → Int32) × (Nat → Int32) × Int32 × Int32 × Int32 × Int32 × Int32 := (if a1 < (1 : Int32) then ((-1 : Int32), r0, r1, r2, r3, m20, m21, m22, m23, m25) else (if a1 ≤ (40 : Int32) then (tu10 (F_X11_years_23 42 a1 (0 : Int32) (0 : Int32) r0 r1 r2 r3 m20 m21 m22 m23 a0) (fun z78 z79 z80 z81 z82 z83 z84 z85 z86 z87 => ((F_X10_size z83), z79, z80, z81, z82, z83, z84, z85, z86, z87))) else ((-1 : Int32), r0, r1, r2, r3, m20, m21, m22, m23, m25)))
set_option maxHeartbeats 4000000 in
set_option maxRecDepth 100000 in
theorem c_X11_years (l : Launch) (g : Gx) (Ty : TyM) (G : Gh) (sz : Nat) (h0 : Nat) (a0 : Int32) (a1 : Int32) (k_h0 : Ty h0 = some (21, 0)) (hD1 : LD1 g) (h24 : G.1 24 = 0) : Met l yX11_years (wsG yX11_years cX11_years 9 (some .int)) ({ frames := 7, cells := 160, slots := 3160, locals := 170 }) (PcT g Ty G sz [.ref h0, .int a0, .int a1]) (QwI g Ty sz (fun r u => Ext sz Ty u.1 ∧ FR [20, 21, 22, 23, 25, 27, 28] [(g.2.2 70), (g.2.2 71), (g.2.2 72), (g.2.2 73)] [] G u.2 ∧ F_X11_years (G.2.1 (g.2.2 70)) (G.2.1 (g.2.2 71)) (G.2.1 (g.2.2 72)) (G.2.1 (g.2.2 73)) (G.1 20) (G.1 21) (G.1 22) (G.1 23) (G.1 25) a0 a1 = (r, (u.2.2.1 (g.2.2 70)), (u.2.2.1 (g.2.2 71)), (u.2.2.1 (g.2.2 72)), (u.2.2.1 (g.2.2 73)), (u.2.1 20), (u.2.1 21), (u.2.1 22), (u.2.1 23), (u.2.1 25)))) 160 3160 (AF Ty sz) := by
  refine Met.ofW (cc := cX11_years) (maxL := 9) (ret := (some .int)) (by decide) rfl ?_
  intro p e s m args below meth c s₁ B hml hv
  obtain ⟨rfl, hsz, hK, hH⟩ := hv
  subst hsz
  have hx := B.exec
  have hb := B.bytes
  have hr := B.returns
  have hts := atoms_spec (ws := (wsG yX11_years cX11_years 9 (some .int))) B.pre
  have hG : ∀ w ∈ GW, w.before ([.ref h0, .int a0, .int a1] : List Value).toArray s = true := fun w h => hts w (List.mem_cons_of_mem _ h)
  have hown : s.vm.findClass RX11 = some m.cls := findClass_of_methodNamed B.named
  have hlocks := B.notSynchronized
  have hl := lv_entry [.ref h0, .int a0, .int a1] (n := 9) (Nat.le_of_ble_eq_true rfl)
  rw [lg_entry_eq]
  generalize (lg_sl [.ref h0, .int a0, .int a1] ++ List.replicate (9 - (lg_sl [.ref h0, .int a0, .int a1]).length) Slot.unset).toArray = ls at hl ⊢
  have hl : lv_has ls 9 [(0, .ref h0), (1, .int a0), (2, .int a1)] := hl
  have hv : (if a1 < (1 : Int32) then ((-1 : Int32), (G.2.1 (g.2.2 70)), (G.2.1 (g.2.2 71)), (G.2.1 (g.2.2 72)), (G.2.1 (g.2.2 73)), (G.1 20), (G.1 21), (G.1 22), (G.1 23), (G.1 25)) else (if a1 ≤ (40 : Int32) then (tu10 (F_X11_years_23 42 a1 (0 : Int32) (0 : Int32) (G.2.1 (g.2.2 70)) (G.2.1 (g.2.2 71)) (G.2.1 (g.2.2 72)) (G.2.1 (g.2.2 73)) (G.1 20) (G.1 21) (G.1 22) (G.1 23) a0) (fun z31 z32 z33 z34 z35 z36 z37 z38 z39 z40 => ((F_X10_size z36), z32, z33, z34, z35, z36, z37, z38, z39, z40))) else ((-1 : Int32), (G.2.1 (g.2.2 70)), (G.2.1 (g.2.2 71)), (G.2.1 (g.2.2 72)), (G.2.1 (g.2.2 73)), (G.1 20), (G.1 21), (G.1 22), (G.1 23), (G.1 25)))) = F_X11_years (G.2.1 (g.2.2 70)) (G.2.1 (g.2.2 71)) (G.2.1 (g.2.2 72)) (G.2.1 (g.2.2 73)) (G.1 20) (G.1 21) (G.1 22) (G.1 23) (G.1 25) a0 a1 := rfl
  have hS : va_S (AF Ty s.heap.size) s.heap s.heap [] := va_S.rf
  have L_23 : ∀ (n_23 : Nat) (H : Heap) (locs : List Loc) (Ty_23 : TyM) (G_23 : Gh) (fl0_23 : Nat → Int32) (fl1_23 : Nat → Int32) (fl2_23 : Nat → Int32) (fl3_23 : Nat → Int32) (nl20_23 : Int32) (nl21_23 : Int32) (nl22_23 : Int32) (nl23_23 : Int32) (nl25_23 : Int32) (y3_23 : Int32) (y4_23 : Int32) (nc_23 : Nat) (ns_23 : Nat) (ls : Array Slot), Ext s.heap.size Ty Ty_23 → FR [20, 21, 22, 23, 25, 27, 28] [(g.2.2 70), (g.2.2 71), (g.2.2 72), (g.2.2 73)] [] G G_23 → G_23.2.1 (g.2.2 70) = fl0_23 → G_23.2.1 (g.2.2 71) = fl1_23 → G_23.2.1 (g.2.2 72) = fl2_23 → G_23.2.1 (g.2.2 73) = fl3_23 → G_23.1 20 = nl20_23 → G_23.1 21 = nl21_23 → G_23.1 22 = nl22_23 → G_23.1 23 = nl23_23 → G_23.1 25 = nl25_23 → Ty_23 h0 = some (21, 0) → rgI (1) (40) a1 → rgI (0) (40) y4_23 → (nc_23 : Int) ≤ 4 * y4_23.toInt → (ns_23 : Int) ≤ 79 * y4_23.toInt → (40 - (y4_23).toInt).toNat < n_23 → lv_has ls 9 [(0, .ref h0), (2, .int a1), (3, .int y3_23), (4, .int y4_23)] → (tu10 (F_X11_years_23 n_23 a1 y3_23 y4_23 fl0_23 fl1_23 fl2_23 fl3_23 nl20_23 nl21_23 nl22_23 nl23_23 nl25_23) (fun z1 z2 z3 z4 z5 z6 z7 z8 z9 z10 => ((F_X10_size z6), z2, z3, z4, z5, z6, z7, z8, z9, z10))) = F_X11_years (G.2.1 (g.2.2 70)) (G.2.1 (g.2.2 71)) (G.2.1 (g.2.2 72)) (G.2.1 (g.2.2 73)) (G.1 20) (G.1 21) (G.1 22) (G.1 23) (G.1 25) a0 a1 → HT g Ty_23 G_23 H → va_S (AF Ty s.heap.size) s.heap H locs → Wm p l e (wsG yX11_years cX11_years 9 (some .int)) ({ frames := 7, cells := 160, slots := 3160, locals := 170 }) s m [.ref h0, .int a0, .int a1] below meth c H locs (nc_23) (ns_23) (QwI g Ty s.heap.size (fun r u => Ext s.heap.size Ty u.1 ∧ FR [20, 21, 22, 23, 25, 27, 28] [(g.2.2 70), (g.2.2 71), (g.2.2 72), (g.2.2 73)] [] G u.2 ∧ F_X11_years (G.2.1 (g.2.2 70)) (G.2.1 (g.2.2 71)) (G.2.1 (g.2.2 72)) (G.2.1 (g.2.2 73)) (G.1 20) (G.1 21) (G.1 22) (G.1 23) (G.1 25) a0 a1 = (r, (u.2.2.1 (g.2.2 70)), (u.2.2.1 (g.2.2 71)), (u.2.2.1 (g.2.2 72)), (u.2.2.1 (g.2.2 73)), (u.2.1 20), (u.2.1 21), (u.2.1 22), (u.2.1 23), (u.2.1 25)))) 160 3160 (AF Ty s.heap.size) (F0 m 23 ls []) := by
    intro n_23
    induction n_23 with
    | zero => intro H locs Ty_23 G_23 fl0_23 fl1_23 fl2_23 fl3_23 nl20_23 nl21_23 nl22_23 nl23_23 nl25_23 y3_23 y4_23 nc_23 ns_23 ls hE_23 frL_23 efl0_23 efl1_23 efl2_23 efl3_23 enl20_23 enl21_23 enl22_23 enl23_23 enl25_23 ky0_23 ry2_23 ry4_23 hnc_23 hns_23 hm; exact absurd hm (Nat.not_lt_zero _)
    | succ n_23 ih_23 =>
      intro H locs Ty_23 G_23 fl0_23 fl1_23 fl2_23 fl3_23 nl20_23 nl21_23 nl22_23 nl23_23 nl25_23 y3_23 y4_23 nc_23 ns_23 ls hE_23 frL_23 efl0_23 efl1_23 efl2_23 efl3_23 enl20_23 enl21_23 enl22_23 enl23_23 enl25_23 ky0_23 ry2_23 ry4_23 hnc_23 hns_23 hm_23 hl hv hH hS
      have L_135 : ∀ (H : Heap) (locs : List Loc) (Ty_135 : TyM) (G_135 : Gh) (fl0_135 : Nat → Int32) (fl1_135 : Nat → Int32) (fl2_135 : Nat → Int32) (fl3_135 : Nat → Int32) (nl20_135 : Int32) (nl21_135 : Int32) (nl22_135 : Int32) (nl23_135 : Int32) (nl25_135 : Int32) (z0_135 : Int32) (ls : Array Slot), Ext s.heap.size Ty Ty_135 → FR [20, 21, 22, 23, 25, 27, 28] [(g.2.2 70), (g.2.2 71), (g.2.2 72), (g.2.2 73)] [] G G_135 → G_135.2.1 (g.2.2 70) = fl0_135 → G_135.2.1 (g.2.2 71) = fl1_135 → G_135.2.1 (g.2.2 72) = fl2_135 → G_135.2.1 (g.2.2 73) = fl3_135 → G_135.1 20 = nl20_135 → G_135.1 21 = nl21_135 → G_135.1 22 = nl22_135 → G_135.1 23 = nl23_135 → G_135.1 25 = nl25_135 → Ty_135 h0 = some (21, 0) → rgI (1) (40) a1 → rgI (0) (39) y4_23 → rgI (0) (1) z0_135 → lv_has ls 9 [(0, .ref h0), (2, .int a1), (4, .int y4_23)] → (tu10 (F_X11_years_23 n_23 a1 (y3_23 + z0_135) (y4_23 + (1 : Int32)) fl0_135 fl1_135 fl2_135 fl3_135 nl20_135 nl21_135 nl22_135 nl23_135 nl25_135) (fun z11 z12 z13 z14 z15 z16 z17 z18 z19 z20 => ((F_X10_size z16), z12, z13, z14, z15, z16, z17, z18, z19, z20))) = F_X11_years (G.2.1 (g.2.2 70)) (G.2.1 (g.2.2 71)) (G.2.1 (g.2.2 72)) (G.2.1 (g.2.2 73)) (G.1 20) (G.1 21) (G.1 22) (G.1 23) (G.1 25) a0 a1 → HT g Ty_135 G_135 H → va_S (AF Ty s.heap.size) s.heap H locs → Wm p l e (wsG yX11_years cX11_years 9 (some .int)) ({ frames := 7, cells := 160, slots := 3160, locals := 170 }) s m [.ref h0, .int a0, .int a1] below meth c H locs (nc_23 + 4) (ns_23 + 79) (QwI g Ty s.heap.size (fun r u => Ext s.heap.size Ty u.1 ∧ FR [20, 21, 22, 23, 25, 27, 28] [(g.2.2 70), (g.2.2 71), (g.2.2 72), (g.2.2 73)] [] G u.2 ∧ F_X11_years (G.2.1 (g.2.2 70)) (G.2.1 (g.2.2 71)) (G.2.1 (g.2.2 72)) (G.2.1 (g.2.2 73)) (G.1 20) (G.1 21) (G.1 22) (G.1 23) (G.1 25) a0 a1 = (r, (u.2.2.1 (g.2.2 70)), (u.2.2.1 (g.2.2 71)), (u.2.2.1 (g.2.2 72)), (u.2.2.1 (g.2.2 73)), (u.2.1 20), (u.2.1 21), (u.2.1 22), (u.2.1 23), (u.2.1 25)))) 160 3160 (AF Ty s.heap.size) (F0 m 135 ls [.int z0_135, .int y3_23]) := by
        intro H locs Ty_135 G_135 fl0_135 fl1_135 fl2_135 fl3_135 nl20_135 nl21_135 nl22_135 nl23_135 nl25_135 z0_135 ls hE_135 frL_135 efl0_135 efl1_135 efl2_135 efl3_135 enl20_135 enl21_135 enl22_135 enl23_135 enl25_135 ky0_135 ry2_135 ry4_135 rz0_135 hl hv hH hS
        refine lv_iadd hx hb dX11_years_135 ?_
        refine lv_topi (fun x_1 ex_1 => ?_)
        try rw [← ex_1] at hv
        refine lv_istore_n (lv' := [(3, .int x_1), (0, .ref h0), (2, .int a1), (4, .int y4_23)]) hx hb dX11_years_136 rfl hl (by decide) rfl (fun ls hl => ?_)
        obtain ⟨x_2, ex_2⟩ : ∃ y : Int32, y = y4_23 + 1 := ⟨_, rfl⟩
        try rw [← ex_2] at hv
        have rx_2 : rgI (1) (40) x_2 := by rw [ex_2]; exact rg_w (rg_add ry4_135 rl_1 (by decide) (by decide)) (by decide) (by decide)
        have qx_2 : x_2.toInt = (y4_23 : Int32).toInt + 1 := by rw [ex_2]; exact rg_addE ry4_135 rl_1 (by decide) (by decide)
        refine lv_iinc (v := x_2) (lv' := [(4, .int x_2), (3, .int x_1), (0, .ref h0), (2, .int a1)]) hx hb dX11_years_137 hl (k := 3) rfl (by rw [ex_2]; rfl) (by decide) rfl (fun ls hl => ?_)
        refine lv_goto (tgt := 23) hx hb dX11_years_140 (by decide) ?_
        exact ih_23 H locs Ty_135 G_135 fl0_135 fl1_135 fl2_135 fl3_135 nl20_135 nl21_135 nl22_135 nl23_135 nl25_135 x_1 x_2 (nc_23 + 4) (ns_23 + 79) ls hE_135 frL_135 efl0_135 efl1_135 efl2_135 efl3_135 enl20_135 enl21_135 enl22_135 enl23_135 enl25_135 ky0_135 ry2_135 (rg_w rx_2 (by decide) (by decide)) (by have q1 := hnc_23; have q2 := qx_2; show ((nc_23 + 4 : Nat) : Int) ≤ 4 * (x_2 : Int32).toInt; omega) (by have q1 := hns_23; have q2 := qx_2; show ((ns_23 + 79 : Nat) : Int) ≤ 79 * (x_2 : Int32).toInt; omega) (by have h1 := qx_2; have h2 := ry4_135.1; have h3 := ry4_135.2; have h4 := hm_23; omega) (lv_sub hl [2, 3, 1, 0] rfl) hv hH hS
      have L_124 : ∀ (H : Heap) (locs : List Loc) (Ty_124 : TyM) (G_124 : Gh) (fl0_124 : Nat → Int32) (fl1_124 : Nat → Int32) (fl2_124 : Nat → Int32) (fl3_124 : Nat → Int32) (nl20_124 : Int32) (nl21_124 : Int32) (nl22_124 : Int32) (nl23_124 : Int32) (nl25_124 : Int32) (y8_124 : Int32) (ls : Array Slot), Ext s.heap.size Ty Ty_124 → FR [20, 21, 22, 23, 25, 27, 28] [(g.2.2 70), (g.2.2 71), (g.2.2 72), (g.2.2 73)] [] G G_124 → G_124.2.1 (g.2.2 70) = fl0_124 → G_124.2.1 (g.2.2 71) = fl1_124 → G_124.2.1 (g.2.2 72) = fl2_124 → G_124.2.1 (g.2.2 73) = fl3_124 → G_124.1 20 = nl20_124 → G_124.1 21 = nl21_124 → G_124.1 22 = nl22_124 → G_124.1 23 = nl23_124 → G_124.1 25 = nl25_124 → Ty_124 h0 = some (21, 0) → rgI (1) (40) a1 → rgI (0) (39) y4_23 → lv_has ls 9 [(0, .ref h0), (2, .int a1), (3, .int y3_23), (4, .int y4_23), (8, .int y8_124)] → (tu10 (if y8_124 < (0 : Int32) then (F_X11_years_23 n_23 a1 (y3_23 + (0 : Int32)) (y4_23 + (1 : Int32)) fl0_124 fl1_124 fl2_124 fl3_124 nl20_124 nl21_124 nl22_124 nl23_124 nl25_124) else (F_X11_years_23 n_23 a1 (y3_23 + (1 : Int32)) (y4_23 + (1 : Int32)) fl0_124 fl1_124 fl2_124 fl3_124 nl20_124 nl21_124 nl22_124 nl23_124 nl25_124)) (fun z21 z22 z23 z24 z25 z26 z27 z28 z29 z30 => ((F_X10_size z26), z22, z23, z24, z25, z26, z27, z28, z29, z30))) = F_X11_years (G.2.1 (g.2.2 70)) (G.2.1 (g.2.2 71)) (G.2.1 (g.2.2 72)) (G.2.1 (g.2.2 73)) (G.1 20) (G.1 21) (G.1 22) (G.1 23) (G.1 25) a0 a1 → HT g Ty_124 G_124 H → va_S (AF Ty s.heap.size) s.heap H locs → Wm p l e (wsG yX11_years cX11_years 9 (some .int)) ({ frames := 7, cells := 160, slots := 3160, locals := 170 }) s m [.ref h0, .int a0, .int a1] below meth c H locs (nc_23 + 4) (ns_23 + 79) (QwI g Ty s.heap.size (fun r u => Ext s.heap.size Ty u.1 ∧ FR [20, 21, 22, 23, 25, 27, 28] [(g.2.2 70), (g.2.2 71), (g.2.2 72), (g.2.2 73)] [] G u.2 ∧ F_X11_years (G.2.1 (g.2.2 70)) (G.2.1 (g.2.2 71)) (G.2.1 (g.2.2 72)) (G.2.1 (g.2.2 73)) (G.1 20) (G.1 21) (G.1 22) (G.1 23) (G.1 25) a0 a1 = (r, (u.2.2.1 (g.2.2 70)), (u.2.2.1 (g.2.2 71)), (u.2.2.1 (g.2.2 72)), (u.2.2.1 (g.2.2 73)), (u.2.1 20), (u.2.1 21), (u.2.1 22), (u.2.1 23), (u.2.1 25)))) 160 3160 (AF Ty s.heap.size) (F0 m 124 ls []) := by
        intro H locs Ty_124 G_124 fl0_124 fl1_124 fl2_124 fl3_124 nl20_124 nl21_124 nl22_124 nl23_124 nl25_124 y8_124 ls hE_124 frL_124 efl0_124 efl1_124 efl2_124 efl3_124 enl20_124 enl21_124 enl22_124 enl23_124 enl25_124 ky0_124 ry2_124 ry4_124 hl hv hH hS
        refine lv_iload_n hx hb dX11_years_124 rfl (lv_at hl 2 rfl) ?_
        refine lv_iload hx hb dX11_years_125 (lv_at hl 4 rfl) ?_
        refine lv_if_lt (tgt := 134) hx hb dX11_years_127 (by decide) (fun c_3 => ?_) (fun c_3 => ?_)
        · rw [if_pos c_3] at hv
          have r_4 : rgI (-2147483648) (-1) y8_124 := rg_w (rg_ltL (rg_top y8_124) rl_0 c_3) (by decide) (by decide)
          refine lv_iconst (v := 0) hx hb dX11_years_134 (by decide) ?_
          exact L_135 H locs Ty_124 G_124 fl0_124 fl1_124 fl2_124 fl3_124 nl20_124 nl21_124 nl22_124 nl23_124 nl25_124 0 ls hE_124 frL_124 efl0_124 efl1_124 efl2_124 efl3_124 enl20_124 enl21_124 enl22_124 enl23_124 enl25_124 ky0_124 ry2_124 ry4_124 (rg_w rl_0 (by decide) (by decide)) (lv_sub hl [0, 1, 3] rfl) hv hH hS
        · rw [if_neg c_3] at hv
          have r_5 : rgI (0) (2147483647) y8_124 := rg_w (rg_leR rl_0 (rg_top y8_124) (nlt_le c_3)) (by decide) (by decide)
          refine lv_iconst (v := 1) hx hb dX11_years_130 (by decide) ?_
          refine lv_goto (tgt := 135) hx hb dX11_years_131 (by decide) ?_
          exact L_135 H locs Ty_124 G_124 fl0_124 fl1_124 fl2_124 fl3_124 nl20_124 nl21_124 nl22_124 nl23_124 nl25_124 1 ls hE_124 frL_124 efl0_124 efl1_124 efl2_124 efl3_124 enl20_124 enl21_124 enl22_124 enl23_124 enl25_124 ky0_124 ry2_124 ry4_124 (rg_w rl_1 (by decide) (by decide)) (lv_sub hl [0, 1, 3] rfl) hv hH hS
      rw [F_X11_years_23] at hv
      refine lv_iload hx hb dX11_years_23 (lv_at hl 3 rfl) ?_
      refine lv_iload_n hx hb dX11_years_25 rfl (lv_at hl 1 rfl) ?_
      refine lv_icmp_ge (tgt := 143) hx hb dX11_years_26 (by decide) (fun c_6 => ?_) (fun c_6 => ?_)
      · rw [if_pos c_6] at hv
        have r_7 : rgI (1) (40) y4_23 := rg_w (rg_leR ry2_23 ry4_23 c_6) (by decide) (by decide)
        rw [tu10_eq] at hv
        refine lv_aload_n hx hb dX11_years_143 rfl (lv_at hl 0 rfl) ?_
        obtain ⟨_, ⟨rfl, kq_9, kq_10, kq_11, kq_12, kq_13, kq_14, kq_15, kq_16, kq_17, kq_18, kq_19, kq_20, kq_21, kq_22, t_24⟩, o_c_8⟩ := hH h0 _ ky0_23
        refine hg_get hx hb hG igX11 hown hK o_c_8 rfl 5 (by decide) (hG _ mw_362) rfl dX11_years_144 ?_
        refine lv_aload_n hx hb dX11_years_147 rfl (lv_at hl 0 rfl) ?_
        refine hg_get hx hb hG igX11 hown hK o_c_8 rfl 0 (by decide) (hG _ mw_357) rfl dX11_years_148 ?_
        obtain ⟨_, ⟨rfl, kq_26, kq_27, kq_28, t_33⟩, o_c_25⟩ := hH (g.2.2 0) _ kq_9
        refine vp_callSi (W.runV (As := []) (rest := [.ref (g.2.2 5)]) ⟨hx, hb, hml, hown, hts⟩ (c_X10_groupCount l g Ty_23 G_23 (g.2.2 0) kq_9) (cwV 0 hts (gwV mw_944 mw_945 mw_946 mw_77 mw_947) rfl rfl rfl hv_X10_groupCount ⟨Nat.le_of_ble_eq_true rfl, Nat.le_of_ble_eq_true rfl⟩) ⟨PcH_blind, hg_recv hK o_c_25 rfl, PcH_pre hK hH⟩ rfl rfl hl.1 rfl (lv_room (Nat.le_of_ble_eq_true rfl)) dX11_years_151 ⟨by have q1 := hnc_23; have q2 := (r_7).2; show nc_23 + 0 ≤ 160; omega, by have q1 := hns_23; have q2 := (r_7).2; show ns_23 + 0 ≤ 3160; omega⟩) (fun x_34 hx_34 => ?_)
        try rw [← hx_34] at hv
        have ex_35 : x_34 = F_X10_groupCount fl1_23 := hx_34.trans (by rw [efl1_23])
        try rw [← ex_35] at hv
        refine lv_i2l hx hb dX11_years_154 rfl ?_
        refine lv_topl (fun u_36 eu_36 => ?_)
        refine lv_iload_n hx hb dX11_years_155 rfl (lv_at hl 2 rfl) ?_
        refine lv_i2l hx hb dX11_years_156 rfl ?_
        refine lv_topl (fun u_37 eu_37 => ?_)
        obtain ⟨_, ⟨q_39, rfl, kq_39, rq_40, t_41⟩, o_c_38⟩ := hH (g.2.2 5) _ kq_14
        refine va_callv (va_runV (As := [.long u_36, .long u_37]) (rest := []) ⟨hx, hb, hml, hown, hts⟩ (c_X7_tellTwo l g Ty_23 G_23 H.size (g.2.2 5) u_36 u_37 kq_14 hD1) (cwV 2 hts (gwV mw_753 mw_754 mw_755 mw_80 mw_756) rfl rfl rfl hv_X7_tellTwo ⟨Nat.le_of_ble_eq_true rfl, Nat.le_of_ble_eq_true rfl⟩) ⟨PcT_blind, hg_recv hK o_c_38 rfl, PcT_pre hK hH⟩ rfl rfl hl.1 rfl (lv_room (Nat.le_of_ble_eq_true rfl)) dX11_years_157 ⟨by have q1 := hnc_23; have q2 := (r_7).2; show nc_23 + 0 ≤ 160; omega, by have q1 := hns_23; have q2 := (r_7).2; show ns_23 + 0 ≤ 3160; omega⟩) hS (fun q _ h => AF.back hE_23 hS.1 h) (fun q h => AF.back hE_23 hS.1 h) (fun ux_42 t H locs ht hvm hx_42 hB hz hk hS => ?_)
        obtain ⟨eTx_42, eGx_42⟩ := hx_42
        obtain ⟨G_43, eG_43⟩ : ∃ z, z = ux_42.2 := ⟨_, rfl⟩
        rw [← eG_43] at eGx_42
        have fr_44 : FR [20, 21, 22, 23, 25, 27, 28] [(g.2.2 70), (g.2.2 71), (g.2.2 72), (g.2.2 73)] [] G G_43 := FR.tr frL_23 eGx_42 (by decide) (fun _ _ => trivial) (by decide)
        have u_45 : G_43.1 24 = 0 := (eGx_42.1 24 (by decide)).trans ((frL_23.1 24 (by decide)).trans h24)
        have u_46 : G_43.1 20 = nl20_23 := (eGx_42.1 20 (by decide)).trans enl20_23
        have u_47 : G_43.1 21 = nl21_23 := (eGx_42.1 21 (by decide)).trans enl21_23
        have u_48 : G_43.1 22 = nl22_23 := (eGx_42.1 22 (by decide)).trans enl22_23
        have u_49 : G_43.1 23 = nl23_23 := (eGx_42.1 23 (by decide)).trans enl23_23
        have u_50 : G_43.1 25 = nl25_23 := (eGx_42.1 25 (by decide)).trans enl25_23
        have w_51 : G_43.2.1 (g.2.2 70) = fl0_23 := (eGx_42.2.1 (g.2.2 70) trivial).trans efl0_23
        have w_52 : G_43.2.1 (g.2.2 71) = fl1_23 := (eGx_42.2.1 (g.2.2 71) trivial).trans efl1_23
        have w_53 : G_43.2.1 (g.2.2 72) = fl2_23 := (eGx_42.2.1 (g.2.2 72) trivial).trans efl2_23
        have w_54 : G_43.2.1 (g.2.2 73) = fl3_23 := (eGx_42.2.1 (g.2.2 73) trivial).trans efl3_23
        have hH : HT g Ty_23 G_43 H := by rw [← ht, ← eTx_42, eG_43]; exact hB
        refine lv_aload_n hx hb dX11_years_160 rfl (lv_at hl 0 rfl) ?_
        obtain ⟨_, ⟨rfl, kq_56, kq_57, kq_58, kq_59, kq_60, kq_61, kq_62, kq_63, kq_64, kq_65, kq_66, kq_67, kq_68, kq_69, t_71⟩, o_c_55⟩ := hH h0 _ ky0_23
        refine hg_get hx hb hG igX11 hown hK o_c_55 rfl 0 (by decide) (hG _ mw_357) rfl dX11_years_161 ?_
        obtain ⟨_, ⟨rfl, kq_73, kq_74, kq_75, t_80⟩, o_c_72⟩ := hH (g.2.2 0) _ kq_56
        refine vp_callSi (W.runV (As := []) (rest := []) ⟨hx, hb, hml, hown, hts⟩ (c_X10_size l g Ty_23 G_43 (g.2.2 0) kq_56) (cwV 0 hts (gwV mw_901 mw_709 mw_710 mw_77 mw_711) rfl rfl rfl hv_X10_size ⟨Nat.le_of_ble_eq_true rfl, Nat.le_of_ble_eq_true rfl⟩) ⟨PcH_blind, hg_recv hK o_c_72 rfl, PcH_pre hK hH⟩ rfl rfl hl.1 rfl (lv_room (Nat.le_of_ble_eq_true rfl)) dX11_years_164 ⟨by have q1 := hnc_23; have q2 := (r_7).2; show nc_23 + 0 ≤ 160; omega, by have q1 := hns_23; have q2 := (r_7).2; show ns_23 + 0 ≤ 3160; omega⟩) (fun x_81 hx_81 => ?_)
        try rw [← hx_81] at hv
        have ex_82 : x_81 = F_X10_size nl20_23 := hx_81.trans (by rw [u_46])
        try rw [← ex_82] at hv
        refine W.widen (k := 160) (n := 3160) (by have q1 := hnc_23; have q2 := (r_7).2; omega) (by have q1 := hns_23; have q2 := (r_7).2; omega) ?_
        exact W.iret hx hb hr (fun t ht hWm => ⟨⟨x_81, (Ty_23, G_43), rfl, ⟨hE_23, ⟨fr_44, hv.symm.trans (by rw [w_51, w_52, w_53, w_54, u_46, u_47, u_48, u_49, u_50])⟩⟩, by show HT g Ty_23 G_43 t.heap; rw [ht]; exact hH⟩, hS.F ht⟩) hS.2.2 dX11_years_167
      · rw [if_neg c_6] at hv
        have r_83 : rgI (0) (39) y4_23 := rg_w (rg_ltL ry4_23 ry2_23 (nle_lt c_6)) (by decide) (by decide)
        refine lv_aload_n hx hb dX11_years_29 rfl (lv_at hl 0 rfl) ?_
        refine lv_bipush (v := 6) hx hb dX11_years_30 (by decide) ?_
        obtain ⟨_, ⟨rfl, kq_85, kq_86, kq_87, kq_88, kq_89, kq_90, kq_91, kq_92, kq_93, kq_94, kq_95, kq_96, kq_97, kq_98, t_100⟩, o_c_84⟩ := hH h0 _ ky0_23
        refine va_calli (va_runV (As := [.int 6]) (rest := []) ⟨hx, hb, hml, hown, hts⟩ (c_X11_draw l g Ty_23 G_23 H.size h0 6 ky0_23 hD1) (cwV 1 hts (gwV mw_1154 mw_1156 mw_29 mw_76 mw_1157) rfl rfl rfl hv_X11_draw ⟨Nat.le_of_ble_eq_true rfl, Nat.le_of_ble_eq_true rfl⟩) ⟨PcT_blind, hg_recv hK o_c_84 rfl, PcT_pre hK hH⟩ rfl rfl hl.1 rfl (lv_room (Nat.le_of_ble_eq_true rfl)) dX11_years_32 ⟨by have q1 := hnc_23; have q2 := (r_83).2; show nc_23 + 0 ≤ 160; omega, by have q1 := hns_23; have q2 := (r_83).2; show ns_23 + 0 ≤ 3160; omega⟩) hS (fun q _ h => AF.back hE_23 hS.1 h) (fun q h => AF.back hE_23 hS.1 h) (fun x_101 ux_101 t H locs ht hvm hx_101 hB hz hk hS => ?_)
        obtain ⟨eTx_101, eGx_101⟩ := hx_101
        obtain ⟨G_102, eG_102⟩ : ∃ z, z = ux_101.2 := ⟨_, rfl⟩
        rw [← eG_102] at eGx_101
        obtain ⟨hfr_103, hex_104⟩ := eGx_101
        have fr_105 : FR [20, 21, 22, 23, 25, 27, 28] [(g.2.2 70), (g.2.2 71), (g.2.2 72), (g.2.2 73)] [] G G_102 := FR.tr frL_23 hfr_103 (by decide) (fun _ _ => trivial) (by decide)
        have u_106 : G_102.1 24 = 0 := (hfr_103.1 24 (by decide)).trans ((frL_23.1 24 (by decide)).trans h24)
        have u_107 : G_102.1 20 = nl20_23 := (hfr_103.1 20 (by decide)).trans enl20_23
        have u_108 : G_102.1 21 = nl21_23 := (hfr_103.1 21 (by decide)).trans enl21_23
        have u_109 : G_102.1 22 = nl22_23 := (hfr_103.1 22 (by decide)).trans enl22_23
        have u_110 : G_102.1 23 = nl23_23 := (hfr_103.1 23 (by decide)).trans enl23_23
        have w_111 : G_102.2.1 (g.2.2 70) = fl0_23 := (hfr_103.2.1 (g.2.2 70) trivial).trans efl0_23
        have w_112 : G_102.2.1 (g.2.2 71) = fl1_23 := (hfr_103.2.1 (g.2.2 71) trivial).trans efl1_23
        have w_113 : G_102.2.1 (g.2.2 72) = fl2_23 := (hfr_103.2.1 (g.2.2 72) trivial).trans efl2_23
        have w_114 : G_102.2.1 (g.2.2 73) = fl3_23 := (hfr_103.2.1 (g.2.2 73) trivial).trans efl3_23
        obtain ⟨n_115, en_115⟩ : ∃ z : Int32, G_102.1 25 = z := ⟨_, rfl⟩
        have hq_116 : F_X11_draw nl25_23 6 = (x_101, n_115) := by have q := hex_104; rw [enl25_23, en_115] at q; exact q
        rw [hq_116, tu2_eq] at hv
        have hH : HT g Ty_23 G_102 H := by rw [← ht, ← eTx_101, eG_102]; exact hB
        refine lv_istore (lv' := [(5, .int x_101), (0, .ref h0), (2, .int a1), (3, .int y3_23), (4, .int y4_23)]) hx hb dX11_years_35 hl (by decide) rfl (fun ls hl => ?_)
        refine lv_aload_n hx hb dX11_years_37 rfl (lv_at hl 1 rfl) ?_
        refine lv_bipush (v := 24) hx hb dX11_years_38 (by decide) ?_
        obtain ⟨_, ⟨rfl, kq_118, kq_119, kq_120, kq_121, kq_122, kq_123, kq_124, kq_125, kq_126, kq_127, kq_128, kq_129, kq_130, kq_131, t_133⟩, o_c_117⟩ := hH h0 _ ky0_23
        refine va_calli (va_runV (As := [.int 24]) (rest := []) ⟨hx, hb, hml, hown, hts⟩ (c_X11_draw l g Ty_23 G_102 H.size h0 24 ky0_23 hD1) (cwV 1 hts (gwV mw_1154 mw_1156 mw_29 mw_76 mw_1157) rfl rfl rfl hv_X11_draw ⟨Nat.le_of_ble_eq_true rfl, Nat.le_of_ble_eq_true rfl⟩) ⟨PcT_blind, hg_recv hK o_c_117 rfl, PcT_pre hK hH⟩ rfl rfl hl.1 rfl (lv_room (Nat.le_of_ble_eq_true rfl)) dX11_years_40 ⟨by have q1 := hnc_23; have q2 := (r_83).2; show nc_23 + 0 ≤ 160; omega, by have q1 := hns_23; have q2 := (r_83).2; show ns_23 + 0 ≤ 3160; omega⟩) hS (fun q _ h => AF.back hE_23 hS.1 h) (fun q h => AF.back hE_23 hS.1 h) (fun x_134 ux_134 t H locs ht hvm hx_134 hB hz hk hS => ?_)
        obtain ⟨eTx_134, eGx_134⟩ := hx_134
        obtain ⟨G_135, eG_135⟩ : ∃ z, z = ux_134.2 := ⟨_, rfl⟩
        rw [← eG_135] at eGx_134
        obtain ⟨hfr_136, hex_137⟩ := eGx_134
        have fr_138 : FR [20, 21, 22, 23, 25, 27, 28] [(g.2.2 70), (g.2.2 71), (g.2.2 72), (g.2.2 73)] [] G G_135 := FR.tr fr_105 hfr_136 (by decide) (fun _ _ => trivial) (by decide)
        have u_139 : G_135.1 24 = 0 := (hfr_136.1 24 (by decide)).trans u_106
        have u_140 : G_135.1 20 = nl20_23 := (hfr_136.1 20 (by decide)).trans u_107
        have u_141 : G_135.1 21 = nl21_23 := (hfr_136.1 21 (by decide)).trans u_108
        have u_142 : G_135.1 22 = nl22_23 := (hfr_136.1 22 (by decide)).trans u_109
        have u_143 : G_135.1 23 = nl23_23 := (hfr_136.1 23 (by decide)).trans u_110
        have w_144 : G_135.2.1 (g.2.2 70) = fl0_23 := (hfr_136.2.1 (g.2.2 70) trivial).trans w_111
        have w_145 : G_135.2.1 (g.2.2 71) = fl1_23 := (hfr_136.2.1 (g.2.2 71) trivial).trans w_112
        have w_146 : G_135.2.1 (g.2.2 72) = fl2_23 := (hfr_136.2.1 (g.2.2 72) trivial).trans w_113
        have w_147 : G_135.2.1 (g.2.2 73) = fl3_23 := (hfr_136.2.1 (g.2.2 73) trivial).trans w_114
        obtain ⟨n_148, en_148⟩ : ∃ z : Int32, G_135.1 25 = z := ⟨_, rfl⟩
        have hq_149 : F_X11_draw n_115 24 = (x_134, n_148) := by have q := hex_137; rw [en_115, en_148] at q; exact q
        rw [hq_149, tu2_eq] at hv
        have hH : HT g Ty_23 G_135 H := by rw [← ht, ← eTx_134, eG_135]; exact hB
        refine lv_istore (lv' := [(6, .int x_134), (5, .int x_101), (0, .ref h0), (2, .int a1), (3, .int y3_23), (4, .int y4_23)]) hx hb dX11_years_43 hl (by decide) rfl (fun ls hl => ?_)
        refine lv_aload_n hx hb dX11_years_45 rfl (lv_at hl 2 rfl) ?_
        refine lv_iconst (v := 4) hx hb dX11_years_46 (by decide) ?_
        obtain ⟨_, ⟨rfl, kq_151, kq_152, kq_153, kq_154, kq_155, kq_156, kq_157, kq_158, kq_159, kq_160, kq_161, kq_162, kq_163, kq_164, t_166⟩, o_c_150⟩ := hH h0 _ ky0_23
        refine va_calli (va_runV (As := [.int 4]) (rest := []) ⟨hx, hb, hml, hown, hts⟩ (c_X11_draw l g Ty_23 G_135 H.size h0 4 ky0_23 hD1) (cwV 1 hts (gwV mw_1154 mw_1156 mw_29 mw_76 mw_1157) rfl rfl rfl hv_X11_draw ⟨Nat.le_of_ble_eq_true rfl, Nat.le_of_ble_eq_true rfl⟩) ⟨PcT_blind, hg_recv hK o_c_150 rfl, PcT_pre hK hH⟩ rfl rfl hl.1 rfl (lv_room (Nat.le_of_ble_eq_true rfl)) dX11_years_47 ⟨by have q1 := hnc_23; have q2 := (r_83).2; show nc_23 + 0 ≤ 160; omega, by have q1 := hns_23; have q2 := (r_83).2; show ns_23 + 0 ≤ 3160; omega⟩) hS (fun q _ h => AF.back hE_23 hS.1 h) (fun q h => AF.back hE_23 hS.1 h) (fun x_167 ux_167 t H locs ht hvm hx_167 hB hz hk hS => ?_)
        obtain ⟨eTx_167, eGx_167⟩ := hx_167
        obtain ⟨G_168, eG_168⟩ : ∃ z, z = ux_167.2 := ⟨_, rfl⟩
        rw [← eG_168] at eGx_167
        obtain ⟨hfr_169, hex_170⟩ := eGx_167
        have fr_171 : FR [20, 21, 22, 23, 25, 27, 28] [(g.2.2 70), (g.2.2 71), (g.2.2 72), (g.2.2 73)] [] G G_168 := FR.tr fr_138 hfr_169 (by decide) (fun _ _ => trivial) (by decide)
        have u_172 : G_168.1 24 = 0 := (hfr_169.1 24 (by decide)).trans u_139
        have u_173 : G_168.1 20 = nl20_23 := (hfr_169.1 20 (by decide)).trans u_140
        have u_174 : G_168.1 21 = nl21_23 := (hfr_169.1 21 (by decide)).trans u_141
        have u_175 : G_168.1 22 = nl22_23 := (hfr_169.1 22 (by decide)).trans u_142
        have u_176 : G_168.1 23 = nl23_23 := (hfr_169.1 23 (by decide)).trans u_143
        have w_177 : G_168.2.1 (g.2.2 70) = fl0_23 := (hfr_169.2.1 (g.2.2 70) trivial).trans w_144
        have w_178 : G_168.2.1 (g.2.2 71) = fl1_23 := (hfr_169.2.1 (g.2.2 71) trivial).trans w_145
        have w_179 : G_168.2.1 (g.2.2 72) = fl2_23 := (hfr_169.2.1 (g.2.2 72) trivial).trans w_146
        have w_180 : G_168.2.1 (g.2.2 73) = fl3_23 := (hfr_169.2.1 (g.2.2 73) trivial).trans w_147
        obtain ⟨n_181, en_181⟩ : ∃ z : Int32, G_168.1 25 = z := ⟨_, rfl⟩
        have hq_182 : F_X11_draw n_148 4 = (x_167, n_181) := by have q := hex_170; rw [en_148, en_181] at q; exact q
        rw [hq_182, tu2_eq] at hv
        have hH : HT g Ty_23 G_168 H := by rw [← ht, ← eTx_167, eG_168]; exact hB
        refine lv_istore (lv' := [(7, .int x_167), (6, .int x_134), (5, .int x_101), (0, .ref h0), (2, .int a1), (3, .int y3_23), (4, .int y4_23)]) hx hb dX11_years_50 hl (by decide) rfl (fun ls hl => ?_)
        refine lv_iload hx hb dX11_years_52 (lv_at hl 2 rfl) ?_
        refine lv_iconst (v := 3) hx hb dX11_years_54 (by decide) ?_
        refine lv_icmp_ge (tgt := 71) hx hb dX11_years_55 (by decide) (fun c_183 => ?_) (fun c_183 => ?_)
        · rw [if_pos c_183] at hv
          have r_184 : rgI (3) (2147483647) x_101 := rg_w (rg_leR rl_3 (rg_top x_101) c_183) (by decide) (by decide)
          refine lv_iload hx hb dX11_years_71 (lv_at hl 2 rfl) ?_
          refine lv_iconst (v := 3) hx hb dX11_years_73 (by decide) ?_
          refine lv_icmp_ne (tgt := 89) hx hb dX11_years_74 (by decide) (fun c_185 => ?_) (fun c_185 => ?_)
          · rw [if_neg c_185] at hv
            have r_186 : rgI (4) (2147483647) x_101 := rg_w (rg_neL r_184 rl_3 c_185) (by decide) (by decide)
            refine lv_iload hx hb dX11_years_89 (lv_at hl 2 rfl) ?_
            refine lv_iconst (v := 4) hx hb dX11_years_91 (by decide) ?_
            refine lv_icmp_ne (tgt := 114) hx hb dX11_years_92 (by decide) (fun c_187 => ?_) (fun c_187 => ?_)
            · rw [if_neg c_187] at hv
              have r_188 : rgI (5) (2147483647) x_101 := rg_w (rg_neL r_186 rl_4 c_187) (by decide) (by decide)
              refine lv_aload_n hx hb dX11_years_114 rfl (lv_at hl 3 rfl) ?_
              refine lv_iload hx hb dX11_years_115 (lv_at hl 1 rfl) ?_
              refine lv_iload hx hb dX11_years_117 (lv_at hl 0 rfl) ?_
              obtain ⟨_, ⟨rfl, kq_190, kq_191, kq_192, kq_193, kq_194, kq_195, kq_196, kq_197, kq_198, kq_199, kq_200, kq_201, kq_202, kq_203, t_205⟩, o_c_189⟩ := hH h0 _ ky0_23
              have hLx_206 := hS.1
              refine va_calli (va_runV (As := [.int x_134, .int x_167]) (rest := []) ⟨hx, hb, hml, hown, hts⟩ (c_X11_unmounts l g Ty_23 G_168 H.size h0 x_134 x_167 ky0_23 hD1 u_172) (cwV 2 hts (gwV mw_1162 mw_820 mw_821 mw_76 mw_822) rfl rfl rfl hv_X11_unmounts ⟨Nat.le_of_ble_eq_true rfl, Nat.le_of_ble_eq_true rfl⟩) ⟨PcT_blind, hg_recv hK o_c_189 rfl, PcT_pre hK hH⟩ rfl rfl hl.1 rfl (lv_room (Nat.le_of_ble_eq_true rfl)) dX11_years_119 ⟨by have q1 := hnc_23; have q2 := (r_83).2; show nc_23 + 4 ≤ 160; omega, by have q1 := hns_23; have q2 := (r_83).2; show ns_23 + 79 ≤ 3160; omega⟩) hS (fun q _ h => AF.back hE_23 hS.1 h) (fun q h => AF.back hE_23 hS.1 h) (fun x_206 ux_206 t H locs ht hvm hx_206 hB hz hk hS => ?_)
              obtain ⟨eTx_206, eGx_206⟩ := hx_206
              obtain ⟨T_207, eT_207⟩ : ∃ z, z = ux_206.1 := ⟨_, rfl⟩
              rw [← eT_207] at eTx_206
              have k_208 := eTx_206.1 _ _ ky0_23
              have hE_209 : Ext s.heap.size Ty T_207 := Ext.tr hE_23 hLx_206 eTx_206
              obtain ⟨G_210, eG_210⟩ : ∃ z, z = ux_206.2 := ⟨_, rfl⟩
              rw [← eG_210] at eGx_206
              obtain ⟨hfr_211, hex_212⟩ := eGx_206
              have fr_213 : FR [20, 21, 22, 23, 25, 27, 28] [(g.2.2 70), (g.2.2 71), (g.2.2 72), (g.2.2 73)] [] G G_210 := FR.tr fr_171 hfr_211 (by decide) (fun b h => ⟨h.1, h.2.1, h.2.2.1, trivial⟩) (by decide)
              have u_214 : G_210.1 24 = 0 := (hfr_211.1 24 (by decide)).trans u_172
              have u_215 : G_210.1 23 = nl23_23 := (hfr_211.1 23 (by decide)).trans u_176
              have u_216 : G_210.1 25 = n_181 := (hfr_211.1 25 (by decide)).trans en_181
              have w_217 : G_210.2.1 (g.2.2 73) = fl3_23 := (hfr_211.2.1 (g.2.2 73) ⟨(hD1 73 (by decide) 70 (by decide) (by decide)), (hD1 73 (by decide) 71 (by decide) (by decide)), (hD1 73 (by decide) 72 (by decide) (by decide)), trivial⟩).trans w_180
              obtain ⟨f_218, ef_218⟩ : ∃ z : Nat → Int32, G_210.2.1 (g.2.2 70) = z := ⟨_, rfl⟩
              obtain ⟨f_219, ef_219⟩ : ∃ z : Nat → Int32, G_210.2.1 (g.2.2 71) = z := ⟨_, rfl⟩
              obtain ⟨f_220, ef_220⟩ : ∃ z : Nat → Int32, G_210.2.1 (g.2.2 72) = z := ⟨_, rfl⟩
              obtain ⟨n_221, en_221⟩ : ∃ z : Int32, G_210.1 20 = z := ⟨_, rfl⟩
              obtain ⟨n_222, en_222⟩ : ∃ z : Int32, G_210.1 21 = z := ⟨_, rfl⟩
              obtain ⟨n_223, en_223⟩ : ∃ z : Int32, G_210.1 22 = z := ⟨_, rfl⟩
              have hq_224 : F_X11_unmounts fl0_23 fl1_23 fl2_23 nl20_23 nl21_23 nl22_23 x_134 x_167 = (x_206, f_218, f_219, f_220, n_221, n_222, n_223) := by have q := hex_212; rw [w_177, w_178, w_179, u_173, u_174, u_175, ef_218, ef_219, ef_220, en_221, en_222, en_223] at q; exact q
              rw [hq_224, tu7_eq] at hv
              have hH : HT g T_207 G_210 H := by rw [← ht, eT_207, eG_210]; exact hB
              refine lv_istore (lv' := [(8, .int x_206), (7, .int x_167), (6, .int x_134), (5, .int x_101), (0, .ref h0), (2, .int a1), (3, .int y3_23), (4, .int y4_23)]) hx hb dX11_years_122 hl (by decide) rfl (fun ls hl => ?_)
              exact L_124 H locs T_207 G_210 f_218 f_219 f_220 fl3_23 n_221 n_222 n_223 nl23_23 n_181 x_206 ls hE_209 fr_213 ef_218 ef_219 ef_220 w_217 en_221 en_222 en_223 u_215 u_216 k_208 ry2_23 r_83 (lv_sub hl [4, 5, 6, 7, 0] rfl) hv hH hS
            · rw [if_pos c_187] at hv
              have r_225 : rgI (4) (4) x_101 := rg_w (rg_eq rl_4 c_187) (by decide) (by decide)
              refine lv_aload_n hx hb dX11_years_95 rfl (lv_at hl 3 rfl) ?_
              refine lv_aload_n hx hb dX11_years_96 rfl (lv_at hl 3 rfl) ?_
              refine lv_bipush (v := 24) hx hb dX11_years_97 (by decide) ?_
              obtain ⟨_, ⟨rfl, kq_227, kq_228, kq_229, kq_230, kq_231, kq_232, kq_233, kq_234, kq_235, kq_236, kq_237, kq_238, kq_239, kq_240, t_242⟩, o_c_226⟩ := hH h0 _ ky0_23
              refine va_calli (va_runV (As := [.int 24]) (rest := [.ref h0]) ⟨hx, hb, hml, hown, hts⟩ (c_X11_draw l g Ty_23 G_168 H.size h0 24 ky0_23 hD1) (cwV 1 hts (gwV mw_1154 mw_1156 mw_29 mw_76 mw_1157) rfl rfl rfl hv_X11_draw ⟨Nat.le_of_ble_eq_true rfl, Nat.le_of_ble_eq_true rfl⟩) ⟨PcT_blind, hg_recv hK o_c_226 rfl, PcT_pre hK hH⟩ rfl rfl hl.1 rfl (lv_room (Nat.le_of_ble_eq_true rfl)) dX11_years_99 ⟨by have q1 := hnc_23; have q2 := (r_83).2; show nc_23 + 0 ≤ 160; omega, by have q1 := hns_23; have q2 := (r_83).2; show ns_23 + 0 ≤ 3160; omega⟩) hS (fun q _ h => AF.back hE_23 hS.1 h) (fun q h => AF.back hE_23 hS.1 h) (fun x_243 ux_243 t H locs ht hvm hx_243 hB hz hk hS => ?_)
              obtain ⟨eTx_243, eGx_243⟩ := hx_243
              obtain ⟨G_244, eG_244⟩ : ∃ z, z = ux_243.2 := ⟨_, rfl⟩
              rw [← eG_244] at eGx_243
              obtain ⟨hfr_245, hex_246⟩ := eGx_243
              have fr_247 : FR [20, 21, 22, 23, 25, 27, 28] [(g.2.2 70), (g.2.2 71), (g.2.2 72), (g.2.2 73)] [] G G_244 := FR.tr fr_171 hfr_245 (by decide) (fun _ _ => trivial) (by decide)
              have u_248 : G_244.1 24 = 0 := (hfr_245.1 24 (by decide)).trans u_172
              have u_249 : G_244.1 20 = nl20_23 := (hfr_245.1 20 (by decide)).trans u_173
              have u_250 : G_244.1 21 = nl21_23 := (hfr_245.1 21 (by decide)).trans u_174
              have u_251 : G_244.1 22 = nl22_23 := (hfr_245.1 22 (by decide)).trans u_175
              have u_252 : G_244.1 23 = nl23_23 := (hfr_245.1 23 (by decide)).trans u_176
              have w_253 : G_244.2.1 (g.2.2 70) = fl0_23 := (hfr_245.2.1 (g.2.2 70) trivial).trans w_177
              have w_254 : G_244.2.1 (g.2.2 71) = fl1_23 := (hfr_245.2.1 (g.2.2 71) trivial).trans w_178
              have w_255 : G_244.2.1 (g.2.2 72) = fl2_23 := (hfr_245.2.1 (g.2.2 72) trivial).trans w_179
              have w_256 : G_244.2.1 (g.2.2 73) = fl3_23 := (hfr_245.2.1 (g.2.2 73) trivial).trans w_180
              obtain ⟨n_257, en_257⟩ : ∃ z : Int32, G_244.1 25 = z := ⟨_, rfl⟩
              have hq_258 : F_X11_draw n_181 24 = (x_243, n_257) := by have q := hex_246; rw [en_181, en_257] at q; exact q
              rw [hq_258, tu2_eq] at hv
              have hH : HT g Ty_23 G_244 H := by rw [← ht, ← eTx_243, eG_244]; exact hB
              refine lv_iload hx hb dX11_years_102 (lv_at hl 1 rfl) ?_
              refine lv_iload hx hb dX11_years_104 (lv_at hl 0 rfl) ?_
              obtain ⟨_, ⟨rfl, kq_260, kq_261, kq_262, kq_263, kq_264, kq_265, kq_266, kq_267, kq_268, kq_269, kq_270, kq_271, kq_272, kq_273, t_275⟩, o_c_259⟩ := hH h0 _ ky0_23
              have hLx_276 := hS.1
              refine va_calli (va_runV (As := [.int x_243, .int x_134, .int x_167]) (rest := []) ⟨hx, hb, hml, hown, hts⟩ (c_X11_binds l g Ty_23 G_244 H.size h0 x_243 x_134 x_167 ky0_23 hD1 u_248) (cwV 3 hts (gwV mw_1161 mw_758 mw_759 mw_76 mw_760) rfl rfl rfl hv_X11_binds ⟨Nat.le_of_ble_eq_true rfl, Nat.le_of_ble_eq_true rfl⟩) ⟨PcT_blind, hg_recv hK o_c_259 rfl, PcT_pre hK hH⟩ rfl rfl hl.1 rfl (lv_room (Nat.le_of_ble_eq_true rfl)) dX11_years_106 ⟨by have q1 := hnc_23; have q2 := (r_83).2; show nc_23 + 4 ≤ 160; omega, by have q1 := hns_23; have q2 := (r_83).2; show ns_23 + 79 ≤ 3160; omega⟩) hS (fun q _ h => AF.back hE_23 hS.1 h) (fun q h => AF.back hE_23 hS.1 h) (fun x_276 ux_276 t H locs ht hvm hx_276 hB hz hk hS => ?_)
              obtain ⟨eTx_276, eGx_276⟩ := hx_276
              obtain ⟨T_277, eT_277⟩ : ∃ z, z = ux_276.1 := ⟨_, rfl⟩
              rw [← eT_277] at eTx_276
              have k_278 := eTx_276.1 _ _ ky0_23
              have hE_279 : Ext s.heap.size Ty T_277 := Ext.tr hE_23 hLx_276 eTx_276
              obtain ⟨G_280, eG_280⟩ : ∃ z, z = ux_276.2 := ⟨_, rfl⟩
              rw [← eG_280] at eGx_276
              obtain ⟨hfr_281, hex_282⟩ := eGx_276
              have fr_283 : FR [20, 21, 22, 23, 25, 27, 28] [(g.2.2 70), (g.2.2 71), (g.2.2 72), (g.2.2 73)] [] G G_280 := FR.tr fr_247 hfr_281 (by decide) (fun b h => ⟨h.1, h.2.1, h.2.2.1, h.2.2.2.1, trivial⟩) (by decide)
              have u_284 : G_280.1 24 = 0 := (hfr_281.1 24 (by decide)).trans u_248
              have u_285 : G_280.1 21 = nl21_23 := (hfr_281.1 21 (by decide)).trans u_250
              have u_286 : G_280.1 25 = n_257 := (hfr_281.1 25 (by decide)).trans en_257
              obtain ⟨f_287, ef_287⟩ : ∃ z : Nat → Int32, G_280.2.1 (g.2.2 70) = z := ⟨_, rfl⟩
              obtain ⟨f_288, ef_288⟩ : ∃ z : Nat → Int32, G_280.2.1 (g.2.2 71) = z := ⟨_, rfl⟩
              obtain ⟨f_289, ef_289⟩ : ∃ z : Nat → Int32, G_280.2.1 (g.2.2 72) = z := ⟨_, rfl⟩
              obtain ⟨f_290, ef_290⟩ : ∃ z : Nat → Int32, G_280.2.1 (g.2.2 73) = z := ⟨_, rfl⟩
              obtain ⟨n_291, en_291⟩ : ∃ z : Int32, G_280.1 20 = z := ⟨_, rfl⟩
              obtain ⟨n_292, en_292⟩ : ∃ z : Int32, G_280.1 22 = z := ⟨_, rfl⟩
              obtain ⟨n_293, en_293⟩ : ∃ z : Int32, G_280.1 23 = z := ⟨_, rfl⟩
              have hq_294 : F_X11_binds fl0_23 fl1_23 fl2_23 fl3_23 nl20_23 nl21_23 nl22_23 nl23_23 x_243 x_134 x_167 = (x_276, f_287, f_288, f_289, f_290, n_291, n_292, n_293) := by have q := hex_282; rw [w_253, w_254, w_255, w_256, u_249, u_250, u_251, u_252, ef_287, ef_288, ef_289, ef_290, en_291, en_292, en_293] at q; exact q
              rw [hq_294, tu8_eq] at hv
              have hH : HT g T_277 G_280 H := by rw [← ht, eT_277, eG_280]; exact hB
              refine lv_istore (lv' := [(8, .int x_276), (7, .int x_167), (6, .int x_134), (5, .int x_101), (0, .ref h0), (2, .int a1), (3, .int y3_23), (4, .int y4_23)]) hx hb dX11_years_109 hl (by decide) rfl (fun ls hl => ?_)
              refine lv_goto (tgt := 124) hx hb dX11_years_111 (by decide) ?_
              exact L_124 H locs T_277 G_280 f_287 f_288 f_289 f_290 n_291 nl21_23 n_292 n_293 n_257 x_276 ls hE_279 fr_283 ef_287 ef_288 ef_289 ef_290 en_291 u_285 en_292 en_293 u_286 k_278 ry2_23 r_83 (lv_sub hl [4, 5, 6, 7, 0] rfl) hv hH hS
          · rw [if_pos c_185] at hv
            have r_295 : rgI (3) (3) x_101 := rg_w (rg_eq rl_3 c_185) (by decide) (by decide)
            refine lv_aload_n hx hb dX11_years_77 rfl (lv_at hl 3 rfl) ?_
            refine lv_iload hx hb dX11_years_78 (lv_at hl 1 rfl) ?_
            refine lv_iconst (v := 1) hx hb dX11_years_80 (by decide) ?_
            obtain ⟨_, ⟨rfl, kq_297, kq_298, kq_299, kq_300, kq_301, kq_302, kq_303, kq_304, kq_305, kq_306, kq_307, kq_308, kq_309, kq_310, t_312⟩, o_c_296⟩ := hH h0 _ ky0_23
            have hLx_313 := hS.1
            refine va_calli (va_runV (As := [.int x_134, .int 1]) (rest := []) ⟨hx, hb, hml, hown, hts⟩ (c_X11_makes l g Ty_23 G_168 H.size h0 x_134 1 ky0_23 hD1 u_172) (cwV 2 hts (gwV mw_1160 mw_789 mw_790 mw_76 mw_791) rfl rfl rfl hv_X11_makes ⟨Nat.le_of_ble_eq_true rfl, Nat.le_of_ble_eq_true rfl⟩) ⟨PcT_blind, hg_recv hK o_c_296 rfl, PcT_pre hK hH⟩ rfl rfl hl.1 rfl (lv_room (Nat.le_of_ble_eq_true rfl)) dX11_years_81 ⟨by have q1 := hnc_23; have q2 := (r_83).2; show nc_23 + 4 ≤ 160; omega, by have q1 := hns_23; have q2 := (r_83).2; show ns_23 + 79 ≤ 3160; omega⟩) hS (fun q _ h => AF.back hE_23 hS.1 h) (fun q h => AF.back hE_23 hS.1 h) (fun x_313 ux_313 t H locs ht hvm hx_313 hB hz hk hS => ?_)
            obtain ⟨eTx_313, eGx_313⟩ := hx_313
            obtain ⟨T_314, eT_314⟩ : ∃ z, z = ux_313.1 := ⟨_, rfl⟩
            rw [← eT_314] at eTx_313
            have k_315 := eTx_313.1 _ _ ky0_23
            have hE_316 : Ext s.heap.size Ty T_314 := Ext.tr hE_23 hLx_313 eTx_313
            obtain ⟨G_317, eG_317⟩ : ∃ z, z = ux_313.2 := ⟨_, rfl⟩
            rw [← eG_317] at eGx_313
            obtain ⟨hfr_318, hex_319⟩ := eGx_313
            have fr_320 : FR [20, 21, 22, 23, 25, 27, 28] [(g.2.2 70), (g.2.2 71), (g.2.2 72), (g.2.2 73)] [] G G_317 := FR.tr fr_171 hfr_318 (by decide) (fun b h => ⟨h.2.1, h.2.2.1, trivial⟩) (by decide)
            have u_321 : G_317.1 24 = 0 := (hfr_318.1 24 (by decide)).trans u_172
            have u_322 : G_317.1 20 = nl20_23 := (hfr_318.1 20 (by decide)).trans u_173
            have u_323 : G_317.1 25 = n_181 := (hfr_318.1 25 (by decide)).trans en_181
            have w_324 : G_317.2.1 (g.2.2 70) = fl0_23 := (hfr_318.2.1 (g.2.2 70) ⟨(hD1 70 (by decide) 71 (by decide) (by decide)), (hD1 70 (by decide) 72 (by decide) (by decide)), trivial⟩).trans w_177
            have w_325 : G_317.2.1 (g.2.2 73) = fl3_23 := (hfr_318.2.1 (g.2.2 73) ⟨(hD1 73 (by decide) 71 (by decide) (by decide)), (hD1 73 (by decide) 72 (by decide) (by decide)), trivial⟩).trans w_180
            obtain ⟨f_326, ef_326⟩ : ∃ z : Nat → Int32, G_317.2.1 (g.2.2 71) = z := ⟨_, rfl⟩
            obtain ⟨f_327, ef_327⟩ : ∃ z : Nat → Int32, G_317.2.1 (g.2.2 72) = z := ⟨_, rfl⟩
            obtain ⟨n_328, en_328⟩ : ∃ z : Int32, G_317.1 21 = z := ⟨_, rfl⟩
            obtain ⟨n_329, en_329⟩ : ∃ z : Int32, G_317.1 22 = z := ⟨_, rfl⟩
            obtain ⟨n_330, en_330⟩ : ∃ z : Int32, G_317.1 23 = z := ⟨_, rfl⟩
            have hq_331 : F_X11_makes fl1_23 fl2_23 nl20_23 nl21_23 nl22_23 nl23_23 x_134 1 = (x_313, f_326, f_327, n_328, n_329, n_330) := by have q := hex_319; rw [w_178, w_179, u_173, u_174, u_175, u_176, ef_326, ef_327, en_328, en_329, en_330] at q; exact q
            rw [hq_331, tu6_eq] at hv
            have hH : HT g T_314 G_317 H := by rw [← ht, eT_314, eG_317]; exact hB
            refine lv_istore (lv' := [(8, .int x_313), (7, .int x_167), (6, .int x_134), (5, .int x_101), (0, .ref h0), (2, .int a1), (3, .int y3_23), (4, .int y4_23)]) hx hb dX11_years_84 hl (by decide) rfl (fun ls hl => ?_)
            refine lv_goto (tgt := 124) hx hb dX11_years_86 (by decide) ?_
            exact L_124 H locs T_314 G_317 fl0_23 f_326 f_327 fl3_23 nl20_23 n_328 n_329 n_330 n_181 x_313 ls hE_316 fr_320 w_324 ef_326 ef_327 w_325 u_322 en_328 en_329 en_330 u_323 k_315 ry2_23 r_83 (lv_sub hl [4, 5, 6, 7, 0] rfl) hv hH hS
        · rw [if_neg c_183] at hv
          have r_332 : rgI (-2147483648) (2) x_101 := rg_w (rg_ltL (rg_top x_101) rl_3 (nle_lt c_183)) (by decide) (by decide)
          refine lv_aload_n hx hb dX11_years_58 rfl (lv_at hl 3 rfl) ?_
          refine lv_iload hx hb dX11_years_59 (lv_at hl 1 rfl) ?_
          refine lv_iload hx hb dX11_years_61 (lv_at hl 0 rfl) ?_
          obtain ⟨_, ⟨rfl, kq_334, kq_335, kq_336, kq_337, kq_338, kq_339, kq_340, kq_341, kq_342, kq_343, kq_344, kq_345, kq_346, kq_347, t_349⟩, o_c_333⟩ := hH h0 _ ky0_23
          have hLx_350 := hS.1
          refine va_calli (va_runV (As := [.int x_134, .int x_167]) (rest := []) ⟨hx, hb, hml, hown, hts⟩ (c_X11_mounts l g Ty_23 G_168 H.size h0 x_134 x_167 ky0_23 hD1 u_172) (cwV 2 hts (gwV mw_1159 mw_625 mw_626 mw_76 mw_627) rfl rfl rfl hv_X11_mounts ⟨Nat.le_of_ble_eq_true rfl, Nat.le_of_ble_eq_true rfl⟩) ⟨PcT_blind, hg_recv hK o_c_333 rfl, PcT_pre hK hH⟩ rfl rfl hl.1 rfl (lv_room (Nat.le_of_ble_eq_true rfl)) dX11_years_63 ⟨by have q1 := hnc_23; have q2 := (r_83).2; show nc_23 + 4 ≤ 160; omega, by have q1 := hns_23; have q2 := (r_83).2; show ns_23 + 79 ≤ 3160; omega⟩) hS (fun q _ h => AF.back hE_23 hS.1 h) (fun q h => AF.back hE_23 hS.1 h) (fun x_350 ux_350 t H locs ht hvm hx_350 hB hz hk hS => ?_)
          obtain ⟨eTx_350, eGx_350⟩ := hx_350
          obtain ⟨T_351, eT_351⟩ : ∃ z, z = ux_350.1 := ⟨_, rfl⟩
          rw [← eT_351] at eTx_350
          have k_352 := eTx_350.1 _ _ ky0_23
          have hE_353 : Ext s.heap.size Ty T_351 := Ext.tr hE_23 hLx_350 eTx_350
          obtain ⟨G_354, eG_354⟩ : ∃ z, z = ux_350.2 := ⟨_, rfl⟩
          rw [← eG_354] at eGx_350
          obtain ⟨hfr_355, hex_356⟩ := eGx_350
          have fr_357 : FR [20, 21, 22, 23, 25, 27, 28] [(g.2.2 70), (g.2.2 71), (g.2.2 72), (g.2.2 73)] [] G G_354 := FR.tr fr_171 hfr_355 (by decide) (fun b h => ⟨h.1, h.2.1, h.2.2.1, h.2.2.2.1, trivial⟩) (by decide)
          have u_358 : G_354.1 24 = 0 := (hfr_355.1 24 (by decide)).trans u_172
          have u_359 : G_354.1 21 = nl21_23 := (hfr_355.1 21 (by decide)).trans u_174
          have u_360 : G_354.1 25 = n_181 := (hfr_355.1 25 (by decide)).trans en_181
          obtain ⟨f_361, ef_361⟩ : ∃ z : Nat → Int32, G_354.2.1 (g.2.2 70) = z := ⟨_, rfl⟩
          obtain ⟨f_362, ef_362⟩ : ∃ z : Nat → Int32, G_354.2.1 (g.2.2 71) = z := ⟨_, rfl⟩
          obtain ⟨f_363, ef_363⟩ : ∃ z : Nat → Int32, G_354.2.1 (g.2.2 72) = z := ⟨_, rfl⟩
          obtain ⟨f_364, ef_364⟩ : ∃ z : Nat → Int32, G_354.2.1 (g.2.2 73) = z := ⟨_, rfl⟩
          obtain ⟨n_365, en_365⟩ : ∃ z : Int32, G_354.1 20 = z := ⟨_, rfl⟩
          obtain ⟨n_366, en_366⟩ : ∃ z : Int32, G_354.1 22 = z := ⟨_, rfl⟩
          obtain ⟨n_367, en_367⟩ : ∃ z : Int32, G_354.1 23 = z := ⟨_, rfl⟩
          have hq_368 : F_X11_mounts fl0_23 fl1_23 fl2_23 fl3_23 nl20_23 nl22_23 nl23_23 x_134 x_167 = (x_350, f_361, f_362, f_363, f_364, n_365, n_366, n_367) := by have q := hex_356; rw [w_177, w_178, w_179, w_180, u_173, u_175, u_176, ef_361, ef_362, ef_363, ef_364, en_365, en_366, en_367] at q; exact q
          rw [hq_368, tu8_eq] at hv
          have hH : HT g T_351 G_354 H := by rw [← ht, eT_351, eG_354]; exact hB
          refine lv_istore (lv' := [(8, .int x_350), (7, .int x_167), (6, .int x_134), (5, .int x_101), (0, .ref h0), (2, .int a1), (3, .int y3_23), (4, .int y4_23)]) hx hb dX11_years_66 hl (by decide) rfl (fun ls hl => ?_)
          refine lv_goto (tgt := 124) hx hb dX11_years_68 (by decide) ?_
          exact L_124 H locs T_351 G_354 f_361 f_362 f_363 f_364 n_365 nl21_23 n_366 n_367 n_181 x_350 ls hE_353 fr_357 ef_361 ef_362 ef_363 ef_364 en_365 u_359 en_366 en_367 u_360 k_352 ry2_23 r_83 (lv_sub hl [4, 5, 6, 7, 0] rfl) hv hH hS
  refine lv_iload_n hx hb dX11_years_0 rfl (lv_at hl 2 rfl) ?_
  refine lv_iconst (v := 1) hx hb dX11_years_1 (by decide) ?_
  refine lv_icmp_lt (tgt := 11) hx hb dX11_years_2 (by decide) (fun c_369 => ?_) (fun c_369 => ?_)
  · rw [if_pos c_369] at hv
    have r_370 : rgI (-2147483648) (0) a1 := rg_w (rg_ltL (rg_top a1) rl_1 c_369) (by decide) (by decide)
    refine lv_iconst (v := (-1)) hx hb dX11_years_11 (by decide) ?_
    refine W.widen (k := 160) (n := 3160) (by decide) (by decide) ?_
    exact W.iret hx hb hr (fun t ht hWm => ⟨⟨(-1), (Ty, G), rfl, ⟨Ext.rf, ⟨FR.rf, hv.symm⟩⟩, by show HT g Ty G t.heap; rw [ht]; exact hH⟩, hS.F ht⟩) hS.2.2 dX11_years_12
  · rw [if_neg c_369] at hv
    have r_371 : rgI (1) (2147483647) a1 := rg_w (rg_leR rl_1 (rg_top a1) (nlt_le c_369)) (by decide) (by decide)
    refine lv_iload_n hx hb dX11_years_5 rfl (lv_at hl 2 rfl) ?_
    refine lv_bipush (v := 40) hx hb dX11_years_6 (by decide) ?_
    refine lv_icmp_le (tgt := 13) hx hb dX11_years_8 (by decide) (fun c_372 => ?_) (fun c_372 => ?_)
    · rw [if_pos c_372] at hv
      have r_373 : rgI (1) (40) a1 := rg_w (rg_leL r_371 rl_40 c_372) (by decide) (by decide)
      refine lv_aload_n hx hb dX11_years_13 rfl (lv_at hl 0 rfl) ?_
      refine lv_iload_n hx hb dX11_years_14 rfl (lv_at hl 1 rfl) ?_
      obtain ⟨_, ⟨rfl, kq_375, kq_376, kq_377, kq_378, kq_379, kq_380, kq_381, kq_382, kq_383, kq_384, kq_385, kq_386, kq_387, kq_388, t_390⟩, o_c_374⟩ := hH h0 _ k_h0
      refine hg_put (ty := .int) hx hb hG igX11 tyX11 tyX11_ok nmX11 hown hK hS o_c_374 (AF.of k_h0) rfl 14 (by decide) (hG _ mw_371) rfl (by decide +kernel) rfl rfl (Nat.le_of_ble_eq_true rfl) dX11_years_15 (fun H locs o_c_374 hz oq hS => ?_)
      obtain ⟨G_391, eG_391⟩ : ∃ z : Gh, z = gset G 25 a0 := ⟨_, rfl⟩
      have hH : HT g Ty G_391 H := by rw [eG_391]; exact HT.putM 25 a0 hH k_h0 ⟨rfl, kq_375, kq_376, kq_377, kq_378, kq_379, kq_380, kq_381, kq_382, kq_383, kq_384, kq_385, kq_386, kq_387, kq_388, t_390⟩ o_c_374 oq (⟨⟨by decide, by decide⟩, t_390⟩)
      have fr_392 : FR [20, 21, 22, 23, 25, 27, 28] [(g.2.2 70), (g.2.2 71), (g.2.2 72), (g.2.2 73)] [] G G_391 := FR.n FR.rf eG_391 (by decide)
      have u_393 : G_391.1 20 = (G.1 20) := by rw [eG_391]; exact (gs_ne (by decide))
      have u_394 : G_391.1 21 = (G.1 21) := by rw [eG_391]; exact (gs_ne (by decide))
      have u_395 : G_391.1 22 = (G.1 22) := by rw [eG_391]; exact (gs_ne (by decide))
      have u_396 : G_391.1 23 = (G.1 23) := by rw [eG_391]; exact (gs_ne (by decide))
      have u_397 : G_391.1 24 = 0 := by rw [eG_391]; exact (gs_ne (by decide)).trans h24
      have u_398 : G_391.1 25 = a0 := by rw [eG_391]; exact gs_eq
      have w_399 : G_391.2.1 (g.2.2 70) = (G.2.1 (g.2.2 70)) := by rw [eG_391]; exact rfl
      have w_400 : G_391.2.1 (g.2.2 71) = (G.2.1 (g.2.2 71)) := by rw [eG_391]; exact rfl
      have w_401 : G_391.2.1 (g.2.2 72) = (G.2.1 (g.2.2 72)) := by rw [eG_391]; exact rfl
      have w_402 : G_391.2.1 (g.2.2 73) = (G.2.1 (g.2.2 73)) := by rw [eG_391]; exact rfl
      clear oq hz
      refine lv_iconst (v := 0) hx hb dX11_years_18 (by decide) ?_
      refine lv_istore_n (lv' := [(3, .int 0), (0, .ref h0), (1, .int a0), (2, .int a1)]) hx hb dX11_years_19 rfl hl (by decide) rfl (fun ls hl => ?_)
      refine lv_iconst (v := 0) hx hb dX11_years_20 (by decide) ?_
      refine lv_istore (lv' := [(4, .int 0), (3, .int 0), (0, .ref h0), (1, .int a0), (2, .int a1)]) hx hb dX11_years_21 hl (by decide) rfl (fun ls hl => ?_)
      exact L_23 42 H locs Ty G_391 (G.2.1 (g.2.2 70)) (G.2.1 (g.2.2 71)) (G.2.1 (g.2.2 72)) (G.2.1 (g.2.2 73)) (G.1 20) (G.1 21) (G.1 22) (G.1 23) a0 0 0 (0) (0) ls Ext.rf fr_392 w_399 w_400 w_401 w_402 u_393 u_394 u_395 u_396 u_398 k_h0 r_373 (rg_w rl_0 (by decide) (by decide)) (by show ((0 : Nat) : Int) ≤ 4 * (0 : Int32).toInt; decide) (by show ((0 : Nat) : Int) ≤ 79 * (0 : Int32).toInt; decide) (by decide) (lv_sub hl [2, 4, 1, 0] rfl) hv hH hS
    · rw [if_neg c_372] at hv
      have r_403 : rgI (41) (2147483647) a1 := rg_w (rg_ltR rl_40 r_371 (nle_lt c_372)) (by decide) (by decide)
      refine lv_iconst (v := (-1)) hx hb dX11_years_11 (by decide) ?_
      refine W.widen (k := 160) (n := 3160) (by decide) (by decide) ?_
      exact W.iret hx hb hr (fun t ht hWm => ⟨⟨(-1), (Ty, G), rfl, ⟨Ext.rf, ⟨FR.rf, hv.symm⟩⟩, by show HT g Ty G t.heap; rw [ht]; exact hH⟩, hS.F ht⟩) hS.2.2 dX11_years_12
