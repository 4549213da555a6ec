set_option maxHeartbeats 4000000 in
set_option maxRecDepth 100000 in
theorem c_X4_push (l : Launch) (g : Gx) (Ty : TyM) (G : Gh) (sz : Nat) (h0 : Nat) (b0 : Nat) (k_h0 : Ty h0 = some (14, 0)) (k_b0 : Ty b0 = some (20, 0)) : Met l yX4_push (wsG yX4_push cX4_push 2 none) ({ frames := 2, cells := 4, slots := 79, locals := 33 }) (PcT g Ty G sz [.ref h0, .ref b0]) (QwV g Ty sz (fun u => Ext sz Ty u.1 ∧ u.2 = G)) 4 79 (AF Ty sz) := by
  refine Met.ofW (cc := cX4_push) (maxL := 2) (ret := none) (by decide) rfl ?_
  intro p e s m args below meth c s₁ B hml hv
  obtain ⟨rfl, hsz, hK, hH⟩ := hv
  subst hsz
  have hx := B.exec
  have hb := B.bytes
  have hr := B.returns
  have hts := atoms_spec (ws := (wsG yX4_push cX4_push 2 none)) B.pre
  have hG : ∀ w ∈ GW, w.before ([.ref h0, .ref b0] : List Value).toArray s = true := fun w h => hts w (List.mem_cons_of_mem _ h)
  have hown : s.vm.findClass RX4 = some m.cls := findClass_of_methodNamed B.named
  have hlocks := B.notSynchronized
  have hl := lv_entry [.ref h0, .ref b0] (n := 2) (Nat.le_of_ble_eq_true rfl)
  rw [lg_entry_eq]
  generalize (lg_sl [.ref h0, .ref b0] ++ List.replicate (2 - (lg_sl [.ref h0, .ref b0]).length) Slot.unset).toArray = ls at hl ⊢
  have hl : lv_has ls 2 [(0, .ref h0), (1, .ref b0)] := hl
  have hS : va_S (AF Ty s.heap.size) s.heap s.heap [] := va_S.rf
  refine lv_aload_n hx hb dX4_push_0 rfl (lv_at hl 0 rfl) ?_
  obtain ⟨_, ⟨q_2, q_3, q_4, rfl, kq_2⟩, o_c_1⟩ := hH h0 _ k_h0
  refine hg_get hx hb hG igX4 hown hK o_c_1 rfl 1 (by decide) (hG _ mw_155) rfl dX4_push_1 ?_
  refine lv_if_lt (tgt := 16) hx hb dX4_push_4 (by decide) (fun c_5 => ?_) (fun c_5 => ?_)
  · have r_6 : rgI (-2147483648) (-1) q_3 := rg_w (rg_ltL (rg_top q_3) rl_0 c_5) (by decide) (by decide)
    refine lv_aload_n hx hb dX4_push_16 rfl (lv_at hl 0 rfl) ?_
    refine lv_iconst (v := 0) hx hb dX4_push_17 (by decide) ?_
    refine hg_put (ty := .int) hx hb hG igX4 tyX4 tyX4_ok nmX4 hown hK hS o_c_1 (AF.of k_h0) rfl 1 (by decide) (hG _ mw_155) rfl (by decide +kernel) rfl rfl (Nat.le_of_ble_eq_true rfl) dX4_push_18 (fun H locs o_c_1 hz oq hS => ?_)
    have o_c_1 : va_at g.1 vwCl (h0, .inr (4, [.ref q_2, .int 0, .int q_4])) H := o_c_1
    have hH : HT g Ty G H := hH.put k_h0 ⟨q_2, 0, q_4, rfl, kq_2⟩ o_c_1 oq
    clear oq hz
    refine lv_aload_n hx hb dX4_push_21 rfl (lv_at hl 0 rfl) ?_
    refine hg_get hx hb hG igX4 hown hK o_c_1 rfl 0 (by decide) (hG _ mw_154) rfl dX4_push_22 ?_
    refine lv_aload_n hx hb dX4_push_25 rfl (lv_at hl 0 rfl) ?_
    refine hg_get hx hb hG igX4 hown hK o_c_1 rfl 1 (by decide) (hG _ mw_155) rfl dX4_push_26 ?_
    obtain ⟨_, ⟨f_8, rfl, qf_8⟩, o_c_7⟩ := hH q_2 _ kq_2
    refine hg_aald hx hb hK o_c_7 (rg_in (n := 12) rl_0 (by decide) (by decide)) dX4_push_29 ?_
    obtain ⟨w_9, ew_9⟩ : ∃ z, z = f_8 (0 : Int32).toNatClampNeg := ⟨_, rfl⟩
    rw [← ew_9]
    rcases w_9 with _ | y_11
    · refine lv_ifnonnullN hx hb dX4_push_30 ?_
      refine lv_aload_n hx hb dX4_push_33 rfl (lv_at hl 0 rfl) ?_
      refine hg_get hx hb hG igX4 hown hK o_c_1 rfl 0 (by decide) (hG _ mw_154) rfl dX4_push_34 ?_
      refine lv_aload_n hx hb dX4_push_37 rfl (lv_at hl 0 rfl) ?_
      refine hg_get hx hb hG igX4 hown hK o_c_1 rfl 1 (by decide) (hG _ mw_155) rfl dX4_push_38 ?_
      obtain ⟨qn_12, eqn_12⟩ : ∃ z, z = H.size := ⟨_, rfl⟩
      have nqn_12 : Ty qn_12 = none := hH.free (by rw [eqn_12]; exact Nat.le_refl _)
      have gqn_12 : s.heap.size ≤ qn_12 := by rw [eqn_12]; exact hS.1
      refine hg_newQ (ci := 10) (fs := [.null, .null, .null, .int 0, .int 0, .int 0, .int 0]) (C := RX10) (T := TX10) (N := 7) hx hb hG igX10 tyX10 tyX10_ok hown (hG _ mw_152) (hG _ mw_110) (hG _ mw_77) hK hS rfl (fun j hj => by rcases (show j = 0 ∨ j = 1 ∨ j = 2 ∨ j = 3 ∨ j = 4 ∨ j = 5 ∨ j = 6 by omega) with rfl | rfl | rfl | rfl | rfl | rfl | rfl <;> rfl) (Nat.le_of_ble_eq_true rfl) (Nat.le_of_ble_eq_true rfl) dX4_push_41 eqn_12 (fun H oqn_12 zqn_12 pqn_12 hS => ?_)
      have hH : HT g Ty G H := hH.more pqn_12
      have o_c_1 := o_c_1.kept (pqn_12 _ o_c_1.lt)
      have o_c_7 := o_c_7.kept (pqn_12 _ o_c_7.lt)
      refine lv_dup hx hb dX4_push_44 rfl ?_
      have gzqn_12 : qn_12 < H.size := oqn_12.lt
      have gsqn_12 := hS.1
      obtain ⟨T_13, eT_13⟩ : ∃ z, z = tree4 Ty qn_12 H.size := ⟨_, rfl⟩
      have eTqn_12 : Ext s.heap.size Ty T_13 := by rw [eT_13]; exact tree4_ext hH nqn_12 gqn_12 gsqn_12
      have kqqn_12 : T_13 qn_12 = some (20, 0) := by rw [eT_13]; exact tree4_q
      refine va_callv (va_runI (As := []) (rest := [.ref qn_12, .int 0, .ref q_2]) ⟨hx, hb, hml, hown, hts⟩ (c_X10_init l g Ty G H.size qn_12 nqn_12) (cwI 0 hts (gwC mw_113) rfl rfl rfl (hG _ mw_77) (hG _ mw_750) (hG _ mw_112) rfl hd_X10_init ⟨Nat.le_of_ble_eq_true rfl, Nat.le_of_ble_eq_true rfl⟩) ⟨PcC_blind, PcC_pre hK hH oqn_12⟩ rfl rfl hl.1 rfl (lv_room (Nat.le_of_ble_eq_true rfl)) dX4_push_45 ⟨Nat.le_of_ble_eq_true rfl, Nat.le_of_ble_eq_true rfl⟩) hS (fun q _ h => Or.inr (by rcases h with h | h <;> omega)) (fun q h => Or.inr (by rcases h with h | h <;> omega)) (fun _ t H locs ht hvm _ hB hz hk hS => ?_)
      have hH : HT g T_13 G H := by rw [eT_13, ← ht]; exact hB.1
      have o_c_1 := o_c_1.kept (hk _ o_c_1.lt (fun h => by rcases h with h | h; exact ne_none k_h0 nqn_12 h; exact absurd o_c_1.lt (by omega)))
      have k_14 := eTqn_12.1 _ _ k_h0
      have o_c_7 := o_c_7.kept (hk _ o_c_7.lt (fun h => by rcases h with h | h; exact ne_none kq_2 nqn_12 h; exact absurd o_c_7.lt (by omega)))
      have k_15 := eTqn_12.1 _ _ kq_2
      have q_16 : ∀ j t, f_8 j = some t → T_13 t = some (20, 0) := fun j t h => eTqn_12.1 _ _ (qf_8 j t h)
      have k_17 := eTqn_12.1 _ _ k_h0
      have k_18 := eTqn_12.1 _ _ k_b0
      have k_19 := eTqn_12.1 _ _ kq_2
      have hE_20 : Ext s.heap.size Ty T_13 := eTqn_12
      obtain ⟨_, ⟨q_22, q_23, q_24, q_25, q_26, q_27, q_28, rfl, kq_22, kq_23, kq_24⟩, o_c_21⟩ := hH qn_12 _ kqqn_12
      refine hg_aast hx hb hK hS o_c_7 (AF.ofE hE_20 k_15) o_c_21 (rg_in (n := 12) rl_0 (by decide) (by decide)) dX4_push_48 (fun H locs o_c_7 hz oq hS => ?_)
      generalize hff_29 : va_up f_8 _ _ = f_29 at o_c_7
      have qf_29 : ∀ j t, f_29 j = some t → T_13 t = some (20, 0) := by rw [← hff_29]; exact up_all q_16 kqqn_12
      have knf_29 : f_29 (0 : Int32).toNatClampNeg = some qn_12 := by rw [← hff_29]; exact va_upS
      have hH : HT g T_13 G H := hH.put k_15 ⟨_, rfl, qf_29⟩ o_c_7 oq
      have o_c_1 := o_c_1.kept (oq _ (ne_kd k_14 k_15 (by decide)))
      have o_c_21 := o_c_21.kept (oq _ (ne_kd kqqn_12 k_15 (by decide)))
      clear oq hz
      refine lv_aload_n hx hb dX4_push_49 rfl (lv_at hl 0 rfl) ?_
      refine hg_get hx hb hG igX4 hown hK o_c_1 rfl 0 (by decide) (hG _ mw_154) rfl dX4_push_50 ?_
      refine lv_aload_n hx hb dX4_push_53 rfl (lv_at hl 0 rfl) ?_
      refine hg_get hx hb hG igX4 hown hK o_c_1 rfl 1 (by decide) (hG _ mw_155) rfl dX4_push_54 ?_
      refine hg_aald hx hb hK o_c_7 (rg_in (n := 12) rl_0 (by decide) (by decide)) dX4_push_57 ?_
      rw [show va_rf (f_29 (0 : Int32).toNatClampNeg) = Value.ref qn_12 by rw [knf_29]; rfl]
      refine lv_aload_n hx hb dX4_push_58 rfl (lv_at hl 1 rfl) ?_
      refine va_callv (va_runV (As := [.ref b0]) (rest := []) ⟨hx, hb, hml, hown, hts⟩ (c_X10_take l g T_13 G H.size qn_12 b0 (qf_29 _ _ knf_29) k_18) (cwV 1 hts (gwV mw_751 mw_629 mw_630 mw_77 mw_631) rfl rfl rfl hv_X10_take ⟨Nat.le_of_ble_eq_true rfl, Nat.le_of_ble_eq_true rfl⟩) ⟨PcT_blind, hg_recv hK o_c_21 rfl, PcT_pre hK hH⟩ rfl rfl hl.1 rfl (lv_room (Nat.le_of_ble_eq_true rfl)) dX4_push_59 ⟨Nat.le_of_ble_eq_true rfl, Nat.le_of_ble_eq_true rfl⟩) hS (fun q _ h => AF.back hE_20 hS.1 h) (fun q h => AF.back hE_20 hS.1 h) (fun ux_30 t H locs ht hvm hx_30 hB hz hk hS => ?_)
      have hH : HT g T_13 G H := by rw [← ht]; rw [hx_30] at hB; exact hB
      refine lv_aload_n hx hb dX4_push_62 rfl (lv_at hl 0 rfl) ?_
      refine lv_dup hx hb dX4_push_63 rfl ?_
      obtain ⟨_, ⟨q_32, q_33, q_34, rfl, kq_32⟩, o_c_31⟩ := hH h0 _ k_17
      refine hg_get hx hb hG igX4 hown hK o_c_31 rfl 1 (by decide) (hG _ mw_155) rfl dX4_push_64 ?_
      refine lv_iconst (v := 1) hx hb dX4_push_67 (by decide) ?_
      refine lv_iadd hx hb dX4_push_68 ?_
      refine lv_topi (fun x_35 ex_35 => ?_)
      refine hg_put (ty := .int) hx hb hG igX4 tyX4 tyX4_ok nmX4 hown hK hS o_c_31 (AF.ofE hE_20 k_17) rfl 1 (by decide) (hG _ mw_155) rfl (by decide +kernel) rfl rfl (Nat.le_of_ble_eq_true rfl) dX4_push_69 (fun H locs o_c_31 hz oq hS => ?_)
      have o_c_31 : va_at g.1 vwCl (h0, .inr (4, [.ref q_32, .int x_35, .int q_34])) H := o_c_31
      have hH : HT g T_13 G H := hH.put k_17 ⟨q_32, x_35, q_34, rfl, kq_32⟩ o_c_31 oq
      clear oq hz
      refine lv_aload_n hx hb dX4_push_72 rfl (lv_at hl 0 rfl) ?_
      refine lv_aload_n hx hb dX4_push_73 rfl (lv_at hl 0 rfl) ?_
      refine hg_get hx hb hG igX4 hown hK o_c_31 rfl 2 (by decide) (hG _ mw_156) rfl dX4_push_74 ?_
      refine lv_iconst (v := 1) hx hb dX4_push_77 (by decide) ?_
      refine lv_iadd hx hb dX4_push_78 ?_
      refine lv_topi (fun x_36 ex_36 => ?_)
      refine lv_bipush (v := 12) hx hb dX4_push_79 (by decide) ?_
      refine va_mmin hx hb (by rw [hml]; exact hl.1.symm) hown (hG _ mw_752) (hG _ mw_476) (hG _ mw_91) (hG _ mw_477) (Nat.le_of_ble_eq_true rfl) (Nat.le_of_ble_eq_true rfl) (Nat.le_of_ble_eq_true rfl) (Nat.le_of_ble_eq_true rfl) dX4_push_81 ?_
      refine lv_topi (fun x_37 ex_37 => ?_)
      have rx_37 : rgI (-2147483648) (12) x_37 := by rw [ex_37]; exact rg_w (show rgI (-2147483648) (12) _ from rg_mn (rg_top x_36) rl_12 (by decide) (by decide) (by decide) (by decide)) (by decide) (by decide)
      refine hg_put (ty := .int) hx hb hG igX4 tyX4 tyX4_ok nmX4 hown hK hS o_c_31 (AF.ofE hE_20 k_17) rfl 2 (by decide) (hG _ mw_156) rfl (by decide +kernel) rfl rfl (Nat.le_of_ble_eq_true rfl) dX4_push_84 (fun H locs o_c_31 hz oq hS => ?_)
      have o_c_31 : va_at g.1 vwCl (h0, .inr (4, [.ref q_32, .int x_35, .int x_37])) H := o_c_31
      have hH : HT g T_13 G H := hH.put k_17 ⟨q_32, x_35, x_37, rfl, kq_32⟩ o_c_31 oq
      clear oq hz
      exact W.vret hx hb hr (fun t ht hWm => ⟨⟨(T_13, G), rfl, ⟨hE_20, rfl⟩, by show HT g T_13 G t.heap; rw [ht]; exact hH⟩, hS.F ht⟩) hS.2.2 dX4_push_87
    · refine lv_ifnonnull (tgt := 49) hx hb dX4_push_30 (by decide) ?_
      refine lv_aload_n hx hb dX4_push_49 rfl (lv_at hl 0 rfl) ?_
      refine hg_get hx hb hG igX4 hown hK o_c_1 rfl 0 (by decide) (hG _ mw_154) rfl dX4_push_50 ?_
      refine lv_aload_n hx hb dX4_push_53 rfl (lv_at hl 0 rfl) ?_
      refine hg_get hx hb hG igX4 hown hK o_c_1 rfl 1 (by decide) (hG _ mw_155) rfl dX4_push_54 ?_
      refine hg_aald hx hb hK o_c_7 (rg_in (n := 12) rl_0 (by decide) (by decide)) dX4_push_57 ?_
      rw [show va_rf (f_8 (0 : Int32).toNatClampNeg) = Value.ref y_11 by rw [ew_9.symm]; rfl]
      refine lv_aload_n hx hb dX4_push_58 rfl (lv_at hl 1 rfl) ?_
      obtain ⟨_, ⟨q_39, q_40, q_41, q_42, q_43, q_44, q_45, rfl, kq_39, kq_40, kq_41⟩, o_c_38⟩ := hH y_11 _ (qf_8 _ _ ew_9.symm)
      refine va_callv (va_runV (As := [.ref b0]) (rest := []) ⟨hx, hb, hml, hown, hts⟩ (c_X10_take l g Ty G H.size y_11 b0 (qf_8 _ _ ew_9.symm) k_b0) (cwV 1 hts (gwV mw_751 mw_629 mw_630 mw_77 mw_631) rfl rfl rfl hv_X10_take ⟨Nat.le_of_ble_eq_true rfl, Nat.le_of_ble_eq_true rfl⟩) ⟨PcT_blind, hg_recv hK o_c_38 rfl, PcT_pre hK hH⟩ rfl rfl hl.1 rfl (lv_room (Nat.le_of_ble_eq_true rfl)) dX4_push_59 ⟨Nat.le_of_ble_eq_true rfl, Nat.le_of_ble_eq_true rfl⟩) hS (fun q _ h => AF.mono hS.1 h) (fun q h => AF.mono hS.1 h) (fun ux_46 t H locs ht hvm hx_46 hB hz hk hS => ?_)
      have hH : HT g Ty G H := by rw [← ht]; rw [hx_46] at hB; exact hB
      refine lv_aload_n hx hb dX4_push_62 rfl (lv_at hl 0 rfl) ?_
      refine lv_dup hx hb dX4_push_63 rfl ?_
      obtain ⟨_, ⟨q_48, q_49, q_50, rfl, kq_48⟩, o_c_47⟩ := hH h0 _ k_h0
      refine hg_get hx hb hG igX4 hown hK o_c_47 rfl 1 (by decide) (hG _ mw_155) rfl dX4_push_64 ?_
      refine lv_iconst (v := 1) hx hb dX4_push_67 (by decide) ?_
      refine lv_iadd hx hb dX4_push_68 ?_
      refine lv_topi (fun x_51 ex_51 => ?_)
      refine hg_put (ty := .int) hx hb hG igX4 tyX4 tyX4_ok nmX4 hown hK hS o_c_47 (AF.of k_h0) rfl 1 (by decide) (hG _ mw_155) rfl (by decide +kernel) rfl rfl (Nat.le_of_ble_eq_true rfl) dX4_push_69 (fun H locs o_c_47 hz oq hS => ?_)
      have o_c_47 : va_at g.1 vwCl (h0, .inr (4, [.ref q_48, .int x_51, .int q_50])) H := o_c_47
      have hH : HT g Ty G H := hH.put k_h0 ⟨q_48, x_51, q_50, rfl, kq_48⟩ o_c_47 oq
      clear oq hz
      refine lv_aload_n hx hb dX4_push_72 rfl (lv_at hl 0 rfl) ?_
      refine lv_aload_n hx hb dX4_push_73 rfl (lv_at hl 0 rfl) ?_
      refine hg_get hx hb hG igX4 hown hK o_c_47 rfl 2 (by decide) (hG _ mw_156) rfl dX4_push_74 ?_
      refine lv_iconst (v := 1) hx hb dX4_push_77 (by decide) ?_
      refine lv_iadd hx hb dX4_push_78 ?_
      refine lv_topi (fun x_52 ex_52 => ?_)
      refine lv_bipush (v := 12) hx hb dX4_push_79 (by decide) ?_
      refine va_mmin hx hb (by rw [hml]; exact hl.1.symm) hown (hG _ mw_752) (hG _ mw_476) (hG _ mw_91) (hG _ mw_477) (Nat.le_of_ble_eq_true rfl) (Nat.le_of_ble_eq_true rfl) (Nat.le_of_ble_eq_true rfl) (Nat.le_of_ble_eq_true rfl) dX4_push_81 ?_
      refine lv_topi (fun x_53 ex_53 => ?_)
      have rx_53 : rgI (-2147483648) (12) x_53 := by rw [ex_53]; exact rg_w (show rgI (-2147483648) (12) _ from rg_mn (rg_top x_52) rl_12 (by decide) (by decide) (by decide) (by decide)) (by decide) (by decide)
      refine hg_put (ty := .int) hx hb hG igX4 tyX4 tyX4_ok nmX4 hown hK hS o_c_47 (AF.of k_h0) rfl 2 (by decide) (hG _ mw_156) rfl (by decide +kernel) rfl rfl (Nat.le_of_ble_eq_true rfl) dX4_push_84 (fun H locs o_c_47 hz oq hS => ?_)
      have o_c_47 : va_at g.1 vwCl (h0, .inr (4, [.ref q_48, .int x_51, .int x_53])) H := o_c_47
      have hH : HT g Ty G H := hH.put k_h0 ⟨q_48, x_51, x_53, rfl, kq_48⟩ o_c_47 oq
      clear oq hz
      refine W.widen (k := 4) (n := 79) (by decide) (by decide) ?_
      exact W.vret hx hb hr (fun t ht hWm => ⟨⟨(Ty, G), rfl, ⟨Ext.rf, rfl⟩, by show HT g Ty G t.heap; rw [ht]; exact hH⟩, hS.F ht⟩) hS.2.2 dX4_push_87
  · have r_54 : rgI (0) (2147483647) q_3 := rg_w (rg_leR rl_0 (rg_top q_3) (nlt_le c_5)) (by decide) (by decide)
    refine lv_aload_n hx hb dX4_push_7 rfl (lv_at hl 0 rfl) ?_
    refine hg_get hx hb hG igX4 hown hK o_c_1 rfl 1 (by decide) (hG _ mw_155) rfl dX4_push_8 ?_
    refine lv_bipush (v := 12) hx hb dX4_push_11 (by decide) ?_
    refine lv_icmp_lt (tgt := 21) hx hb dX4_push_13 (by decide) (fun c_55 => ?_) (fun c_55 => ?_)
    · have r_56 : rgI (0) (11) q_3 := rg_w (rg_ltL r_54 rl_12 c_55) (by decide) (by decide)
      refine lv_aload_n hx hb dX4_push_21 rfl (lv_at hl 0 rfl) ?_
      refine hg_get hx hb hG igX4 hown hK o_c_1 rfl 0 (by decide) (hG _ mw_154) rfl dX4_push_22 ?_
      refine lv_aload_n hx hb dX4_push_25 rfl (lv_at hl 0 rfl) ?_
      refine hg_get hx hb hG igX4 hown hK o_c_1 rfl 1 (by decide) (hG _ mw_155) rfl dX4_push_26 ?_
      obtain ⟨_, ⟨f_58, rfl, qf_58⟩, o_c_57⟩ := hH q_2 _ kq_2
      refine hg_aald hx hb hK o_c_57 (rg_in (n := 12) r_56 (by decide) (by decide)) dX4_push_29 ?_
      obtain ⟨w_59, ew_59⟩ : ∃ z, z = f_58 (q_3 : Int32).toNatClampNeg := ⟨_, rfl⟩
      rw [← ew_59]
      rcases w_59 with _ | y_61
      · refine lv_ifnonnullN hx hb dX4_push_30 ?_
        refine lv_aload_n hx hb dX4_push_33 rfl (lv_at hl 0 rfl) ?_
        refine hg_get hx hb hG igX4 hown hK o_c_1 rfl 0 (by decide) (hG _ mw_154) rfl dX4_push_34 ?_
        refine lv_aload_n hx hb dX4_push_37 rfl (lv_at hl 0 rfl) ?_
        refine hg_get hx hb hG igX4 hown hK o_c_1 rfl 1 (by decide) (hG _ mw_155) rfl dX4_push_38 ?_
        obtain ⟨qn_62, eqn_62⟩ : ∃ z, z = s.heap.size := ⟨_, rfl⟩
        have nqn_62 : Ty qn_62 = none := hH.free (by rw [eqn_62]; exact Nat.le_refl _)
        have gqn_62 : s.heap.size ≤ qn_62 := by rw [eqn_62]; exact hS.1
        refine hg_newQ (ci := 10) (fs := [.null, .null, .null, .int 0, .int 0, .int 0, .int 0]) (C := RX10) (T := TX10) (N := 7) hx hb hG igX10 tyX10 tyX10_ok hown (hG _ mw_152) (hG _ mw_110) (hG _ mw_77) hK hS rfl (fun j hj => by rcases (show j = 0 ∨ j = 1 ∨ j = 2 ∨ j = 3 ∨ j = 4 ∨ j = 5 ∨ j = 6 by omega) with rfl | rfl | rfl | rfl | rfl | rfl | rfl <;> rfl) (Nat.le_of_ble_eq_true rfl) (Nat.le_of_ble_eq_true rfl) dX4_push_41 eqn_62 (fun H oqn_62 zqn_62 pqn_62 hS => ?_)
        have hH : HT g Ty G H := hH.more pqn_62
        have o_c_1 := o_c_1.kept (pqn_62 _ o_c_1.lt)
        have o_c_57 := o_c_57.kept (pqn_62 _ o_c_57.lt)
        refine lv_dup hx hb dX4_push_44 rfl ?_
        have gzqn_62 : qn_62 < H.size := oqn_62.lt
        have gsqn_62 := hS.1
        obtain ⟨T_63, eT_63⟩ : ∃ z, z = tree4 Ty qn_62 H.size := ⟨_, rfl⟩
        have eTqn_62 : Ext s.heap.size Ty T_63 := by rw [eT_63]; exact tree4_ext hH nqn_62 gqn_62 gsqn_62
        have kqqn_62 : T_63 qn_62 = some (20, 0) := by rw [eT_63]; exact tree4_q
        refine va_callv (va_runI (As := []) (rest := [.ref qn_62, .int q_3, .ref q_2]) ⟨hx, hb, hml, hown, hts⟩ (c_X10_init l g Ty G H.size qn_62 nqn_62) (cwI 0 hts (gwC mw_113) rfl rfl rfl (hG _ mw_77) (hG _ mw_750) (hG _ mw_112) rfl hd_X10_init ⟨Nat.le_of_ble_eq_true rfl, Nat.le_of_ble_eq_true rfl⟩) ⟨PcC_blind, PcC_pre hK hH oqn_62⟩ rfl rfl hl.1 rfl (lv_room (Nat.le_of_ble_eq_true rfl)) dX4_push_45 ⟨Nat.le_of_ble_eq_true rfl, Nat.le_of_ble_eq_true rfl⟩) hS (fun q _ h => Or.inr (by rcases h with h | h <;> omega)) (fun q h => Or.inr (by rcases h with h | h <;> omega)) (fun _ t H locs ht hvm _ hB hz hk hS => ?_)
        have hH : HT g T_63 G H := by rw [eT_63, ← ht]; exact hB.1
        have o_c_1 := o_c_1.kept (hk _ o_c_1.lt (fun h => by rcases h with h | h; exact ne_none k_h0 nqn_62 h; exact absurd o_c_1.lt (by omega)))
        have k_64 := eTqn_62.1 _ _ k_h0
        have o_c_57 := o_c_57.kept (hk _ o_c_57.lt (fun h => by rcases h with h | h; exact ne_none kq_2 nqn_62 h; exact absurd o_c_57.lt (by omega)))
        have k_65 := eTqn_62.1 _ _ kq_2
        have q_66 : ∀ j t, f_58 j = some t → T_63 t = some (20, 0) := fun j t h => eTqn_62.1 _ _ (qf_58 j t h)
        have k_67 := eTqn_62.1 _ _ k_h0
        have k_68 := eTqn_62.1 _ _ k_b0
        have k_69 := eTqn_62.1 _ _ kq_2
        have hE_70 : Ext s.heap.size Ty T_63 := eTqn_62
        obtain ⟨_, ⟨q_72, q_73, q_74, q_75, q_76, q_77, q_78, rfl, kq_72, kq_73, kq_74⟩, o_c_71⟩ := hH qn_62 _ kqqn_62
        refine hg_aast hx hb hK hS o_c_57 (AF.ofE hE_70 k_65) o_c_71 (rg_in (n := 12) r_56 (by decide) (by decide)) dX4_push_48 (fun H locs o_c_57 hz oq hS => ?_)
        generalize hff_79 : va_up f_58 _ _ = f_79 at o_c_57
        have qf_79 : ∀ j t, f_79 j = some t → T_63 t = some (20, 0) := by rw [← hff_79]; exact up_all q_66 kqqn_62
        have knf_79 : f_79 (q_3 : Int32).toNatClampNeg = some qn_62 := by rw [← hff_79]; exact va_upS
        have hH : HT g T_63 G H := hH.put k_65 ⟨_, rfl, qf_79⟩ o_c_57 oq
        have o_c_1 := o_c_1.kept (oq _ (ne_kd k_64 k_65 (by decide)))
        have o_c_71 := o_c_71.kept (oq _ (ne_kd kqqn_62 k_65 (by decide)))
        clear oq hz
        refine lv_aload_n hx hb dX4_push_49 rfl (lv_at hl 0 rfl) ?_
        refine hg_get hx hb hG igX4 hown hK o_c_1 rfl 0 (by decide) (hG _ mw_154) rfl dX4_push_50 ?_
        refine lv_aload_n hx hb dX4_push_53 rfl (lv_at hl 0 rfl) ?_
        refine hg_get hx hb hG igX4 hown hK o_c_1 rfl 1 (by decide) (hG _ mw_155) rfl dX4_push_54 ?_
        refine hg_aald hx hb hK o_c_57 (rg_in (n := 12) r_56 (by decide) (by decide)) dX4_push_57 ?_
        rw [show va_rf (f_79 (q_3 : Int32).toNatClampNeg) = Value.ref qn_62 by rw [knf_79]; rfl]
        refine lv_aload_n hx hb dX4_push_58 rfl (lv_at hl 1 rfl) ?_
        refine va_callv (va_runV (As := [.ref b0]) (rest := []) ⟨hx, hb, hml, hown, hts⟩ (c_X10_take l g T_63 G H.size qn_62 b0 (qf_79 _ _ knf_79) k_68) (cwV 1 hts (gwV mw_751 mw_629 mw_630 mw_77 mw_631) rfl rfl rfl hv_X10_take ⟨Nat.le_of_ble_eq_true rfl, Nat.le_of_ble_eq_true rfl⟩) ⟨PcT_blind, hg_recv hK o_c_71 rfl, PcT_pre hK hH⟩ rfl rfl hl.1 rfl (lv_room (Nat.le_of_ble_eq_true rfl)) dX4_push_59 ⟨Nat.le_of_ble_eq_true rfl, Nat.le_of_ble_eq_true rfl⟩) hS (fun q _ h => AF.back hE_70 hS.1 h) (fun q h => AF.back hE_70 hS.1 h) (fun ux_80 t H locs ht hvm hx_80 hB hz hk hS => ?_)
        have hH : HT g T_63 G H := by rw [← ht]; rw [hx_80] at hB; exact hB
        refine lv_aload_n hx hb dX4_push_62 rfl (lv_at hl 0 rfl) ?_
        refine lv_dup hx hb dX4_push_63 rfl ?_
        obtain ⟨_, ⟨q_82, q_83, q_84, rfl, kq_82⟩, o_c_81⟩ := hH h0 _ k_67
        refine hg_get hx hb hG igX4 hown hK o_c_81 rfl 1 (by decide) (hG _ mw_155) rfl dX4_push_64 ?_
        refine lv_iconst (v := 1) hx hb dX4_push_67 (by decide) ?_
        refine lv_iadd hx hb dX4_push_68 ?_
        refine lv_topi (fun x_85 ex_85 => ?_)
        refine hg_put (ty := .int) hx hb hG igX4 tyX4 tyX4_ok nmX4 hown hK hS o_c_81 (AF.ofE hE_70 k_67) rfl 1 (by decide) (hG _ mw_155) rfl (by decide +kernel) rfl rfl (Nat.le_of_ble_eq_true rfl) dX4_push_69 (fun H locs o_c_81 hz oq hS => ?_)
        have o_c_81 : va_at g.1 vwCl (h0, .inr (4, [.ref q_82, .int x_85, .int q_84])) H := o_c_81
        have hH : HT g T_63 G H := hH.put k_67 ⟨q_82, x_85, q_84, rfl, kq_82⟩ o_c_81 oq
        clear oq hz
        refine lv_aload_n hx hb dX4_push_72 rfl (lv_at hl 0 rfl) ?_
        refine lv_aload_n hx hb dX4_push_73 rfl (lv_at hl 0 rfl) ?_
        refine hg_get hx hb hG igX4 hown hK o_c_81 rfl 2 (by decide) (hG _ mw_156) rfl dX4_push_74 ?_
        refine lv_iconst (v := 1) hx hb dX4_push_77 (by decide) ?_
        refine lv_iadd hx hb dX4_push_78 ?_
        refine lv_topi (fun x_86 ex_86 => ?_)
        refine lv_bipush (v := 12) hx hb dX4_push_79 (by decide) ?_
        refine va_mmin hx hb (by rw [hml]; exact hl.1.symm) hown (hG _ mw_752) (hG _ mw_476) (hG _ mw_91) (hG _ mw_477) (Nat.le_of_ble_eq_true rfl) (Nat.le_of_ble_eq_true rfl) (Nat.le_of_ble_eq_true rfl) (Nat.le_of_ble_eq_true rfl) dX4_push_81 ?_
        refine lv_topi (fun x_87 ex_87 => ?_)
        have rx_87 : rgI (-2147483648) (12) x_87 := by rw [ex_87]; exact rg_w (show rgI (-2147483648) (12) _ from rg_mn (rg_top x_86) rl_12 (by decide) (by decide) (by decide) (by decide)) (by decide) (by decide)
        refine hg_put (ty := .int) hx hb hG igX4 tyX4 tyX4_ok nmX4 hown hK hS o_c_81 (AF.ofE hE_70 k_67) rfl 2 (by decide) (hG _ mw_156) rfl (by decide +kernel) rfl rfl (Nat.le_of_ble_eq_true rfl) dX4_push_84 (fun H locs o_c_81 hz oq hS => ?_)
        have o_c_81 : va_at g.1 vwCl (h0, .inr (4, [.ref q_82, .int x_85, .int x_87])) H := o_c_81
        have hH : HT g T_63 G H := hH.put k_67 ⟨q_82, x_85, x_87, rfl, kq_82⟩ o_c_81 oq
        clear oq hz
        exact W.vret hx hb hr (fun t ht hWm => ⟨⟨(T_63, G), rfl, ⟨hE_70, rfl⟩, by show HT g T_63 G t.heap; rw [ht]; exact hH⟩, hS.F ht⟩) hS.2.2 dX4_push_87
      · refine lv_ifnonnull (tgt := 49) hx hb dX4_push_30 (by decide) ?_
        refine lv_aload_n hx hb dX4_push_49 rfl (lv_at hl 0 rfl) ?_
        refine hg_get hx hb hG igX4 hown hK o_c_1 rfl 0 (by decide) (hG _ mw_154) rfl dX4_push_50 ?_
        refine lv_aload_n hx hb dX4_push_53 rfl (lv_at hl 0 rfl) ?_
        refine hg_get hx hb hG igX4 hown hK o_c_1 rfl 1 (by decide) (hG _ mw_155) rfl dX4_push_54 ?_
        refine hg_aald hx hb hK o_c_57 (rg_in (n := 12) r_56 (by decide) (by decide)) dX4_push_57 ?_
        rw [show va_rf (f_58 (q_3 : Int32).toNatClampNeg) = Value.ref y_61 by rw [ew_59.symm]; rfl]
        refine lv_aload_n hx hb dX4_push_58 rfl (lv_at hl 1 rfl) ?_
        obtain ⟨_, ⟨q_89, q_90, q_91, q_92, q_93, q_94, q_95, rfl, kq_89, kq_90, kq_91⟩, o_c_88⟩ := hH y_61 _ (qf_58 _ _ ew_59.symm)
        refine va_callv (va_runV (As := [.ref b0]) (rest := []) ⟨hx, hb, hml, hown, hts⟩ (c_X10_take l g Ty G s.heap.size y_61 b0 (qf_58 _ _ ew_59.symm) k_b0) (cwV 1 hts (gwV mw_751 mw_629 mw_630 mw_77 mw_631) rfl rfl rfl hv_X10_take ⟨Nat.le_of_ble_eq_true rfl, Nat.le_of_ble_eq_true rfl⟩) ⟨PcT_blind, hg_recv hK o_c_88 rfl, PcT_pre hK hH⟩ rfl rfl hl.1 rfl (lv_room (Nat.le_of_ble_eq_true rfl)) dX4_push_59 ⟨Nat.le_of_ble_eq_true rfl, Nat.le_of_ble_eq_true rfl⟩) hS (fun q _ h => AF.mono hS.1 h) (fun q h => AF.mono hS.1 h) (fun ux_96 t H locs ht hvm hx_96 hB hz hk hS => ?_)
        have hH : HT g Ty G H := by rw [← ht]; rw [hx_96] at hB; exact hB
        refine lv_aload_n hx hb dX4_push_62 rfl (lv_at hl 0 rfl) ?_
        refine lv_dup hx hb dX4_push_63 rfl ?_
        obtain ⟨_, ⟨q_98, q_99, q_100, rfl, kq_98⟩, o_c_97⟩ := hH h0 _ k_h0
        refine hg_get hx hb hG igX4 hown hK o_c_97 rfl 1 (by decide) (hG _ mw_155) rfl dX4_push_64 ?_
        refine lv_iconst (v := 1) hx hb dX4_push_67 (by decide) ?_
        refine lv_iadd hx hb dX4_push_68 ?_
        refine lv_topi (fun x_101 ex_101 => ?_)
        refine hg_put (ty := .int) hx hb hG igX4 tyX4 tyX4_ok nmX4 hown hK hS o_c_97 (AF.of k_h0) rfl 1 (by decide) (hG _ mw_155) rfl (by decide +kernel) rfl rfl (Nat.le_of_ble_eq_true rfl) dX4_push_69 (fun H locs o_c_97 hz oq hS => ?_)
        have o_c_97 : va_at g.1 vwCl (h0, .inr (4, [.ref q_98, .int x_101, .int q_100])) H := o_c_97
        have hH : HT g Ty G H := hH.put k_h0 ⟨q_98, x_101, q_100, rfl, kq_98⟩ o_c_97 oq
        clear oq hz
        refine lv_aload_n hx hb dX4_push_72 rfl (lv_at hl 0 rfl) ?_
        refine lv_aload_n hx hb dX4_push_73 rfl (lv_at hl 0 rfl) ?_
        refine hg_get hx hb hG igX4 hown hK o_c_97 rfl 2 (by decide) (hG _ mw_156) rfl dX4_push_74 ?_
        refine lv_iconst (v := 1) hx hb dX4_push_77 (by decide) ?_
        refine lv_iadd hx hb dX4_push_78 ?_
        refine lv_topi (fun x_102 ex_102 => ?_)
        refine lv_bipush (v := 12) hx hb dX4_push_79 (by decide) ?_
        refine va_mmin hx hb (by rw [hml]; exact hl.1.symm) hown (hG _ mw_752) (hG _ mw_476) (hG _ mw_91) (hG _ mw_477) (Nat.le_of_ble_eq_true rfl) (Nat.le_of_ble_eq_true rfl) (Nat.le_of_ble_eq_true rfl) (Nat.le_of_ble_eq_true rfl) dX4_push_81 ?_
        refine lv_topi (fun x_103 ex_103 => ?_)
        have rx_103 : rgI (-2147483648) (12) x_103 := by rw [ex_103]; exact rg_w (show rgI (-2147483648) (12) _ from rg_mn (rg_top x_102) rl_12 (by decide) (by decide) (by decide) (by decide)) (by decide) (by decide)
        refine hg_put (ty := .int) hx hb hG igX4 tyX4 tyX4_ok nmX4 hown hK hS o_c_97 (AF.of k_h0) rfl 2 (by decide) (hG _ mw_156) rfl (by decide +kernel) rfl rfl (Nat.le_of_ble_eq_true rfl) dX4_push_84 (fun H locs o_c_97 hz oq hS => ?_)
        have o_c_97 : va_at g.1 vwCl (h0, .inr (4, [.ref q_98, .int x_101, .int x_103])) H := o_c_97
        have hH : HT g Ty G H := hH.put k_h0 ⟨q_98, x_101, x_103, rfl, kq_98⟩ o_c_97 oq
        clear oq hz
        refine W.widen (k := 4) (n := 79) (by decide) (by decide) ?_
        exact W.vret hx hb hr (fun t ht hWm => ⟨⟨(Ty, G), rfl, ⟨Ext.rf, rfl⟩, by show HT g Ty G t.heap; rw [ht]; exact hH⟩, hS.F ht⟩) hS.2.2 dX4_push_87
    · have r_104 : rgI (12) (2147483647) q_3 := rg_w (rg_leR rl_12 r_54 (nlt_le c_55)) (by decide) (by decide)
      refine lv_aload_n hx hb dX4_push_16 rfl (lv_at hl 0 rfl) ?_
      refine lv_iconst (v := 0) hx hb dX4_push_17 (by decide) ?_
      refine hg_put (ty := .int) hx hb hG igX4 tyX4 tyX4_ok nmX4 hown hK hS o_c_1 (AF.of k_h0) rfl 1 (by decide) (hG _ mw_155) rfl (by decide +kernel) rfl rfl (Nat.le_of_ble_eq_true rfl) dX4_push_18 (fun H locs o_c_1 hz oq hS => ?_)
      have o_c_1 : va_at g.1 vwCl (h0, .inr (4, [.ref q_2, .int 0, .int q_4])) H := o_c_1
      have hH : HT g Ty G H := hH.put k_h0 ⟨q_2, 0, q_4, rfl, kq_2⟩ o_c_1 oq
      clear oq hz
      refine lv_aload_n hx hb dX4_push_21 rfl (lv_at hl 0 rfl) ?_
      refine hg_get hx hb hG igX4 hown hK o_c_1 rfl 0 (by decide) (hG _ mw_154) rfl dX4_push_22 ?_
      refine lv_aload_n hx hb dX4_push_25 rfl (lv_at hl 0 rfl) ?_
      refine hg_get hx hb hG igX4 hown hK o_c_1 rfl 1 (by decide) (hG _ mw_155) rfl dX4_push_26 ?_
      obtain ⟨_, ⟨f_106, rfl, qf_106⟩, o_c_105⟩ := hH q_2 _ kq_2
      refine hg_aald hx hb hK o_c_105 (rg_in (n := 12) rl_0 (by decide) (by decide)) dX4_push_29 ?_
      obtain ⟨w_107, ew_107⟩ : ∃ z, z = f_106 (0 : Int32).toNatClampNeg := ⟨_, rfl⟩
      rw [← ew_107]
      rcases w_107 with _ | y_109
      · refine lv_ifnonnullN hx hb dX4_push_30 ?_
        refine lv_aload_n hx hb dX4_push_33 rfl (lv_at hl 0 rfl) ?_
        refine hg_get hx hb hG igX4 hown hK o_c_1 rfl 0 (by decide) (hG _ mw_154) rfl dX4_push_34 ?_
        refine lv_aload_n hx hb dX4_push_37 rfl (lv_at hl 0 rfl) ?_
        refine hg_get hx hb hG igX4 hown hK o_c_1 rfl 1 (by decide) (hG _ mw_155) rfl dX4_push_38 ?_
        obtain ⟨qn_110, eqn_110⟩ : ∃ z, z = H.size := ⟨_, rfl⟩
        have nqn_110 : Ty qn_110 = none := hH.free (by rw [eqn_110]; exact Nat.le_refl _)
        have gqn_110 : s.heap.size ≤ qn_110 := by rw [eqn_110]; exact hS.1
        refine hg_newQ (ci := 10) (fs := [.null, .null, .null, .int 0, .int 0, .int 0, .int 0]) (C := RX10) (T := TX10) (N := 7) hx hb hG igX10 tyX10 tyX10_ok hown (hG _ mw_152) (hG _ mw_110) (hG _ mw_77) hK hS rfl (fun j hj => by rcases (show j = 0 ∨ j = 1 ∨ j = 2 ∨ j = 3 ∨ j = 4 ∨ j = 5 ∨ j = 6 by omega) with rfl | rfl | rfl | rfl | rfl | rfl | rfl <;> rfl) (Nat.le_of_ble_eq_true rfl) (Nat.le_of_ble_eq_true rfl) dX4_push_41 eqn_110 (fun H oqn_110 zqn_110 pqn_110 hS => ?_)
        have hH : HT g Ty G H := hH.more pqn_110
        have o_c_1 := o_c_1.kept (pqn_110 _ o_c_1.lt)
        have o_c_105 := o_c_105.kept (pqn_110 _ o_c_105.lt)
        refine lv_dup hx hb dX4_push_44 rfl ?_
        have gzqn_110 : qn_110 < H.size := oqn_110.lt
        have gsqn_110 := hS.1
        obtain ⟨T_111, eT_111⟩ : ∃ z, z = tree4 Ty qn_110 H.size := ⟨_, rfl⟩
        have eTqn_110 : Ext s.heap.size Ty T_111 := by rw [eT_111]; exact tree4_ext hH nqn_110 gqn_110 gsqn_110
        have kqqn_110 : T_111 qn_110 = some (20, 0) := by rw [eT_111]; exact tree4_q
        refine va_callv (va_runI (As := []) (rest := [.ref qn_110, .int 0, .ref q_2]) ⟨hx, hb, hml, hown, hts⟩ (c_X10_init l g Ty G H.size qn_110 nqn_110) (cwI 0 hts (gwC mw_113) rfl rfl rfl (hG _ mw_77) (hG _ mw_750) (hG _ mw_112) rfl hd_X10_init ⟨Nat.le_of_ble_eq_true rfl, Nat.le_of_ble_eq_true rfl⟩) ⟨PcC_blind, PcC_pre hK hH oqn_110⟩ rfl rfl hl.1 rfl (lv_room (Nat.le_of_ble_eq_true rfl)) dX4_push_45 ⟨Nat.le_of_ble_eq_true rfl, Nat.le_of_ble_eq_true rfl⟩) hS (fun q _ h => Or.inr (by rcases h with h | h <;> omega)) (fun q h => Or.inr (by rcases h with h | h <;> omega)) (fun _ t H locs ht hvm _ hB hz hk hS => ?_)
        have hH : HT g T_111 G H := by rw [eT_111, ← ht]; exact hB.1
        have o_c_1 := o_c_1.kept (hk _ o_c_1.lt (fun h => by rcases h with h | h; exact ne_none k_h0 nqn_110 h; exact absurd o_c_1.lt (by omega)))
        have k_112 := eTqn_110.1 _ _ k_h0
        have o_c_105 := o_c_105.kept (hk _ o_c_105.lt (fun h => by rcases h with h | h; exact ne_none kq_2 nqn_110 h; exact absurd o_c_105.lt (by omega)))
        have k_113 := eTqn_110.1 _ _ kq_2
        have q_114 : ∀ j t, f_106 j = some t → T_111 t = some (20, 0) := fun j t h => eTqn_110.1 _ _ (qf_106 j t h)
        have k_115 := eTqn_110.1 _ _ k_h0
        have k_116 := eTqn_110.1 _ _ k_b0
        have k_117 := eTqn_110.1 _ _ kq_2
        have hE_118 : Ext s.heap.size Ty T_111 := eTqn_110
        obtain ⟨_, ⟨q_120, q_121, q_122, q_123, q_124, q_125, q_126, rfl, kq_120, kq_121, kq_122⟩, o_c_119⟩ := hH qn_110 _ kqqn_110
        refine hg_aast hx hb hK hS o_c_105 (AF.ofE hE_118 k_113) o_c_119 (rg_in (n := 12) rl_0 (by decide) (by decide)) dX4_push_48 (fun H locs o_c_105 hz oq hS => ?_)
        generalize hff_127 : va_up f_106 _ _ = f_127 at o_c_105
        have qf_127 : ∀ j t, f_127 j = some t → T_111 t = some (20, 0) := by rw [← hff_127]; exact up_all q_114 kqqn_110
        have knf_127 : f_127 (0 : Int32).toNatClampNeg = some qn_110 := by rw [← hff_127]; exact va_upS
        have hH : HT g T_111 G H := hH.put k_113 ⟨_, rfl, qf_127⟩ o_c_105 oq
        have o_c_1 := o_c_1.kept (oq _ (ne_kd k_112 k_113 (by decide)))
        have o_c_119 := o_c_119.kept (oq _ (ne_kd kqqn_110 k_113 (by decide)))
        clear oq hz
        refine lv_aload_n hx hb dX4_push_49 rfl (lv_at hl 0 rfl) ?_
        refine hg_get hx hb hG igX4 hown hK o_c_1 rfl 0 (by decide) (hG _ mw_154) rfl dX4_push_50 ?_
        refine lv_aload_n hx hb dX4_push_53 rfl (lv_at hl 0 rfl) ?_
        refine hg_get hx hb hG igX4 hown hK o_c_1 rfl 1 (by decide) (hG _ mw_155) rfl dX4_push_54 ?_
        refine hg_aald hx hb hK o_c_105 (rg_in (n := 12) rl_0 (by decide) (by decide)) dX4_push_57 ?_
        rw [show va_rf (f_127 (0 : Int32).toNatClampNeg) = Value.ref qn_110 by rw [knf_127]; rfl]
        refine lv_aload_n hx hb dX4_push_58 rfl (lv_at hl 1 rfl) ?_
        refine va_callv (va_runV (As := [.ref b0]) (rest := []) ⟨hx, hb, hml, hown, hts⟩ (c_X10_take l g T_111 G H.size qn_110 b0 (qf_127 _ _ knf_127) k_116) (cwV 1 hts (gwV mw_751 mw_629 mw_630 mw_77 mw_631) rfl rfl rfl hv_X10_take ⟨Nat.le_of_ble_eq_true rfl, Nat.le_of_ble_eq_true rfl⟩) ⟨PcT_blind, hg_recv hK o_c_119 rfl, PcT_pre hK hH⟩ rfl rfl hl.1 rfl (lv_room (Nat.le_of_ble_eq_true rfl)) dX4_push_59 ⟨Nat.le_of_ble_eq_true rfl, Nat.le_of_ble_eq_true rfl⟩) hS (fun q _ h => AF.back hE_118 hS.1 h) (fun q h => AF.back hE_118 hS.1 h) (fun ux_128 t H locs ht hvm hx_128 hB hz hk hS => ?_)
        have hH : HT g T_111 G H := by rw [← ht]; rw [hx_128] at hB; exact hB
        refine lv_aload_n hx hb dX4_push_62 rfl (lv_at hl 0 rfl) ?_
        refine lv_dup hx hb dX4_push_63 rfl ?_
        obtain ⟨_, ⟨q_130, q_131, q_132, rfl, kq_130⟩, o_c_129⟩ := hH h0 _ k_115
        refine hg_get hx hb hG igX4 hown hK o_c_129 rfl 1 (by decide) (hG _ mw_155) rfl dX4_push_64 ?_
        refine lv_iconst (v := 1) hx hb dX4_push_67 (by decide) ?_
        refine lv_iadd hx hb dX4_push_68 ?_
        refine lv_topi (fun x_133 ex_133 => ?_)
        refine hg_put (ty := .int) hx hb hG igX4 tyX4 tyX4_ok nmX4 hown hK hS o_c_129 (AF.ofE hE_118 k_115) rfl 1 (by decide) (hG _ mw_155) rfl (by decide +kernel) rfl rfl (Nat.le_of_ble_eq_true rfl) dX4_push_69 (fun H locs o_c_129 hz oq hS => ?_)
        have o_c_129 : va_at g.1 vwCl (h0, .inr (4, [.ref q_130, .int x_133, .int q_132])) H := o_c_129
        have hH : HT g T_111 G H := hH.put k_115 ⟨q_130, x_133, q_132, rfl, kq_130⟩ o_c_129 oq
        clear oq hz
        refine lv_aload_n hx hb dX4_push_72 rfl (lv_at hl 0 rfl) ?_
        refine lv_aload_n hx hb dX4_push_73 rfl (lv_at hl 0 rfl) ?_
        refine hg_get hx hb hG igX4 hown hK o_c_129 rfl 2 (by decide) (hG _ mw_156) rfl dX4_push_74 ?_
        refine lv_iconst (v := 1) hx hb dX4_push_77 (by decide) ?_
        refine lv_iadd hx hb dX4_push_78 ?_
        refine lv_topi (fun x_134 ex_134 => ?_)
        refine lv_bipush (v := 12) hx hb dX4_push_79 (by decide) ?_
        refine va_mmin hx hb (by rw [hml]; exact hl.1.symm) hown (hG _ mw_752) (hG _ mw_476) (hG _ mw_91) (hG _ mw_477) (Nat.le_of_ble_eq_true rfl) (Nat.le_of_ble_eq_true rfl) (Nat.le_of_ble_eq_true rfl) (Nat.le_of_ble_eq_true rfl) dX4_push_81 ?_
        refine lv_topi (fun x_135 ex_135 => ?_)
        have rx_135 : rgI (-2147483648) (12) x_135 := by rw [ex_135]; exact rg_w (show rgI (-2147483648) (12) _ from rg_mn (rg_top x_134) rl_12 (by decide) (by decide) (by decide) (by decide)) (by decide) (by decide)
        refine hg_put (ty := .int) hx hb hG igX4 tyX4 tyX4_ok nmX4 hown hK hS o_c_129 (AF.ofE hE_118 k_115) rfl 2 (by decide) (hG _ mw_156) rfl (by decide +kernel) rfl rfl (Nat.le_of_ble_eq_true rfl) dX4_push_84 (fun H locs o_c_129 hz oq hS => ?_)
        have o_c_129 : va_at g.1 vwCl (h0, .inr (4, [.ref q_130, .int x_133, .int x_135])) H := o_c_129
        have hH : HT g T_111 G H := hH.put k_115 ⟨q_130, x_133, x_135, rfl, kq_130⟩ o_c_129 oq
        clear oq hz
        exact W.vret hx hb hr (fun t ht hWm => ⟨⟨(T_111, G), rfl, ⟨hE_118, rfl⟩, by show HT g T_111 G t.heap; rw [ht]; exact hH⟩, hS.F ht⟩) hS.2.2 dX4_push_87
      · refine lv_ifnonnull (tgt := 49) hx hb dX4_push_30 (by decide) ?_
        refine lv_aload_n hx hb dX4_push_49 rfl (lv_at hl 0 rfl) ?_
        refine hg_get hx hb hG igX4 hown hK o_c_1 rfl 0 (by decide) (hG _ mw_154) rfl dX4_push_50 ?_
        refine lv_aload_n hx hb dX4_push_53 rfl (lv_at hl 0 rfl) ?_
        refine hg_get hx hb hG igX4 hown hK o_c_1 rfl 1 (by decide) (hG _ mw_155) rfl dX4_push_54 ?_
        refine hg_aald hx hb hK o_c_105 (rg_in (n := 12) rl_0 (by decide) (by decide)) dX4_push_57 ?_
        rw [show va_rf (f_106 (0 : Int32).toNatClampNeg) = Value.ref y_109 by rw [ew_107.symm]; rfl]
        refine lv_aload_n hx hb dX4_push_58 rfl (lv_at hl 1 rfl) ?_
        obtain ⟨_, ⟨q_137, q_138, q_139, q_140, q_141, q_142, q_143, rfl, kq_137, kq_138, kq_139⟩, o_c_136⟩ := hH y_109 _ (qf_106 _ _ ew_107.symm)
        refine va_callv (va_runV (As := [.ref b0]) (rest := []) ⟨hx, hb, hml, hown, hts⟩ (c_X10_take l g Ty G H.size y_109 b0 (qf_106 _ _ ew_107.symm) k_b0) (cwV 1 hts (gwV mw_751 mw_629 mw_630 mw_77 mw_631) rfl rfl rfl hv_X10_take ⟨Nat.le_of_ble_eq_true rfl, Nat.le_of_ble_eq_true rfl⟩) ⟨PcT_blind, hg_recv hK o_c_136 rfl, PcT_pre hK hH⟩ rfl rfl hl.1 rfl (lv_room (Nat.le_of_ble_eq_true rfl)) dX4_push_59 ⟨Nat.le_of_ble_eq_true rfl, Nat.le_of_ble_eq_true rfl⟩) hS (fun q _ h => AF.mono hS.1 h) (fun q h => AF.mono hS.1 h) (fun ux_144 t H locs ht hvm hx_144 hB hz hk hS => ?_)
        have hH : HT g Ty G H := by rw [← ht]; rw [hx_144] at hB; exact hB
        refine lv_aload_n hx hb dX4_push_62 rfl (lv_at hl 0 rfl) ?_
        refine lv_dup hx hb dX4_push_63 rfl ?_
        obtain ⟨_, ⟨q_146, q_147, q_148, rfl, kq_146⟩, o_c_145⟩ := hH h0 _ k_h0
        refine hg_get hx hb hG igX4 hown hK o_c_145 rfl 1 (by decide) (hG _ mw_155) rfl dX4_push_64 ?_
        refine lv_iconst (v := 1) hx hb dX4_push_67 (by decide) ?_
        refine lv_iadd hx hb dX4_push_68 ?_
        refine lv_topi (fun x_149 ex_149 => ?_)
        refine hg_put (ty := .int) hx hb hG igX4 tyX4 tyX4_ok nmX4 hown hK hS o_c_145 (AF.of k_h0) rfl 1 (by decide) (hG _ mw_155) rfl (by decide +kernel) rfl rfl (Nat.le_of_ble_eq_true rfl) dX4_push_69 (fun H locs o_c_145 hz oq hS => ?_)
        have o_c_145 : va_at g.1 vwCl (h0, .inr (4, [.ref q_146, .int x_149, .int q_148])) H := o_c_145
        have hH : HT g Ty G H := hH.put k_h0 ⟨q_146, x_149, q_148, rfl, kq_146⟩ o_c_145 oq
        clear oq hz
        refine lv_aload_n hx hb dX4_push_72 rfl (lv_at hl 0 rfl) ?_
        refine lv_aload_n hx hb dX4_push_73 rfl (lv_at hl 0 rfl) ?_
        refine hg_get hx hb hG igX4 hown hK o_c_145 rfl 2 (by decide) (hG _ mw_156) rfl dX4_push_74 ?_
        refine lv_iconst (v := 1) hx hb dX4_push_77 (by decide) ?_
        refine lv_iadd hx hb dX4_push_78 ?_
        refine lv_topi (fun x_150 ex_150 => ?_)
        refine lv_bipush (v := 12) hx hb dX4_push_79 (by decide) ?_
        refine va_mmin hx hb (by rw [hml]; exact hl.1.symm) hown (hG _ mw_752) (hG _ mw_476) (hG _ mw_91) (hG _ mw_477) (Nat.le_of_ble_eq_true rfl) (Nat.le_of_ble_eq_true rfl) (Nat.le_of_ble_eq_true rfl) (Nat.le_of_ble_eq_true rfl) dX4_push_81 ?_
        refine lv_topi (fun x_151 ex_151 => ?_)
        have rx_151 : rgI (-2147483648) (12) x_151 := by rw [ex_151]; exact rg_w (show rgI (-2147483648) (12) _ from rg_mn (rg_top x_150) rl_12 (by decide) (by decide) (by decide) (by decide)) (by decide) (by decide)
        refine hg_put (ty := .int) hx hb hG igX4 tyX4 tyX4_ok nmX4 hown hK hS o_c_145 (AF.of k_h0) rfl 2 (by decide) (hG _ mw_156) rfl (by decide +kernel) rfl rfl (Nat.le_of_ble_eq_true rfl) dX4_push_84 (fun H locs o_c_145 hz oq hS => ?_)
        have o_c_145 : va_at g.1 vwCl (h0, .inr (4, [.ref q_146, .int x_149, .int x_151])) H := o_c_145
        have hH : HT g Ty G H := hH.put k_h0 ⟨q_146, x_149, x_151, rfl, kq_146⟩ o_c_145 oq
        clear oq hz
        refine W.widen (k := 4) (n := 79) (by decide) (by decide) ?_
        exact W.vret hx hb hr (fun t ht hWm => ⟨⟨(Ty, G), rfl, ⟨Ext.rf, rfl⟩, by show HT g Ty G t.heap; rw [ht]; exact hH⟩, hS.F ht⟩) hS.2.2 dX4_push_87

set_option maxHeartbeats 4000000 in
set_option maxRecDepth 100000 in
theorem c_X11_remembered (l : Launch) (g : Gx) (Ty : TyM) (G : Gh) (sz : Nat) (h0 : Nat) (a0 : Int32) (k_h0 : Ty h0 = some (21, 0)) : Met l yX11_remembered (wsG yX11_remembered cX11_remembered 2 (some .int)) ({ frames := 3, cells := 4, slots := 79, locals := 54 }) (PcT g Ty G sz [.ref h0, .int a0]) (QwI g Ty sz (fun r u => Ext sz Ty u.1 ∧ u.2 = G)) 4 79 (AF Ty sz) := by
  refine Met.ofW (cc := cX11_remembered) (maxL := 2) (ret := (some .int)) (by decide) rfl ?_
  intro p e s m args below meth c s₁ B hml hv
  obtain ⟨rfl, hsz, hK, hH⟩ := hv
  subst hsz
  have hx := B.exec
  have hb := B.bytes
  have hr := B.returns
  have hts := atoms_spec (ws := (wsG yX11_remembered cX11_remembered 2 (some .int))) B.pre
  have hG : ∀ w ∈ GW, w.before ([.ref h0, .int a0] : List Value).toArray s = true := fun w h => hts w (List.mem_cons_of_mem _ h)
  have hown : s.vm.findClass RX11 = some m.cls := findClass_of_methodNamed B.named
  have hlocks := B.notSynchronized
  have hl := lv_entry [.ref h0, .int a0] (n := 2) (Nat.le_of_ble_eq_true rfl)
  rw [lg_entry_eq]
  generalize (lg_sl [.ref h0, .int a0] ++ List.replicate (2 - (lg_sl [.ref h0, .int a0]).length) Slot.unset).toArray = ls at hl ⊢
  have hl : lv_has ls 2 [(0, .ref h0), (1, .int a0)] := hl
  have hS : va_S (AF Ty s.heap.size) s.heap s.heap [] := va_S.rf
  have L_15 : ∀ (H : Heap) (locs : List Loc) (Ty_15 : TyM) (ls : Array Slot), Ext s.heap.size Ty Ty_15 → lv_has ls 2 [(1, .int a0)] → HT g Ty_15 G H → va_S (AF Ty s.heap.size) s.heap H locs → Wm p l e (wsG yX11_remembered cX11_remembered 2 (some .int)) ({ frames := 3, cells := 4, slots := 79, locals := 54 }) s m [.ref h0, .int a0] below meth c H locs (4) (79) (QwI g Ty s.heap.size (fun r u => Ext s.heap.size Ty u.1 ∧ u.2 = G)) 4 79 (AF Ty s.heap.size) (F0 m 15 ls []) := by
    intro H locs Ty_15 ls hE_15 hl hH hS
    refine lv_iload_n hx hb dX11_remembered_15 rfl (lv_at hl 0 rfl) ?_
    exact W.iret hx hb hr (fun t ht hWm => ⟨⟨a0, (Ty_15, G), rfl, ⟨hE_15, rfl⟩, by show HT g Ty_15 G t.heap; rw [ht]; exact hH⟩, hS.F ht⟩) hS.2.2 dX11_remembered_16
  refine lv_iload_n hx hb dX11_remembered_0 rfl (lv_at hl 1 rfl) ?_
  refine lv_if_lt (tgt := 15) hx hb dX11_remembered_1 (by decide) (fun c_1 => ?_) (fun c_1 => ?_)
  · have r_2 : rgI (-2147483648) (-1) a0 := rg_w (rg_ltL (rg_top a0) rl_0 c_1) (by decide) (by decide)
    refine W.widen (k := 4) (n := 79) (by decide) (by decide) ?_
    exact L_15 s.heap [] Ty ls Ext.rf (lv_sub hl [1] rfl) hH hS
  · have r_3 : rgI (0) (2147483647) a0 := rg_w (rg_leR rl_0 (rg_top a0) (nlt_le c_1)) (by decide) (by decide)
    refine lv_aload_n hx hb dX11_remembered_4 rfl (lv_at hl 0 rfl) ?_
    obtain ⟨_, ⟨q_19, rfl, kq_5, kq_6, kq_7, kq_8, kq_9, kq_10, kq_11, kq_12, kq_13, kq_14, kq_15, kq_16, kq_17, kq_18⟩, o_c_4⟩ := hH h0 _ k_h0
    refine hg_get hx hb hG igX11 hown hK o_c_4 rfl 2 (by decide) (hG _ mw_359) rfl dX11_remembered_5 ?_
    refine lv_aload_n hx hb dX11_remembered_8 rfl (lv_at hl 0 rfl) ?_
    refine hg_get hx hb hG igX11 hown hK o_c_4 rfl 1 (by decide) (hG _ mw_358) rfl dX11_remembered_9 ?_
    obtain ⟨_, ⟨q_21, q_22, q_23, rfl, kq_21⟩, o_c_20⟩ := hH (g.2.2 2) _ kq_7
    have hLx_24 := hS.1
    refine va_callv (va_runV (As := [.ref (g.2.2 1)]) (rest := []) ⟨hx, hb, hml, hown, hts⟩ (c_X4_push l g Ty G s.heap.size (g.2.2 2) (g.2.2 1) kq_7 kq_6) (cwV 1 hts (gwV mw_746 mw_747 mw_748 mw_78 mw_749) rfl rfl rfl hv_X4_push ⟨Nat.le_of_ble_eq_true rfl, Nat.le_of_ble_eq_true rfl⟩) ⟨PcT_blind, hg_recv hK o_c_20 rfl, PcT_pre hK hH⟩ rfl rfl hl.1 rfl (lv_room (Nat.le_of_ble_eq_true rfl)) dX11_remembered_12 ⟨Nat.le_of_ble_eq_true rfl, Nat.le_of_ble_eq_true rfl⟩) hS (fun q _ h => AF.mono hS.1 h) (fun q h => AF.mono hS.1 h) (fun ux_24 t H locs ht hvm hx_24 hB hz hk hS => ?_)
    obtain ⟨eTx_24, eGx_24⟩ := hx_24
    obtain ⟨T_25, eT_25⟩ : ∃ z, z = ux_24.1 := ⟨_, rfl⟩
    rw [← eT_25] at eTx_24
    have k_26 := eTx_24.1 _ _ k_h0
    have hE_27 : Ext s.heap.size Ty T_25 := Ext.le hLx_24 eTx_24
    have hH : HT g T_25 G H := by rw [← ht, eT_25, ← eGx_24]; exact hB
    exact L_15 H locs T_25 ls hE_27 (lv_sub hl [1] rfl) hH hS

set_option maxHeartbeats 4000000 in
set_option maxRecDepth 100000 in
theorem c_X11_toldWithCame (l : Launch) (g : Gx) (Ty : TyM) (G : Gh) (sz : Nat) (h0 : Nat) (a0 : Int32) (k_h0 : Ty h0 = some (21, 0)) : Met l yX11_toldWithCame (wsG yX11_toldWithCame cX11_toldWithCame 3 (some .int)) ({ frames := 4, cells := 4, slots := 79, locals := 75 }) (PcT g Ty G sz [.ref h0, .int a0]) (QwI g Ty sz (fun r u => Ext sz Ty u.1 ∧ u.2 = G)) 4 79 (AF Ty sz) := by
  refine Met.ofW (cc := cX11_toldWithCame) (maxL := 3) (ret := (some .int)) (by decide) rfl ?_
  intro p e s m args below meth c s₁ B hml hv
  obtain ⟨rfl, hsz, hK, hH⟩ := hv
  subst hsz
  have hx := B.exec
  have hb := B.bytes
  have hr := B.returns
  have hts := atoms_spec (ws := (wsG yX11_toldWithCame cX11_toldWithCame 3 (some .int))) B.pre
  have hG : ∀ w ∈ GW, w.before ([.ref h0, .int a0] : List Value).toArray s = true := fun w h => hts w (List.mem_cons_of_mem _ h)
  have hown : s.vm.findClass RX11 = some m.cls := findClass_of_methodNamed B.named
  have hlocks := B.notSynchronized
  have hl := lv_entry [.ref h0, .int a0] (n := 3) (Nat.le_of_ble_eq_true rfl)
  rw [lg_entry_eq]
  generalize (lg_sl [.ref h0, .int a0] ++ List.replicate (3 - (lg_sl [.ref h0, .int a0]).length) Slot.unset).toArray = ls at hl ⊢
  have hl : lv_has ls 3 [(0, .ref h0), (1, .int a0)] := hl
  have hS : va_S (AF Ty s.heap.size) s.heap s.heap [] := va_S.rf
  have L_40 : ∀ (H : Heap) (locs : List Loc) (Ty_40 : TyM) (ls : Array Slot), Ext s.heap.size Ty Ty_40 → lv_has ls 3 [(1, .int a0)] → HT g Ty_40 G H → va_S (AF Ty s.heap.size) s.heap H locs → Wm p l e (wsG yX11_toldWithCame cX11_toldWithCame 3 (some .int)) ({ frames := 4, cells := 4, slots := 79, locals := 75 }) s m [.ref h0, .int a0] below meth c H locs (4) (79) (QwI g Ty s.heap.size (fun r u => Ext s.heap.size Ty u.1 ∧ u.2 = G)) 4 79 (AF Ty s.heap.size) (F0 m 40 ls []) := by
    intro H locs Ty_40 ls hE_40 hl hH hS
    refine lv_iload_n hx hb dX11_toldWithCame_40 rfl (lv_at hl 0 rfl) ?_
    exact W.iret hx hb hr (fun t ht hWm => ⟨⟨a0, (Ty_40, G), rfl, ⟨hE_40, rfl⟩, by show HT g Ty_40 G t.heap; rw [ht]; exact hH⟩, hS.F ht⟩) hS.2.2 dX11_toldWithCame_41
  refine lv_aload_n hx hb dX11_toldWithCame_0 rfl (lv_at hl 0 rfl) ?_
  refine lv_iload_n hx hb dX11_toldWithCame_1 rfl (lv_at hl 1 rfl) ?_
  obtain ⟨_, ⟨q_16, rfl, kq_2, kq_3, kq_4, kq_5, kq_6, kq_7, kq_8, kq_9, kq_10, kq_11, kq_12, kq_13, kq_14, kq_15⟩, o_c_1⟩ := hH h0 _ k_h0
  have hLx_17 := hS.1
  refine va_calli (va_runV (As := [.int a0]) (rest := []) ⟨hx, hb, hml, hown, hts⟩ (c_X11_remembered l g Ty G s.heap.size h0 a0 k_h0) (cwV 1 hts (gwV mw_742 mw_744 mw_16 mw_76 mw_745) rfl rfl rfl hv_X11_remembered ⟨Nat.le_of_ble_eq_true rfl, Nat.le_of_ble_eq_true rfl⟩) ⟨PcT_blind, hg_recv hK o_c_1 rfl, PcT_pre hK hH⟩ rfl rfl hl.1 rfl (lv_room (Nat.le_of_ble_eq_true rfl)) dX11_toldWithCame_2 ⟨Nat.le_of_ble_eq_true rfl, Nat.le_of_ble_eq_true rfl⟩) hS (fun q _ h => AF.mono hS.1 h) (fun q h => AF.mono hS.1 h) (fun x_17 ux_17 t H locs ht hvm hx_17 hB hz hk hS => ?_)
  obtain ⟨eTx_17, eGx_17⟩ := hx_17
  obtain ⟨T_18, eT_18⟩ : ∃ z, z = ux_17.1 := ⟨_, rfl⟩
  rw [← eT_18] at eTx_17
  have k_19 := eTx_17.1 _ _ k_h0
  have hE_20 : Ext s.heap.size Ty T_18 := Ext.le hLx_17 eTx_17
  have hH : HT g T_18 G H := by rw [← ht, eT_18, ← eGx_17]; exact hB
  refine lv_if_lt (tgt := 40) hx hb dX11_toldWithCame_5 (by decide) (fun c_21 => ?_) (fun c_21 => ?_)
  · have r_22 : rgI (-2147483648) (-1) x_17 := rg_w (rg_ltL (rg_top x_17) rl_0 c_21) (by decide) (by decide)
    exact L_40 H locs T_18 ls hE_20 (lv_sub hl [1] rfl) hH hS
  · have r_23 : rgI (0) (2147483647) x_17 := rg_w (rg_leR rl_0 (rg_top x_17) (nlt_le c_21)) (by decide) (by decide)
    refine lv_aload_n hx hb dX11_toldWithCame_8 rfl (lv_at hl 0 rfl) ?_
    obtain ⟨_, ⟨q_39, rfl, kq_25, kq_26, kq_27, kq_28, kq_29, kq_30, kq_31, kq_32, kq_33, kq_34, kq_35, kq_36, kq_37, kq_38⟩, o_c_24⟩ := hH h0 _ k_19
    refine hg_get hx hb hG igX11 hown hK o_c_24 rfl 0 (by decide) (hG _ mw_357) rfl dX11_toldWithCame_9 ?_
    obtain ⟨_, ⟨q_41, q_42, q_43, q_44, q_45, q_46, q_47, rfl, kq_41, kq_42, kq_43⟩, o_c_40⟩ := hH (g.2.2 0) _ kq_25
    refine hg_getN hx hb hG igX10 hown hK o_c_40 rfl 3 (by decide) ((hK.2.1 _ nwf_121).use rfl) rfl dX11_toldWithCame_12 ?_
    refine lv_aload_n hx hb dX11_toldWithCame_15 rfl (lv_at hl 0 rfl) ?_
    refine hg_get hx hb hG igX11 hown hK o_c_24 rfl 1 (by decide) (hG _ mw_358) rfl dX11_toldWithCame_16 ?_
    obtain ⟨_, ⟨q_49, q_50, q_51, q_52, q_53, q_54, q_55, rfl, kq_49, kq_50, kq_51⟩, o_c_48⟩ := hH (g.2.2 1) _ kq_26
    refine hg_getN hx hb hG igX10 hown hK o_c_48 rfl 3 (by decide) ((hK.2.1 _ nwf_121).use rfl) rfl dX11_toldWithCame_19 ?_
    refine lv_iconst (v := (-1)) hx hb dX11_toldWithCame_22 (by decide) ?_
    refine lv_ixor hx hb dX11_toldWithCame_23 ?_
    refine lv_topi (fun x_56 ex_56 => ?_)
    refine lv_iand hx hb dX11_toldWithCame_24 ?_
    refine lv_topi (fun x_57 ex_57 => ?_)
    refine lv_istore_n (lv' := [(2, .int x_57), (0, .ref h0), (1, .int a0)]) hx hb dX11_toldWithCame_25 rfl hl (by decide) rfl (fun ls hl => ?_)
    refine lv_aload_n hx hb dX11_toldWithCame_26 rfl (lv_at hl 1 rfl) ?_
    refine hg_get hx hb hG igX11 hown hK o_c_24 rfl 5 (by decide) (hG _ mw_362) rfl dX11_toldWithCame_27 ?_
    refine lv_iload_n hx hb dX11_toldWithCame_30 rfl (lv_at hl 0 rfl) ?_
    refine vp_callSi (W.runS (As := [.int x_57]) (rest := [.ref (g.2.2 5)]) ⟨hx, hb, hml, hown, hts⟩ (c_J6_bitCount_0f7a4 l g T_18 G x_57 ) (cwSx 1 hts hG (gwC mw_620) mw_99 mw_618 mw_619 rfl rfl rfl hd_J6_bitCount_0f7a4 ⟨Nat.le_of_ble_eq_true rfl, Nat.le_of_ble_eq_true rfl⟩) ⟨PcH_blind, PcH_pre hK hH⟩ rfl rfl hl.1 rfl (lv_room (Nat.le_of_ble_eq_true rfl)) dX11_toldWithCame_31 ⟨Nat.le_of_ble_eq_true rfl, Nat.le_of_ble_eq_true rfl⟩) (fun x_58 hx_58 => ?_)
    refine lv_i2l hx hb dX11_toldWithCame_34 rfl ?_
    refine lv_topl (fun u_59 eu_59 => ?_)
    refine lv_iload_n hx hb dX11_toldWithCame_35 rfl (lv_at hl 0 rfl) ?_
    refine lv_i2l hx hb dX11_toldWithCame_36 rfl ?_
    refine lv_topl (fun u_60 eu_60 => ?_)
    obtain ⟨_, ⟨q_62, q_63, rfl, kq_62, rq_63⟩, o_c_61⟩ := hH (g.2.2 5) _ kq_30
    refine va_callv (va_runV (As := [.long u_59, .long u_60]) (rest := []) ⟨hx, hb, hml, hown, hts⟩ (c_X7_tellTwo l g T_18 G H.size (g.2.2 5) u_59 u_60 kq_30) (cwV 2 hts (gwV mw_753 mw_754 mw_755 mw_80 mw_756) rfl rfl rfl hv_X7_tellTwo ⟨Nat.le_of_ble_eq_true rfl, Nat.le_of_ble_eq_true rfl⟩) ⟨PcT_blind, hg_recv hK o_c_61 rfl, PcT_pre hK hH⟩ rfl rfl hl.1 rfl (lv_room (Nat.le_of_ble_eq_true rfl)) dX11_toldWithCame_37 ⟨Nat.le_of_ble_eq_true rfl, Nat.le_of_ble_eq_true rfl⟩) hS (fun q _ h => AF.back hE_20 hS.1 h) (fun q h => AF.back hE_20 hS.1 h) (fun ux_64 t H locs ht hvm hx_64 hB hz hk hS => ?_)
    have hH : HT g T_18 G H := by rw [← ht]; rw [hx_64] at hB; exact hB
    exact L_40 H locs T_18 ls hE_20 (lv_sub hl [2] rfl) hH hS

set_option maxHeartbeats 4000000 in
set_option maxRecDepth 100000 in
theorem c_X11_mounts (l : Launch) (g : Gx) (Ty : TyM) (G : Gh) (sz : Nat) (h0 : Nat) (a0 : Int32) (a1 : Int32) (k_h0 : Ty h0 = some (21, 0)) : Met l yX11_mounts (wsG yX11_mounts cX11_mounts 3 (some .int)) ({ frames := 6, cells := 4, slots := 79, locals := 146 }) (PcT g Ty G sz [.ref h0, .int a0, .int a1]) (QwI g Ty sz (fun r u => Ext sz Ty u.1 ∧ u.2 = G)) 4 79 (AF Ty sz) := by
  refine Met.ofW (cc := cX11_mounts) (maxL := 3) (ret := (some .int)) (by decide) rfl ?_
  intro p e s m args below meth c s₁ B hml hv
  obtain ⟨rfl, hsz, hK, hH⟩ := hv
  subst hsz
  have hx := B.exec
  have hb := B.bytes
  have hr := B.returns
  have hts := atoms_spec (ws := (wsG yX11_mounts cX11_mounts 3 (some .int))) B.pre
  have hG : ∀ w ∈ GW, w.before ([.ref h0, .int a0, .int a1] : List Value).toArray s = true := fun w h => hts w (List.mem_cons_of_mem _ h)
  have hown : s.vm.findClass RX11 = some m.cls := findClass_of_methodNamed B.named
  have hlocks := B.notSynchronized
  have hl := lv_entry [.ref h0, .int a0, .int a1] (n := 3) (Nat.le_of_ble_eq_true rfl)
  rw [lg_entry_eq]
  generalize (lg_sl [.ref h0, .int a0, .int a1] ++ List.replicate (3 - (lg_sl [.ref h0, .int a0, .int a1]).length) Slot.unset).toArray = ls at hl ⊢
  have hl : lv_has ls 3 [(0, .ref h0), (1, .int a0), (2, .int a1)] := hl
  have hS : va_S (AF Ty s.heap.size) s.heap s.heap [] := va_S.rf
  refine lv_aload_n hx hb dX11_mounts_0 rfl (lv_at hl 0 rfl) ?_
  obtain ⟨_, ⟨q_16, rfl, kq_2, kq_3, kq_4, kq_5, kq_6, kq_7, kq_8, kq_9, kq_10, kq_11, kq_12, kq_13, kq_14, kq_15⟩, o_c_1⟩ := hH h0 _ k_h0
  refine hg_get hx hb hG igX11 hown hK o_c_1 rfl 1 (by decide) (hG _ mw_358) rfl dX11_mounts_1 ?_
  refine lv_aload_n hx hb dX11_mounts_4 rfl (lv_at hl 0 rfl) ?_
  refine hg_get hx hb hG igX11 hown hK o_c_1 rfl 0 (by decide) (hG _ mw_357) rfl dX11_mounts_5 ?_
  obtain ⟨_, ⟨q_18, q_19, q_20, q_21, q_22, q_23, q_24, rfl, kq_18, kq_19, kq_20⟩, o_c_17⟩ := hH (g.2.2 1) _ kq_3
  refine va_callv (va_runV (As := [.ref (g.2.2 0)]) (rest := []) ⟨hx, hb, hml, hown, hts⟩ (c_X10_take l g Ty G s.heap.size (g.2.2 1) (g.2.2 0) kq_3 kq_2) (cwV 1 hts (gwV mw_628 mw_629 mw_630 mw_77 mw_631) rfl rfl rfl hv_X10_take ⟨Nat.le_of_ble_eq_true rfl, Nat.le_of_ble_eq_true rfl⟩) ⟨PcT_blind, hg_recv hK o_c_17 rfl, PcT_pre hK hH⟩ rfl rfl hl.1 rfl (lv_room (Nat.le_of_ble_eq_true rfl)) dX11_mounts_8 ⟨Nat.le_of_ble_eq_true rfl, Nat.le_of_ble_eq_true rfl⟩) hS (fun q _ h => AF.mono hS.1 h) (fun q h => AF.mono hS.1 h) (fun ux_25 t H locs ht hvm hx_25 hB hz hk hS => ?_)
  have hH : HT g Ty G H := by rw [← ht]; rw [hx_25] at hB; exact hB
  refine lv_aload_n hx hb dX11_mounts_11 rfl (lv_at hl 0 rfl) ?_
  refine lv_aload_n hx hb dX11_mounts_12 rfl (lv_at hl 0 rfl) ?_
  obtain ⟨_, ⟨q_41, rfl, kq_27, kq_28, kq_29, kq_30, kq_31, kq_32, kq_33, kq_34, kq_35, kq_36, kq_37, kq_38, kq_39, kq_40⟩, o_c_26⟩ := hH h0 _ k_h0
  refine hg_get hx hb hG igX11 hown hK o_c_26 rfl 8 (by decide) (hG _ mw_365) rfl dX11_mounts_13 ?_
  refine lv_iload_n hx hb dX11_mounts_16 rfl (lv_at hl 1 rfl) ?_
  refine lv_iload_n hx hb dX11_mounts_17 rfl (lv_at hl 2 rfl) ?_
  obtain ⟨_, ⟨q_43, q_44, q_45, rfl, kq_43, kq_44, kq_45⟩, o_c_42⟩ := hH (g.2.2 8) _ kq_35
  refine va_calli (va_runV (As := [.int a0, .int a1]) (rest := [.ref h0]) ⟨hx, hb, hml, hown, hts⟩ (c_X0_mountNew l g Ty G H.size (g.2.2 8) a0 a1 kq_35) (cwV 2 hts (gwV mw_632 mw_633 mw_634 mw_82 mw_635) rfl rfl rfl hv_X0_mountNew ⟨Nat.le_of_ble_eq_true rfl, Nat.le_of_ble_eq_true rfl⟩) ⟨PcT_blind, hg_recv hK o_c_42 rfl, PcT_pre hK hH⟩ rfl rfl hl.1 rfl (lv_room (Nat.le_of_ble_eq_true rfl)) dX11_mounts_18 ⟨Nat.le_of_ble_eq_true rfl, Nat.le_of_ble_eq_true rfl⟩) hS (fun q _ h => AF.mono hS.1 h) (fun q h => AF.mono hS.1 h) (fun x_46 ux_46 t H locs ht hvm hx_46 hB hz hk hS => ?_)
  have hH : HT g Ty G H := by rw [← ht]; rw [hx_46] at hB; exact hB
  obtain ⟨_, ⟨q_62, rfl, kq_48, kq_49, kq_50, kq_51, kq_52, kq_53, kq_54, kq_55, kq_56, kq_57, kq_58, kq_59, kq_60, kq_61⟩, o_c_47⟩ := hH h0 _ k_h0
  have hLx_63 := hS.1
  refine va_calli (va_runV (As := [.int x_46]) (rest := []) ⟨hx, hb, hml, hown, hts⟩ (c_X11_toldWithCame l g Ty G H.size h0 x_46 k_h0) (cwV 1 hts (gwV mw_738 mw_740 mw_15 mw_76 mw_741) rfl rfl rfl hv_X11_toldWithCame ⟨Nat.le_of_ble_eq_true rfl, Nat.le_of_ble_eq_true rfl⟩) ⟨PcT_blind, hg_recv hK o_c_47 rfl, PcT_pre hK hH⟩ rfl rfl hl.1 rfl (lv_room (Nat.le_of_ble_eq_true rfl)) dX11_mounts_21 ⟨Nat.le_of_ble_eq_true rfl, Nat.le_of_ble_eq_true rfl⟩) hS (fun q _ h => AF.mono hS.1 h) (fun q h => AF.mono hS.1 h) (fun x_63 ux_63 t H locs ht hvm hx_63 hB hz hk hS => ?_)
  obtain ⟨eTx_63, eGx_63⟩ := hx_63
  obtain ⟨T_64, eT_64⟩ : ∃ z, z = ux_63.1 := ⟨_, rfl⟩
  rw [← eT_64] at eTx_63
  have k_65 := eTx_63.1 _ _ k_h0
  have hE_66 : Ext s.heap.size Ty T_64 := Ext.le hLx_63 eTx_63
  have hH : HT g T_64 G H := by rw [← ht, eT_64, ← eGx_63]; exact hB
  exact W.iret hx hb hr (fun t ht hWm => ⟨⟨x_63, (T_64, G), rfl, ⟨hE_66, rfl⟩, by show HT g T_64 G t.heap; rw [ht]; exact hH⟩, hS.F ht⟩) hS.2.2 dX11_mounts_24

set_option maxHeartbeats 4000000 in
set_option maxRecDepth 100000 in
theorem c_X11_binds (l : Launch) (g : Gx) (Ty : TyM) (G : Gh) (sz : Nat) (h0 : Nat) (a0 : Int32) (a1 : Int32) (a2 : Int32) (k_h0 : Ty h0 = some (21, 0)) : Met l yX11_binds (wsG yX11_binds cX11_binds 4 (some .int)) ({ frames := 6, cells := 4, slots := 79, locals := 147 }) (PcT g Ty G sz [.ref h0, .int a0, .int a1, .int a2]) (QwI g Ty sz (fun r u => Ext sz Ty u.1 ∧ u.2 = G)) 4 79 (AF Ty sz) := by
  refine Met.ofW (cc := cX11_binds) (maxL := 4) (ret := (some .int)) (by decide) rfl ?_
  intro p e s m args below meth c s₁ B hml hv
  obtain ⟨rfl, hsz, hK, hH⟩ := hv
  subst hsz
  have hx := B.exec
  have hb := B.bytes
  have hr := B.returns
  have hts := atoms_spec (ws := (wsG yX11_binds cX11_binds 4 (some .int))) B.pre
  have hG : ∀ w ∈ GW, w.before ([.ref h0, .int a0, .int a1, .int a2] : List Value).toArray s = true := fun w h => hts w (List.mem_cons_of_mem _ h)
  have hown : s.vm.findClass RX11 = some m.cls := findClass_of_methodNamed B.named
  have hlocks := B.notSynchronized
  have hl := lv_entry [.ref h0, .int a0, .int a1, .int a2] (n := 4) (Nat.le_of_ble_eq_true rfl)
  rw [lg_entry_eq]
  generalize (lg_sl [.ref h0, .int a0, .int a1, .int a2] ++ List.replicate (4 - (lg_sl [.ref h0, .int a0, .int a1, .int a2]).length) Slot.unset).toArray = ls at hl ⊢
  have hl : lv_has ls 4 [(0, .ref h0), (1, .int a0), (2, .int a1), (3, .int a2)] := hl
  have hS : va_S (AF Ty s.heap.size) s.heap s.heap [] := va_S.rf
  refine lv_aload_n hx hb dX11_binds_0 rfl (lv_at hl 0 rfl) ?_
  obtain ⟨_, ⟨q_16, rfl, kq_2, kq_3, kq_4, kq_5, kq_6, kq_7, kq_8, kq_9, kq_10, kq_11, kq_12, kq_13, kq_14, kq_15⟩, o_c_1⟩ := hH h0 _ k_h0
  refine hg_get hx hb hG igX11 hown hK o_c_1 rfl 1 (by decide) (hG _ mw_358) rfl dX11_binds_1 ?_
  refine lv_aload_n hx hb dX11_binds_4 rfl (lv_at hl 0 rfl) ?_
  refine hg_get hx hb hG igX11 hown hK o_c_1 rfl 0 (by decide) (hG _ mw_357) rfl dX11_binds_5 ?_
  obtain ⟨_, ⟨q_18, q_19, q_20, q_21, q_22, q_23, q_24, rfl, kq_18, kq_19, kq_20⟩, o_c_17⟩ := hH (g.2.2 1) _ kq_3
  refine va_callv (va_runV (As := [.ref (g.2.2 0)]) (rest := []) ⟨hx, hb, hml, hown, hts⟩ (c_X10_take l g Ty G s.heap.size (g.2.2 1) (g.2.2 0) kq_3 kq_2) (cwV 1 hts (gwV mw_628 mw_629 mw_630 mw_77 mw_631) rfl rfl rfl hv_X10_take ⟨Nat.le_of_ble_eq_true rfl, Nat.le_of_ble_eq_true rfl⟩) ⟨PcT_blind, hg_recv hK o_c_17 rfl, PcT_pre hK hH⟩ rfl rfl hl.1 rfl (lv_room (Nat.le_of_ble_eq_true rfl)) dX11_binds_8 ⟨Nat.le_of_ble_eq_true rfl, Nat.le_of_ble_eq_true rfl⟩) hS (fun q _ h => AF.mono hS.1 h) (fun q h => AF.mono hS.1 h) (fun ux_25 t H locs ht hvm hx_25 hB hz hk hS => ?_)
  have hH : HT g Ty G H := by rw [← ht]; rw [hx_25] at hB; exact hB
  refine lv_aload_n hx hb dX11_binds_11 rfl (lv_at hl 0 rfl) ?_
  refine lv_aload_n hx hb dX11_binds_12 rfl (lv_at hl 0 rfl) ?_
  obtain ⟨_, ⟨q_41, rfl, kq_27, kq_28, kq_29, kq_30, kq_31, kq_32, kq_33, kq_34, kq_35, kq_36, kq_37, kq_38, kq_39, kq_40⟩, o_c_26⟩ := hH h0 _ k_h0
  refine hg_get hx hb hG igX11 hown hK o_c_26 rfl 8 (by decide) (hG _ mw_365) rfl dX11_binds_13 ?_
  refine lv_iload_n hx hb dX11_binds_16 rfl (lv_at hl 1 rfl) ?_
  refine lv_iload_n hx hb dX11_binds_17 rfl (lv_at hl 2 rfl) ?_
  refine lv_iload_n hx hb dX11_binds_18 rfl (lv_at hl 3 rfl) ?_
  obtain ⟨_, ⟨q_43, q_44, q_45, rfl, kq_43, kq_44, kq_45⟩, o_c_42⟩ := hH (g.2.2 8) _ kq_35
  refine va_calli (va_runV (As := [.int a0, .int a1, .int a2]) (rest := [.ref h0]) ⟨hx, hb, hml, hown, hts⟩ (c_X0_bindOne l g Ty G H.size (g.2.2 8) a0 a1 a2 kq_35) (cwV 3 hts (gwV mw_761 mw_762 mw_763 mw_82 mw_764) rfl rfl rfl hv_X0_bindOne ⟨Nat.le_of_ble_eq_true rfl, Nat.le_of_ble_eq_true rfl⟩) ⟨PcT_blind, hg_recv hK o_c_42 rfl, PcT_pre hK hH⟩ rfl rfl hl.1 rfl (lv_room (Nat.le_of_ble_eq_true rfl)) dX11_binds_19 ⟨Nat.le_of_ble_eq_true rfl, Nat.le_of_ble_eq_true rfl⟩) hS (fun q _ h => AF.mono hS.1 h) (fun q h => AF.mono hS.1 h) (fun x_46 ux_46 t H locs ht hvm hx_46 hB hz hk hS => ?_)
  have hH : HT g Ty G H := by rw [← ht]; rw [hx_46] at hB; exact hB
  obtain ⟨_, ⟨q_62, rfl, kq_48, kq_49, kq_50, kq_51, kq_52, kq_53, kq_54, kq_55, kq_56, kq_57, kq_58, kq_59, kq_60, kq_61⟩, o_c_47⟩ := hH h0 _ k_h0
  have hLx_63 := hS.1
  refine va_calli (va_runV (As := [.int x_46]) (rest := []) ⟨hx, hb, hml, hown, hts⟩ (c_X11_toldWithCame l g Ty G H.size h0 x_46 k_h0) (cwV 1 hts (gwV mw_738 mw_740 mw_15 mw_76 mw_741) rfl rfl rfl hv_X11_toldWithCame ⟨Nat.le_of_ble_eq_true rfl, Nat.le_of_ble_eq_true rfl⟩) ⟨PcT_blind, hg_recv hK o_c_47 rfl, PcT_pre hK hH⟩ rfl rfl hl.1 rfl (lv_room (Nat.le_of_ble_eq_true rfl)) dX11_binds_22 ⟨Nat.le_of_ble_eq_true rfl, Nat.le_of_ble_eq_true rfl⟩) hS (fun q _ h => AF.mono hS.1 h) (fun q h => AF.mono hS.1 h) (fun x_63 ux_63 t H locs ht hvm hx_63 hB hz hk hS => ?_)
  obtain ⟨eTx_63, eGx_63⟩ := hx_63
  obtain ⟨T_64, eT_64⟩ : ∃ z, z = ux_63.1 := ⟨_, rfl⟩
  rw [← eT_64] at eTx_63
  have k_65 := eTx_63.1 _ _ k_h0
  have hE_66 : Ext s.heap.size Ty T_64 := Ext.le hLx_63 eTx_63
  have hH : HT g T_64 G H := by rw [← ht, eT_64, ← eGx_63]; exact hB
  exact W.iret hx hb hr (fun t ht hWm => ⟨⟨x_63, (T_64, G), rfl, ⟨hE_66, rfl⟩, by show HT g T_64 G t.heap; rw [ht]; exact hH⟩, hS.F ht⟩) hS.2.2 dX11_binds_25

set_option maxHeartbeats 4000000 in
set_option maxRecDepth 100000 in
theorem c_X11_trees (l : Launch) (g : Gx) (Ty : TyM) (G : Gh) (sz : Nat) (h0 : Nat) (a0 : Int32) (a1 : Int32) (a2 : Int32) (k_h0 : Ty h0 = some (21, 0)) : Met l yX11_trees (wsG yX11_trees cX11_trees 4 (some .int)) ({ frames := 29, cells := 4, slots := 79, locals := 799 }) (PcT g Ty G sz [.ref h0, .int a0, .int a1, .int a2]) (QwI g Ty sz (fun r u => Ext sz Ty u.1 ∧ u.2 = G)) 4 79 (AF Ty sz) := by
  refine Met.ofW (cc := cX11_trees) (maxL := 4) (ret := (some .int)) (by decide) rfl ?_
  intro p e s m args below meth c s₁ B hml hv
  obtain ⟨rfl, hsz, hK, hH⟩ := hv
  subst hsz
  have hx := B.exec
  have hb := B.bytes
  have hr := B.returns
  have hts := atoms_spec (ws := (wsG yX11_trees cX11_trees 4 (some .int))) B.pre
  have hG : ∀ w ∈ GW, w.before ([.ref h0, .int a0, .int a1, .int a2] : List Value).toArray s = true := fun w h => hts w (List.mem_cons_of_mem _ h)
  have hown : s.vm.findClass RX11 = some m.cls := findClass_of_methodNamed B.named
  have hlocks := B.notSynchronized
  have hl := lv_entry [.ref h0, .int a0, .int a1, .int a2] (n := 4) (Nat.le_of_ble_eq_true rfl)
  rw [lg_entry_eq]
  generalize (lg_sl [.ref h0, .int a0, .int a1, .int a2] ++ List.replicate (4 - (lg_sl [.ref h0, .int a0, .int a1, .int a2]).length) Slot.unset).toArray = ls at hl ⊢
  have hl : lv_has ls 4 [(0, .ref h0), (1, .int a0), (2, .int a1), (3, .int a2)] := hl
  have hS : va_S (AF Ty s.heap.size) s.heap s.heap [] := va_S.rf
  refine lv_aload_n hx hb dX11_trees_0 rfl (lv_at hl 0 rfl) ?_
  obtain ⟨_, ⟨q_16, rfl, kq_2, kq_3, kq_4, kq_5, kq_6, kq_7, kq_8, kq_9, kq_10, kq_11, kq_12, kq_13, kq_14, kq_15⟩, o_c_1⟩ := hH h0 _ k_h0
  refine hg_get hx hb hG igX11 hown hK o_c_1 rfl 1 (by decide) (hG _ mw_358) rfl dX11_trees_1 ?_
  refine lv_aload_n hx hb dX11_trees_4 rfl (lv_at hl 0 rfl) ?_
  refine hg_get hx hb hG igX11 hown hK o_c_1 rfl 0 (by decide) (hG _ mw_357) rfl dX11_trees_5 ?_
  obtain ⟨_, ⟨q_18, q_19, q_20, q_21, q_22, q_23, q_24, rfl, kq_18, kq_19, kq_20⟩, o_c_17⟩ := hH (g.2.2 1) _ kq_3
  refine va_callv (va_runV (As := [.ref (g.2.2 0)]) (rest := []) ⟨hx, hb, hml, hown, hts⟩ (c_X10_take l g Ty G s.heap.size (g.2.2 1) (g.2.2 0) kq_3 kq_2) (cwV 1 hts (gwV mw_628 mw_629 mw_630 mw_77 mw_631) rfl rfl rfl hv_X10_take ⟨Nat.le_of_ble_eq_true rfl, Nat.le_of_ble_eq_true rfl⟩) ⟨PcT_blind, hg_recv hK o_c_17 rfl, PcT_pre hK hH⟩ rfl rfl hl.1 rfl (lv_room (Nat.le_of_ble_eq_true rfl)) dX11_trees_8 ⟨Nat.le_of_ble_eq_true rfl, Nat.le_of_ble_eq_true rfl⟩) hS (fun q _ h => AF.mono hS.1 h) (fun q h => AF.mono hS.1 h) (fun ux_25 t H locs ht hvm hx_25 hB hz hk hS => ?_)
  have hH : HT g Ty G H := by rw [← ht]; rw [hx_25] at hB; exact hB
  refine lv_aload_n hx hb dX11_trees_11 rfl (lv_at hl 0 rfl) ?_
  refine lv_aload_n hx hb dX11_trees_12 rfl (lv_at hl 0 rfl) ?_
  obtain ⟨_, ⟨q_41, rfl, kq_27, kq_28, kq_29, kq_30, kq_31, kq_32, kq_33, kq_34, kq_35, kq_36, kq_37, kq_38, kq_39, kq_40⟩, o_c_26⟩ := hH h0 _ k_h0
  refine hg_get hx hb hG igX11 hown hK o_c_26 rfl 8 (by decide) (hG _ mw_365) rfl dX11_trees_13 ?_
  refine lv_iload_n hx hb dX11_trees_16 rfl (lv_at hl 1 rfl) ?_
  refine lv_iload_n hx hb dX11_trees_17 rfl (lv_at hl 2 rfl) ?_
  refine lv_iload_n hx hb dX11_trees_18 rfl (lv_at hl 3 rfl) ?_
  obtain ⟨_, ⟨q_43, q_44, q_45, rfl, kq_43, kq_44, kq_45⟩, o_c_42⟩ := hH (g.2.2 8) _ kq_35
  refine va_calli (va_runV (As := [.int a0, .int a1, .int a2]) (rest := [.ref h0]) ⟨hx, hb, hml, hown, hts⟩ (c_X0_bindTree l g Ty G H.size (g.2.2 8) a0 a1 a2 kq_35) (cwV 3 hts (gwV mw_774 mw_775 mw_776 mw_82 mw_777) rfl rfl rfl hv_X0_bindTree ⟨Nat.le_of_ble_eq_true rfl, Nat.le_of_ble_eq_true rfl⟩) ⟨PcT_blind, hg_recv hK o_c_42 rfl, PcT_pre hK hH⟩ rfl rfl hl.1 rfl (lv_room (Nat.le_of_ble_eq_true rfl)) dX11_trees_19 ⟨Nat.le_of_ble_eq_true rfl, Nat.le_of_ble_eq_true rfl⟩) hS (fun q _ h => AF.mono hS.1 h) (fun q h => AF.mono hS.1 h) (fun x_46 ux_46 t H locs ht hvm hx_46 hB hz hk hS => ?_)
  have hH : HT g Ty G H := by rw [← ht]; rw [hx_46] at hB; exact hB
  obtain ⟨_, ⟨q_62, rfl, kq_48, kq_49, kq_50, kq_51, kq_52, kq_53, kq_54, kq_55, kq_56, kq_57, kq_58, kq_59, kq_60, kq_61⟩, o_c_47⟩ := hH h0 _ k_h0
  have hLx_63 := hS.1
  refine va_calli (va_runV (As := [.int x_46]) (rest := []) ⟨hx, hb, hml, hown, hts⟩ (c_X11_toldWithCame l g Ty G H.size h0 x_46 k_h0) (cwV 1 hts (gwV mw_738 mw_740 mw_15 mw_76 mw_741) rfl rfl rfl hv_X11_toldWithCame ⟨Nat.le_of_ble_eq_true rfl, Nat.le_of_ble_eq_true rfl⟩) ⟨PcT_blind, hg_recv hK o_c_47 rfl, PcT_pre hK hH⟩ rfl rfl hl.1 rfl (lv_room (Nat.le_of_ble_eq_true rfl)) dX11_trees_22 ⟨Nat.le_of_ble_eq_true rfl, Nat.le_of_ble_eq_true rfl⟩) hS (fun q _ h => AF.mono hS.1 h) (fun q h => AF.mono hS.1 h) (fun x_63 ux_63 t H locs ht hvm hx_63 hB hz hk hS => ?_)
  obtain ⟨eTx_63, eGx_63⟩ := hx_63
  obtain ⟨T_64, eT_64⟩ : ∃ z, z = ux_63.1 := ⟨_, rfl⟩
  rw [← eT_64] at eTx_63
  have k_65 := eTx_63.1 _ _ k_h0
  have hE_66 : Ext s.heap.size Ty T_64 := Ext.le hLx_63 eTx_63
  have hH : HT g T_64 G H := by rw [← ht, eT_64, ← eGx_63]; exact hB
  exact W.iret hx hb hr (fun t ht hWm => ⟨⟨x_63, (T_64, G), rfl, ⟨hE_66, rfl⟩, by show HT g T_64 G t.heap; rw [ht]; exact hH⟩, hS.F ht⟩) hS.2.2 dX11_trees_25

set_option maxHeartbeats 4000000 in
set_option maxRecDepth 100000 in
theorem c_X11_makes (l : Launch) (g : Gx) (Ty : TyM) (G : Gh) (sz : Nat) (h0 : Nat) (a0 : Int32) (a1 : Int32) (k_h0 : Ty h0 = some (21, 0)) : Met l yX11_makes (wsG yX11_makes cX11_makes 3 (some .int)) ({ frames := 6, cells := 4, slots := 79, locals := 132 }) (PcT g Ty G sz [.ref h0, .int a0, .int a1]) (QwI g Ty sz (fun r u => Ext sz Ty u.1 ∧ u.2 = G)) 4 79 (AF Ty sz) := by
  refine Met.ofW (cc := cX11_makes) (maxL := 3) (ret := (some .int)) (by decide) rfl ?_
  intro p e s m args below meth c s₁ B hml hv
  obtain ⟨rfl, hsz, hK, hH⟩ := hv
  subst hsz
  have hx := B.exec
  have hb := B.bytes
  have hr := B.returns
  have hts := atoms_spec (ws := (wsG yX11_makes cX11_makes 3 (some .int))) B.pre
  have hG : ∀ w ∈ GW, w.before ([.ref h0, .int a0, .int a1] : List Value).toArray s = true := fun w h => hts w (List.mem_cons_of_mem _ h)
  have hown : s.vm.findClass RX11 = some m.cls := findClass_of_methodNamed B.named
  have hlocks := B.notSynchronized
  have hl := lv_entry [.ref h0, .int a0, .int a1] (n := 3) (Nat.le_of_ble_eq_true rfl)
  rw [lg_entry_eq]
  generalize (lg_sl [.ref h0, .int a0, .int a1] ++ List.replicate (3 - (lg_sl [.ref h0, .int a0, .int a1]).length) Slot.unset).toArray = ls at hl ⊢
  have hl : lv_has ls 3 [(0, .ref h0), (1, .int a0), (2, .int a1)] := hl
  have hS : va_S (AF Ty s.heap.size) s.heap s.heap [] := va_S.rf
  refine lv_aload_n hx hb dX11_makes_0 rfl (lv_at hl 0 rfl) ?_
  obtain ⟨_, ⟨q_16, rfl, kq_2, kq_3, kq_4, kq_5, kq_6, kq_7, kq_8, kq_9, kq_10, kq_11, kq_12, kq_13, kq_14, kq_15⟩, o_c_1⟩ := hH h0 _ k_h0
  refine hg_get hx hb hG igX11 hown hK o_c_1 rfl 1 (by decide) (hG _ mw_358) rfl dX11_makes_1 ?_
  refine lv_aload_n hx hb dX11_makes_4 rfl (lv_at hl 0 rfl) ?_
  refine hg_get hx hb hG igX11 hown hK o_c_1 rfl 0 (by decide) (hG _ mw_357) rfl dX11_makes_5 ?_
  obtain ⟨_, ⟨q_18, q_19, q_20, q_21, q_22, q_23, q_24, rfl, kq_18, kq_19, kq_20⟩, o_c_17⟩ := hH (g.2.2 1) _ kq_3
  refine va_callv (va_runV (As := [.ref (g.2.2 0)]) (rest := []) ⟨hx, hb, hml, hown, hts⟩ (c_X10_take l g Ty G s.heap.size (g.2.2 1) (g.2.2 0) kq_3 kq_2) (cwV 1 hts (gwV mw_628 mw_629 mw_630 mw_77 mw_631) rfl rfl rfl hv_X10_take ⟨Nat.le_of_ble_eq_true rfl, Nat.le_of_ble_eq_true rfl⟩) ⟨PcT_blind, hg_recv hK o_c_17 rfl, PcT_pre hK hH⟩ rfl rfl hl.1 rfl (lv_room (Nat.le_of_ble_eq_true rfl)) dX11_makes_8 ⟨Nat.le_of_ble_eq_true rfl, Nat.le_of_ble_eq_true rfl⟩) hS (fun q _ h => AF.mono hS.1 h) (fun q h => AF.mono hS.1 h) (fun ux_25 t H locs ht hvm hx_25 hB hz hk hS => ?_)
  have hH : HT g Ty G H := by rw [← ht]; rw [hx_25] at hB; exact hB
  refine lv_aload_n hx hb dX11_makes_11 rfl (lv_at hl 0 rfl) ?_
  refine lv_aload_n hx hb dX11_makes_12 rfl (lv_at hl 0 rfl) ?_
  obtain ⟨_, ⟨q_41, rfl, kq_27, kq_28, kq_29, kq_30, kq_31, kq_32, kq_33, kq_34, kq_35, kq_36, kq_37, kq_38, kq_39, kq_40⟩, o_c_26⟩ := hH h0 _ k_h0
  refine hg_get hx hb hG igX11 hown hK o_c_26 rfl 8 (by decide) (hG _ mw_365) rfl dX11_makes_13 ?_
  refine lv_iload_n hx hb dX11_makes_16 rfl (lv_at hl 1 rfl) ?_
  refine lv_iload_n hx hb dX11_makes_17 rfl (lv_at hl 2 rfl) ?_
  obtain ⟨_, ⟨q_43, q_44, q_45, rfl, kq_43, kq_44, kq_45⟩, o_c_42⟩ := hH (g.2.2 8) _ kq_35
  refine va_calli (va_runV (As := [.int a0, .int a1]) (rest := [.ref h0]) ⟨hx, hb, hml, hown, hts⟩ (c_X0_makeKind l g Ty G H.size (g.2.2 8) a0 a1 kq_35) (cwV 2 hts (gwV mw_792 mw_793 mw_794 mw_82 mw_795) rfl rfl rfl hv_X0_makeKind ⟨Nat.le_of_ble_eq_true rfl, Nat.le_of_ble_eq_true rfl⟩) ⟨PcT_blind, hg_recv hK o_c_42 rfl, PcT_pre hK hH⟩ rfl rfl hl.1 rfl (lv_room (Nat.le_of_ble_eq_true rfl)) dX11_makes_18 ⟨Nat.le_of_ble_eq_true rfl, Nat.le_of_ble_eq_true rfl⟩) hS (fun q _ h => AF.mono hS.1 h) (fun q h => AF.mono hS.1 h) (fun x_46 ux_46 t H locs ht hvm hx_46 hB hz hk hS => ?_)
  have hH : HT g Ty G H := by rw [← ht]; rw [hx_46] at hB; exact hB
  obtain ⟨_, ⟨q_62, rfl, kq_48, kq_49, kq_50, kq_51, kq_52, kq_53, kq_54, kq_55, kq_56, kq_57, kq_58, kq_59, kq_60, kq_61⟩, o_c_47⟩ := hH h0 _ k_h0
  have hLx_63 := hS.1
  refine va_calli (va_runV (As := [.int x_46]) (rest := []) ⟨hx, hb, hml, hown, hts⟩ (c_X11_remembered l g Ty G H.size h0 x_46 k_h0) (cwV 1 hts (gwV mw_742 mw_744 mw_16 mw_76 mw_745) rfl rfl rfl hv_X11_remembered ⟨Nat.le_of_ble_eq_true rfl, Nat.le_of_ble_eq_true rfl⟩) ⟨PcT_blind, hg_recv hK o_c_47 rfl, PcT_pre hK hH⟩ rfl rfl hl.1 rfl (lv_room (Nat.le_of_ble_eq_true rfl)) dX11_makes_21 ⟨Nat.le_of_ble_eq_true rfl, Nat.le_of_ble_eq_true rfl⟩) hS (fun q _ h => AF.mono hS.1 h) (fun q h => AF.mono hS.1 h) (fun x_63 ux_63 t H locs ht hvm hx_63 hB hz hk hS => ?_)
  obtain ⟨eTx_63, eGx_63⟩ := hx_63
  obtain ⟨T_64, eT_64⟩ : ∃ z, z = ux_63.1 := ⟨_, rfl⟩
  rw [← eT_64] at eTx_63
  have k_65 := eTx_63.1 _ _ k_h0
  have hE_66 : Ext s.heap.size Ty T_64 := Ext.le hLx_63 eTx_63
  have hH : HT g T_64 G H := by rw [← ht, eT_64, ← eGx_63]; exact hB
  exact W.iret hx hb hr (fun t ht hWm => ⟨⟨x_63, (T_64, G), rfl, ⟨hE_66, rfl⟩, by show HT g T_64 G t.heap; rw [ht]; exact hH⟩, hS.F ht⟩) hS.2.2 dX11_makes_24

set_option maxHeartbeats 4000000 in
set_option maxRecDepth 100000 in
theorem c_X11_moves (l : Launch) (g : Gx) (Ty : TyM) (G : Gh) (sz : Nat) (h0 : Nat) (a0 : Int32) (a1 : Int32) (a2 : Int32) (k_h0 : Ty h0 = some (21, 0)) : Met l yX11_moves (wsG yX11_moves cX11_moves 4 (some .int)) ({ frames := 4, cells := 4, slots := 79, locals := 75 }) (PcT g Ty G sz [.ref h0, .int a0, .int a1, .int a2]) (QwI g Ty sz (fun r u => Ext sz Ty u.1 ∧ u.2 = G)) 4 79 (AF Ty sz) := by
  refine Met.ofW (cc := cX11_moves) (maxL := 4) (ret := (some .int)) (by decide) rfl ?_
  intro p e s m args below meth c s₁ B hml hv
  obtain ⟨rfl, hsz, hK, hH⟩ := hv
  subst hsz
  have hx := B.exec
  have hb := B.bytes
  have hr := B.returns
  have hts := atoms_spec (ws := (wsG yX11_moves cX11_moves 4 (some .int))) B.pre
  have hG : ∀ w ∈ GW, w.before ([.ref h0, .int a0, .int a1, .int a2] : List Value).toArray s = true := fun w h => hts w (List.mem_cons_of_mem _ h)
  have hown : s.vm.findClass RX11 = some m.cls := findClass_of_methodNamed B.named
  have hlocks := B.notSynchronized
  have hl := lv_entry [.ref h0, .int a0, .int a1, .int a2] (n := 4) (Nat.le_of_ble_eq_true rfl)
  rw [lg_entry_eq]
  generalize (lg_sl [.ref h0, .int a0, .int a1, .int a2] ++ List.replicate (4 - (lg_sl [.ref h0, .int a0, .int a1, .int a2]).length) Slot.unset).toArray = ls at hl ⊢
  have hl : lv_has ls 4 [(0, .ref h0), (1, .int a0), (2, .int a1), (3, .int a2)] := hl
  have hS : va_S (AF Ty s.heap.size) s.heap s.heap [] := va_S.rf
  refine lv_aload_n hx hb dX11_moves_0 rfl (lv_at hl 0 rfl) ?_
  obtain ⟨_, ⟨q_16, rfl, kq_2, kq_3, kq_4, kq_5, kq_6, kq_7, kq_8, kq_9, kq_10, kq_11, kq_12, kq_13, kq_14, kq_15⟩, o_c_1⟩ := hH h0 _ k_h0
  refine hg_get hx hb hG igX11 hown hK o_c_1 rfl 1 (by decide) (hG _ mw_358) rfl dX11_moves_1 ?_
  refine lv_aload_n hx hb dX11_moves_4 rfl (lv_at hl 0 rfl) ?_
  refine hg_get hx hb hG igX11 hown hK o_c_1 rfl 0 (by decide) (hG _ mw_357) rfl dX11_moves_5 ?_
  obtain ⟨_, ⟨q_18, q_19, q_20, q_21, q_22, q_23, q_24, rfl, kq_18, kq_19, kq_20⟩, o_c_17⟩ := hH (g.2.2 1) _ kq_3
  refine va_callv (va_runV (As := [.ref (g.2.2 0)]) (rest := []) ⟨hx, hb, hml, hown, hts⟩ (c_X10_take l g Ty G s.heap.size (g.2.2 1) (g.2.2 0) kq_3 kq_2) (cwV 1 hts (gwV mw_628 mw_629 mw_630 mw_77 mw_631) rfl rfl rfl hv_X10_take ⟨Nat.le_of_ble_eq_true rfl, Nat.le_of_ble_eq_true rfl⟩) ⟨PcT_blind, hg_recv hK o_c_17 rfl, PcT_pre hK hH⟩ rfl rfl hl.1 rfl (lv_room (Nat.le_of_ble_eq_true rfl)) dX11_moves_8 ⟨Nat.le_of_ble_eq_true rfl, Nat.le_of_ble_eq_true rfl⟩) hS (fun q _ h => AF.mono hS.1 h) (fun q h => AF.mono hS.1 h) (fun ux_25 t H locs ht hvm hx_25 hB hz hk hS => ?_)
  have hH : HT g Ty G H := by rw [← ht]; rw [hx_25] at hB; exact hB
  refine lv_aload_n hx hb dX11_moves_11 rfl (lv_at hl 0 rfl) ?_
  refine lv_aload_n hx hb dX11_moves_12 rfl (lv_at hl 0 rfl) ?_
  obtain ⟨_, ⟨q_41, rfl, kq_27, kq_28, kq_29, kq_30, kq_31, kq_32, kq_33, kq_34, kq_35, kq_36, kq_37, kq_38, kq_39, kq_40⟩, o_c_26⟩ := hH h0 _ k_h0
  refine hg_get hx hb hG igX11 hown hK o_c_26 rfl 8 (by decide) (hG _ mw_365) rfl dX11_moves_13 ?_
  refine lv_iload_n hx hb dX11_moves_16 rfl (lv_at hl 1 rfl) ?_
  refine lv_iload_n hx hb dX11_moves_17 rfl (lv_at hl 2 rfl) ?_
  refine lv_iload_n hx hb dX11_moves_18 rfl (lv_at hl 3 rfl) ?_
  obtain ⟨_, ⟨q_43, q_44, q_45, rfl, kq_43, kq_44, kq_45⟩, o_c_42⟩ := hH (g.2.2 8) _ kq_35
  refine va_calli (va_runV (As := [.int a0, .int a1, .int a2]) (rest := [.ref h0]) ⟨hx, hb, hml, hown, hts⟩ (c_X0_move l g Ty G H.size (g.2.2 8) a0 a1 a2 kq_35) (cwV 3 hts (gwV mw_840 mw_841 mw_842 mw_82 mw_843) rfl rfl rfl hv_X0_move ⟨Nat.le_of_ble_eq_true rfl, Nat.le_of_ble_eq_true rfl⟩) ⟨PcT_blind, hg_recv hK o_c_42 rfl, PcT_pre hK hH⟩ rfl rfl hl.1 rfl (lv_room (Nat.le_of_ble_eq_true rfl)) dX11_moves_19 ⟨Nat.le_of_ble_eq_true rfl, Nat.le_of_ble_eq_true rfl⟩) hS (fun q _ h => AF.mono hS.1 h) (fun q h => AF.mono hS.1 h) (fun x_46 ux_46 t H locs ht hvm hx_46 hB hz hk hS => ?_)
  have hH : HT g Ty G H := by rw [← ht]; rw [hx_46] at hB; exact hB
  obtain ⟨_, ⟨q_62, rfl, kq_48, kq_49, kq_50, kq_51, kq_52, kq_53, kq_54, kq_55, kq_56, kq_57, kq_58, kq_59, kq_60, kq_61⟩, o_c_47⟩ := hH h0 _ k_h0
  have hLx_63 := hS.1
  refine va_calli (va_runV (As := [.int x_46]) (rest := []) ⟨hx, hb, hml, hown, hts⟩ (c_X11_remembered l g Ty G H.size h0 x_46 k_h0) (cwV 1 hts (gwV mw_742 mw_744 mw_16 mw_76 mw_745) rfl rfl rfl hv_X11_remembered ⟨Nat.le_of_ble_eq_true rfl, Nat.le_of_ble_eq_true rfl⟩) ⟨PcT_blind, hg_recv hK o_c_47 rfl, PcT_pre hK hH⟩ rfl rfl hl.1 rfl (lv_room (Nat.le_of_ble_eq_true rfl)) dX11_moves_22 ⟨Nat.le_of_ble_eq_true rfl, Nat.le_of_ble_eq_true rfl⟩) hS (fun q _ h => AF.mono hS.1 h) (fun q h => AF.mono hS.1 h) (fun x_63 ux_63 t H locs ht hvm hx_63 hB hz hk hS => ?_)
  obtain ⟨eTx_63, eGx_63⟩ := hx_63
  obtain ⟨T_64, eT_64⟩ : ∃ z, z = ux_63.1 := ⟨_, rfl⟩
  rw [← eT_64] at eTx_63
  have k_65 := eTx_63.1 _ _ k_h0
  have hE_66 : Ext s.heap.size Ty T_64 := Ext.le hLx_63 eTx_63
  have hH : HT g T_64 G H := by rw [← ht, eT_64, ← eGx_63]; exact hB
  exact W.iret hx hb hr (fun t ht hWm => ⟨⟨x_63, (T_64, G), rfl, ⟨hE_66, rfl⟩, by show HT g T_64 G t.heap; rw [ht]; exact hH⟩, hS.F ht⟩) hS.2.2 dX11_moves_25

set_option maxHeartbeats 4000000 in
set_option maxRecDepth 100000 in
theorem c_X11_unmounts (l : Launch) (g : Gx) (Ty : TyM) (G : Gh) (sz : Nat) (h0 : Nat) (a0 : Int32) (a1 : Int32) (k_h0 : Ty h0 = some (21, 0)) : Met l yX11_unmounts (wsG yX11_unmounts cX11_unmounts 4 (some .int)) ({ frames := 6, cells := 4, slots := 79, locals := 144 }) (PcT g Ty G sz [.ref h0, .int a0, .int a1]) (QwI g Ty sz (fun r u => Ext sz Ty u.1 ∧ u.2 = G)) 4 79 (AF Ty sz) := by
  refine Met.ofW (cc := cX11_unmounts) (maxL := 4) (ret := (some .int)) (by decide) rfl ?_
  intro p e s m args below meth c s₁ B hml hv
  obtain ⟨rfl, hsz, hK, hH⟩ := hv
  subst hsz
  have hx := B.exec
  have hb := B.bytes
  have hr := B.returns
  have hts := atoms_spec (ws := (wsG yX11_unmounts cX11_unmounts 4 (some .int))) B.pre
  have hG : ∀ w ∈ GW, w.before ([.ref h0, .int a0, .int a1] : List Value).toArray s = true := fun w h => hts w (List.mem_cons_of_mem _ h)
  have hown : s.vm.findClass RX11 = some m.cls := findClass_of_methodNamed B.named
  have hlocks := B.notSynchronized
  have hl := lv_entry [.ref h0, .int a0, .int a1] (n := 4) (Nat.le_of_ble_eq_true rfl)
  rw [lg_entry_eq]
  generalize (lg_sl [.ref h0, .int a0, .int a1] ++ List.replicate (4 - (lg_sl [.ref h0, .int a0, .int a1]).length) Slot.unset).toArray = ls at hl ⊢
  have hl : lv_has ls 4 [(0, .ref h0), (1, .int a0), (2, .int a1)] := hl
  have hS : va_S (AF Ty s.heap.size) s.heap s.heap [] := va_S.rf
  have L_54 : ∀ (H : Heap) (locs : List Loc) (Ty_54 : TyM) (y3_54 : Int32) (ls : Array Slot), Ext s.heap.size Ty Ty_54 → lv_has ls 4 [(3, .int y3_54)] → HT g Ty_54 G H → va_S (AF Ty s.heap.size) s.heap H locs → Wm p l e (wsG yX11_unmounts cX11_unmounts 4 (some .int)) ({ frames := 6, cells := 4, slots := 79, locals := 144 }) s m [.ref h0, .int a0, .int a1] below meth c H locs (4) (79) (QwI g Ty s.heap.size (fun r u => Ext s.heap.size Ty u.1 ∧ u.2 = G)) 4 79 (AF Ty s.heap.size) (F0 m 54 ls []) := by
    intro H locs Ty_54 y3_54 ls hE_54 hl hH hS
    refine lv_iload_n hx hb dX11_unmounts_54 rfl (lv_at hl 0 rfl) ?_
    exact W.iret hx hb hr (fun t ht hWm => ⟨⟨y3_54, (Ty_54, G), rfl, ⟨hE_54, rfl⟩, by show HT g Ty_54 G t.heap; rw [ht]; exact hH⟩, hS.F ht⟩) hS.2.2 dX11_unmounts_55
  refine lv_aload_n hx hb dX11_unmounts_0 rfl (lv_at hl 0 rfl) ?_
  obtain ⟨_, ⟨q_16, rfl, kq_2, kq_3, kq_4, kq_5, kq_6, kq_7, kq_8, kq_9, kq_10, kq_11, kq_12, kq_13, kq_14, kq_15⟩, o_c_1⟩ := hH h0 _ k_h0
  refine hg_get hx hb hG igX11 hown hK o_c_1 rfl 1 (by decide) (hG _ mw_358) rfl dX11_unmounts_1 ?_
  refine lv_aload_n hx hb dX11_unmounts_4 rfl (lv_at hl 0 rfl) ?_
  refine hg_get hx hb hG igX11 hown hK o_c_1 rfl 0 (by decide) (hG _ mw_357) rfl dX11_unmounts_5 ?_
  obtain ⟨_, ⟨q_18, q_19, q_20, q_21, q_22, q_23, q_24, rfl, kq_18, kq_19, kq_20⟩, o_c_17⟩ := hH (g.2.2 1) _ kq_3
  refine va_callv (va_runV (As := [.ref (g.2.2 0)]) (rest := []) ⟨hx, hb, hml, hown, hts⟩ (c_X10_take l g Ty G s.heap.size (g.2.2 1) (g.2.2 0) kq_3 kq_2) (cwV 1 hts (gwV mw_628 mw_629 mw_630 mw_77 mw_631) rfl rfl rfl hv_X10_take ⟨Nat.le_of_ble_eq_true rfl, Nat.le_of_ble_eq_true rfl⟩) ⟨PcT_blind, hg_recv hK o_c_17 rfl, PcT_pre hK hH⟩ rfl rfl hl.1 rfl (lv_room (Nat.le_of_ble_eq_true rfl)) dX11_unmounts_8 ⟨Nat.le_of_ble_eq_true rfl, Nat.le_of_ble_eq_true rfl⟩) hS (fun q _ h => AF.mono hS.1 h) (fun q h => AF.mono hS.1 h) (fun ux_25 t H locs ht hvm hx_25 hB hz hk hS => ?_)
  have hH : HT g Ty G H := by rw [← ht]; rw [hx_25] at hB; exact hB
  refine lv_aload_n hx hb dX11_unmounts_11 rfl (lv_at hl 0 rfl) ?_
  refine lv_aload_n hx hb dX11_unmounts_12 rfl (lv_at hl 0 rfl) ?_
  obtain ⟨_, ⟨q_41, rfl, kq_27, kq_28, kq_29, kq_30, kq_31, kq_32, kq_33, kq_34, kq_35, kq_36, kq_37, kq_38, kq_39, kq_40⟩, o_c_26⟩ := hH h0 _ k_h0
  refine hg_get hx hb hG igX11 hown hK o_c_26 rfl 8 (by decide) (hG _ mw_365) rfl dX11_unmounts_13 ?_
  refine lv_iload_n hx hb dX11_unmounts_16 rfl (lv_at hl 1 rfl) ?_
  refine lv_iload_n hx hb dX11_unmounts_17 rfl (lv_at hl 2 rfl) ?_
  obtain ⟨_, ⟨q_43, q_44, q_45, rfl, kq_43, kq_44, kq_45⟩, o_c_42⟩ := hH (g.2.2 8) _ kq_35
  refine va_calli (va_runV (As := [.int a0, .int a1]) (rest := [.ref h0]) ⟨hx, hb, hml, hown, hts⟩ (c_X0_unmount l g Ty G H.size (g.2.2 8) a0 a1 kq_35) (cwV 2 hts (gwV mw_823 mw_824 mw_825 mw_82 mw_826) rfl rfl rfl hv_X0_unmount ⟨Nat.le_of_ble_eq_true rfl, Nat.le_of_ble_eq_true rfl⟩) ⟨PcT_blind, hg_recv hK o_c_42 rfl, PcT_pre hK hH⟩ rfl rfl hl.1 rfl (lv_room (Nat.le_of_ble_eq_true rfl)) dX11_unmounts_18 ⟨Nat.le_of_ble_eq_true rfl, Nat.le_of_ble_eq_true rfl⟩) hS (fun q _ h => AF.mono hS.1 h) (fun q h => AF.mono hS.1 h) (fun x_46 ux_46 t H locs ht hvm hx_46 hB hz hk hS => ?_)
  have hH : HT g Ty G H := by rw [← ht]; rw [hx_46] at hB; exact hB
  obtain ⟨_, ⟨q_62, rfl, kq_48, kq_49, kq_50, kq_51, kq_52, kq_53, kq_54, kq_55, kq_56, kq_57, kq_58, kq_59, kq_60, kq_61⟩, o_c_47⟩ := hH h0 _ k_h0
  have hLx_63 := hS.1
  refine va_calli (va_runV (As := [.int x_46]) (rest := []) ⟨hx, hb, hml, hown, hts⟩ (c_X11_remembered l g Ty G H.size h0 x_46 k_h0) (cwV 1 hts (gwV mw_742 mw_744 mw_16 mw_76 mw_745) rfl rfl rfl hv_X11_remembered ⟨Nat.le_of_ble_eq_true rfl, Nat.le_of_ble_eq_true rfl⟩) ⟨PcT_blind, hg_recv hK o_c_47 rfl, PcT_pre hK hH⟩ rfl rfl hl.1 rfl (lv_room (Nat.le_of_ble_eq_true rfl)) dX11_unmounts_21 ⟨Nat.le_of_ble_eq_true rfl, Nat.le_of_ble_eq_true rfl⟩) hS (fun q _ h => AF.mono hS.1 h) (fun q h => AF.mono hS.1 h) (fun x_63 ux_63 t H locs ht hvm hx_63 hB hz hk hS => ?_)
  obtain ⟨eTx_63, eGx_63⟩ := hx_63
  obtain ⟨T_64, eT_64⟩ : ∃ z, z = ux_63.1 := ⟨_, rfl⟩
  rw [← eT_64] at eTx_63
  have k_65 := eTx_63.1 _ _ k_h0
  have hE_66 : Ext s.heap.size Ty T_64 := Ext.le hLx_63 eTx_63
  have hH : HT g T_64 G H := by rw [← ht, eT_64, ← eGx_63]; exact hB
  refine lv_istore_n (lv' := [(3, .int x_63), (0, .ref h0), (1, .int a0), (2, .int a1)]) hx hb dX11_unmounts_24 rfl hl (by decide) rfl (fun ls hl => ?_)
  refine lv_iload_n hx hb dX11_unmounts_25 rfl (lv_at hl 0 rfl) ?_
  refine lv_if_lt (tgt := 54) hx hb dX11_unmounts_26 (by decide) (fun c_67 => ?_) (fun c_67 => ?_)
  · have r_68 : rgI (-2147483648) (-1) x_63 := rg_w (rg_ltL (rg_top x_63) rl_0 c_67) (by decide) (by decide)
    exact L_54 H locs T_64 x_63 ls hE_66 (lv_sub hl [0] rfl) hH hS
  · have r_69 : rgI (0) (2147483647) x_63 := rg_w (rg_leR rl_0 (rg_top x_63) (nlt_le c_67)) (by decide) (by decide)
    refine lv_aload_n hx hb dX11_unmounts_29 rfl (lv_at hl 1 rfl) ?_
    obtain ⟨_, ⟨q_85, rfl, kq_71, kq_72, kq_73, kq_74, kq_75, kq_76, kq_77, kq_78, kq_79, kq_80, kq_81, kq_82, kq_83, kq_84⟩, o_c_70⟩ := hH h0 _ k_65
    refine hg_get hx hb hG igX11 hown hK o_c_70 rfl 5 (by decide) (hG _ mw_362) rfl dX11_unmounts_30 ?_
    refine lv_aload_n hx hb dX11_unmounts_33 rfl (lv_at hl 1 rfl) ?_
    refine hg_get hx hb hG igX11 hown hK o_c_70 rfl 1 (by decide) (hG _ mw_358) rfl dX11_unmounts_34 ?_
    obtain ⟨_, ⟨q_87, q_88, q_89, q_90, q_91, q_92, q_93, rfl, kq_87, kq_88, kq_89⟩, o_c_86⟩ := hH (g.2.2 1) _ kq_72
    refine hg_getN hx hb hG igX10 hown hK o_c_86 rfl 3 (by decide) ((hK.2.1 _ nwf_121).use rfl) rfl dX11_unmounts_37 ?_
    refine lv_aload_n hx hb dX11_unmounts_40 rfl (lv_at hl 1 rfl) ?_
    refine hg_get hx hb hG igX11 hown hK o_c_70 rfl 0 (by decide) (hG _ mw_357) rfl dX11_unmounts_41 ?_
    obtain ⟨_, ⟨q_95, q_96, q_97, q_98, q_99, q_100, q_101, rfl, kq_95, kq_96, kq_97⟩, o_c_94⟩ := hH (g.2.2 0) _ kq_71
    refine hg_getN hx hb hG igX10 hown hK o_c_94 rfl 3 (by decide) ((hK.2.1 _ nwf_121).use rfl) rfl dX11_unmounts_44 ?_
    refine lv_iconst (v := (-1)) hx hb dX11_unmounts_47 (by decide) ?_
    refine lv_ixor hx hb dX11_unmounts_48 ?_
    refine lv_topi (fun x_102 ex_102 => ?_)
    refine lv_iand hx hb dX11_unmounts_49 ?_
    refine lv_topi (fun x_103 ex_103 => ?_)
    refine lv_i2l hx hb dX11_unmounts_50 rfl ?_
    refine lv_topl (fun u_104 eu_104 => ?_)
    obtain ⟨_, ⟨q_106, q_107, rfl, kq_106, rq_107⟩, o_c_105⟩ := hH (g.2.2 5) _ kq_76
    refine va_callv (va_runV (As := [.long u_104]) (rest := []) ⟨hx, hb, hml, hown, hts⟩ (c_X7_tell l g T_64 G H.size (g.2.2 5) u_104 kq_76) (cwV 1 hts (gwV mw_583 mw_584 mw_585 mw_80 mw_586) rfl rfl rfl hv_X7_tell ⟨Nat.le_of_ble_eq_true rfl, Nat.le_of_ble_eq_true rfl⟩) ⟨PcT_blind, hg_recv hK o_c_105 rfl, PcT_pre hK hH⟩ rfl rfl hl.1 rfl (lv_room (Nat.le_of_ble_eq_true rfl)) dX11_unmounts_51 ⟨Nat.le_of_ble_eq_true rfl, Nat.le_of_ble_eq_true rfl⟩) hS (fun q _ h => AF.back hE_66 hS.1 h) (fun q h => AF.back hE_66 hS.1 h) (fun ux_108 t H locs ht hvm hx_108 hB hz hk hS => ?_)
    have hH : HT g T_64 G H := by rw [← ht]; rw [hx_108] at hB; exact hB
    exact L_54 H locs T_64 x_63 ls hE_66 (lv_sub hl [0] rfl) hH hS

set_option maxHeartbeats 4000000 in
set_option maxRecDepth 100000 in
theorem c_X11_day (l : Launch) (g : Gx) (Ty : TyM) (G : Gh) (sz : Nat) (h0 : Nat) (k_h0 : Ty h0 = some (21, 0)) : Met l yX11_day (wsG yX11_day cX11_day 5 (some .int)) ({ frames := 30, cells := 4, slots := 79, locals := 824 }) (PcT g Ty G sz [.ref h0]) (QwI g Ty sz (fun r u => Ext sz Ty u.1 ∧ TXR g G u.2)) 4 79 (AF Ty sz) := by
  refine Met.ofW (cc := cX11_day) (maxL := 5) (ret := (some .int)) (by decide) rfl ?_
  intro p e s m args below meth c s₁ B hml hv
  obtain ⟨rfl, hsz, hK, hH⟩ := hv
  subst hsz
  have hx := B.exec
  have hb := B.bytes
  have hr := B.returns
  have hts := atoms_spec (ws := (wsG yX11_day cX11_day 5 (some .int))) B.pre
  have hG : ∀ w ∈ GW, w.before ([.ref h0] : List Value).toArray s = true := fun w h => hts w (List.mem_cons_of_mem _ h)
  have hown : s.vm.findClass RX11 = some m.cls := findClass_of_methodNamed B.named
  have hlocks := B.notSynchronized
  have hl := lv_entry [.ref h0] (n := 5) (Nat.le_of_ble_eq_true rfl)
  rw [lg_entry_eq]
  generalize (lg_sl [.ref h0] ++ List.replicate (5 - (lg_sl [.ref h0]).length) Slot.unset).toArray = ls at hl ⊢
  have hl : lv_has ls 5 [(0, .ref h0)] := hl
  have hS : va_S (AF Ty s.heap.size) s.heap s.heap [] := va_S.rf
  have L_151 : ∀ (H : Heap) (locs : List Loc) (Ty_151 : TyM) (G_151 : Gh) (y2_151 : Int32) (z0_151 : Int64) (ls : Array Slot), Ext s.heap.size Ty Ty_151 → Ty_151 h0 = some (21, 0) → Ty_151 (g.2.2 5) = some (17, 0) → TXR g G G_151 → lv_has ls 5 [(0, .ref h0), (2, .int y2_151)] → HT g Ty_151 G_151 H → va_S (AF Ty s.heap.size) s.heap H locs → Wm p l e (wsG yX11_day cX11_day 5 (some .int)) ({ frames := 30, cells := 4, slots := 79, locals := 824 }) s m [.ref h0] below meth c H locs (4) (79) (QwI g Ty s.heap.size (fun r u => Ext s.heap.size Ty u.1 ∧ TXR g G u.2)) 4 79 (AF Ty s.heap.size) (F0 m 151 ls [.long z0_151, .ref (g.2.2 5)]) := by
    intro H locs Ty_151 G_151 y2_151 z0_151 ls hE_151 ky0_151 kz1_151 hi0_151 hl hH hS
    refine lv_aload_n hx hb dX11_day_151 rfl (lv_at hl 0 rfl) ?_
    obtain ⟨_, ⟨q_16, rfl, kq_2, kq_3, kq_4, kq_5, kq_6, kq_7, kq_8, kq_9, kq_10, kq_11, kq_12, kq_13, kq_14, kq_15⟩, o_c_1⟩ := hH h0 _ ky0_151
    refine hg_get hx hb hG igX11 hown hK o_c_1 rfl 0 (by decide) (hG _ mw_357) rfl dX11_day_152 ?_
    obtain ⟨_, ⟨q_18, q_19, q_20, q_21, q_22, q_23, q_24, rfl, kq_18, kq_19, kq_20⟩, o_c_17⟩ := hH (g.2.2 0) _ kq_2
    refine vp_callSi (W.runV (As := []) (rest := [.long z0_151, .ref (g.2.2 5)]) ⟨hx, hb, hml, hown, hts⟩ (c_X10_size l g Ty_151 G_151 (g.2.2 0) kq_2) (cwV 0 hts (gwV mw_901 mw_709 mw_710 mw_77 mw_711) rfl rfl rfl hv_X10_size ⟨Nat.le_of_ble_eq_true rfl, Nat.le_of_ble_eq_true rfl⟩) ⟨PcH_blind, hg_recv hK o_c_17 rfl, PcH_pre hK hH⟩ rfl rfl hl.1 rfl (lv_room (Nat.le_of_ble_eq_true rfl)) dX11_day_155 ⟨Nat.le_of_ble_eq_true rfl, Nat.le_of_ble_eq_true rfl⟩) (fun x_25 hx_25 => ?_)
    refine lv_i2l hx hb dX11_day_158 rfl ?_
    refine lv_topl (fun u_26 eu_26 => ?_)
    obtain ⟨_, ⟨q_28, q_29, rfl, kq_28, rq_29⟩, o_c_27⟩ := hH (g.2.2 5) _ kz1_151
    refine va_callv (va_runV (As := [.long z0_151, .long u_26]) (rest := []) ⟨hx, hb, hml, hown, hts⟩ (c_X7_tellTwo l g Ty_151 G_151 H.size (g.2.2 5) z0_151 u_26 kz1_151) (cwV 2 hts (gwV mw_753 mw_754 mw_755 mw_80 mw_756) rfl rfl rfl hv_X7_tellTwo ⟨Nat.le_of_ble_eq_true rfl, Nat.le_of_ble_eq_true rfl⟩) ⟨PcT_blind, hg_recv hK o_c_27 rfl, PcT_pre hK hH⟩ rfl rfl hl.1 rfl (lv_room (Nat.le_of_ble_eq_true rfl)) dX11_day_159 ⟨Nat.le_of_ble_eq_true rfl, Nat.le_of_ble_eq_true rfl⟩) hS (fun q _ h => AF.back hE_151 hS.1 h) (fun q h => AF.back hE_151 hS.1 h) (fun ux_30 t H locs ht hvm hx_30 hB hz hk hS => ?_)
    have hH : HT g Ty_151 G_151 H := by rw [← ht]; rw [hx_30] at hB; exact hB
    refine lv_iload_n hx hb dX11_day_162 rfl (lv_at hl 1 rfl) ?_
    exact W.iret hx hb hr (fun t ht hWm => ⟨⟨y2_151, (Ty_151, G_151), rfl, ⟨hE_151, hi0_151⟩, by show HT g Ty_151 G_151 t.heap; rw [ht]; exact hH⟩, hS.F ht⟩) hS.2.2 dX11_day_163
  have L_138 : ∀ (H : Heap) (locs : List Loc) (Ty_138 : TyM) (G_138 : Gh) (y2_138 : Int32) (y3_138 : Int32) (ls : Array Slot), Ext s.heap.size Ty Ty_138 → Ty_138 h0 = some (21, 0) → rgI (0) (1) y3_138 → TXR g G G_138 → lv_has ls 5 [(0, .ref h0), (2, .int y2_138), (3, .int y3_138)] → HT g Ty_138 G_138 H → va_S (AF Ty s.heap.size) s.heap H locs → Wm p l e (wsG yX11_day cX11_day 5 (some .int)) ({ frames := 30, cells := 4, slots := 79, locals := 824 }) s m [.ref h0] below meth c H locs (4) (79) (QwI g Ty s.heap.size (fun r u => Ext s.heap.size Ty u.1 ∧ TXR g G u.2)) 4 79 (AF Ty s.heap.size) (F0 m 138 ls []) := by
    intro H locs Ty_138 G_138 y2_138 y3_138 ls hE_138 ky0_138 ry3_138 hi0_138 hl hH hS
    refine lv_aload_n hx hb dX11_day_138 rfl (lv_at hl 0 rfl) ?_
    obtain ⟨_, ⟨q_46, rfl, kq_32, kq_33, kq_34, kq_35, kq_36, kq_37, kq_38, kq_39, kq_40, kq_41, kq_42, kq_43, kq_44, kq_45⟩, o_c_31⟩ := hH h0 _ ky0_138
    refine hg_get hx hb hG igX11 hown hK o_c_31 rfl 5 (by decide) (hG _ mw_362) rfl dX11_day_139 ?_
    refine lv_iload_n hx hb dX11_day_142 rfl (lv_at hl 2 rfl) ?_
    refine lv_if_eq (tgt := 150) hx hb dX11_day_143 (by decide) (fun c_47 => ?_) (fun c_47 => ?_)
    · have r_48 : rgI (0) (0) y3_138 := rg_w (rg_eq rl_0 c_47) (by decide) (by decide)
      refine lv_lconst (v := 1) hx hb dX11_day_150 (by decide) ?_
      exact L_151 H locs Ty_138 G_138 y2_138 1 ls hE_138 ky0_138 kq_37 hi0_138 (lv_sub hl [0, 1] rfl) hH hS
    · have r_49 : rgI (1) (1) y3_138 := rg_w (rg_neL ry3_138 rl_0 c_47) (by decide) (by decide)
      refine lv_lconst (v := 0) hx hb dX11_day_146 (by decide) ?_
      refine lv_goto (tgt := 151) hx hb dX11_day_147 (by decide) ?_
      exact L_151 H locs Ty_138 G_138 y2_138 0 ls hE_138 ky0_138 kq_37 hi0_138 (lv_sub hl [0, 1] rfl) hH hS
  have L_116 : ∀ (H : Heap) (locs : List Loc) (Ty_116 : TyM) (y2_116 : Int32) (y3_116 : Int32) (ls : Array Slot), Ext s.heap.size Ty Ty_116 → Ty_116 h0 = some (21, 0) → rgI (0) (1) y3_116 → lv_has ls 5 [(0, .ref h0), (2, .int y2_116), (3, .int y3_116)] → HT g Ty_116 G H → va_S (AF Ty s.heap.size) s.heap H locs → Wm p l e (wsG yX11_day cX11_day 5 (some .int)) ({ frames := 30, cells := 4, slots := 79, locals := 824 }) s m [.ref h0] below meth c H locs (0) (0) (QwI g Ty s.heap.size (fun r u => Ext s.heap.size Ty u.1 ∧ TXR g G u.2)) 4 79 (AF Ty s.heap.size) (F0 m 116 ls []) := by
    intro H locs Ty_116 y2_116 y3_116 ls hE_116 ky0_116 ry3_116 hl hH hS
    refine lv_aload_n hx hb dX11_day_116 rfl (lv_at hl 0 rfl) ?_
    obtain ⟨_, ⟨q_65, rfl, kq_51, kq_52, kq_53, kq_54, kq_55, kq_56, kq_57, kq_58, kq_59, kq_60, kq_61, kq_62, kq_63, kq_64⟩, o_c_50⟩ := hH h0 _ ky0_116
    refine hg_get hx hb hG igX11 hown hK o_c_50 rfl 4 (by decide) (hG _ mw_361) rfl dX11_day_117 ?_
    obtain ⟨_, ⟨q_67, rfl, kq_67, rq_68, t_69⟩, o_c_66⟩ := hH (g.2.2 4) _ kq_55
    refine va_callv (va_runV (As := []) (rest := []) ⟨hx, hb, hml, hown, hts⟩ (c_X9_clear l g Ty_116 G H.size (g.2.2 4) kq_55) (cwV 0 hts (gwV mw_556 mw_557 mw_558 mw_79 mw_559) rfl rfl rfl hv_X9_clear ⟨Nat.le_of_ble_eq_true rfl, Nat.le_of_ble_eq_true rfl⟩) ⟨PcT_blind, hg_recv hK o_c_66 rfl, PcT_pre hK hH⟩ rfl rfl hl.1 rfl (lv_room (Nat.le_of_ble_eq_true rfl)) dX11_day_120 ⟨Nat.le_of_ble_eq_true rfl, Nat.le_of_ble_eq_true rfl⟩) hS (fun q _ h => AF.back hE_116 hS.1 h) (fun q h => AF.back hE_116 hS.1 h) (fun ux_70 t H locs ht hvm hx_70 hB hz hk hS => ?_)
    obtain ⟨eTx_70, eGx_70⟩ := hx_70
    obtain ⟨G_71, eG_71⟩ : ∃ z, z = ux_70.2 := ⟨_, rfl⟩
    rw [← eG_71] at eGx_70
    have hH : HT g Ty_116 G_71 H := by rw [← ht, ← eTx_70, eG_71]; exact hB
    refine lv_iload_n hx hb dX11_day_123 rfl (lv_at hl 1 rfl) ?_
    refine lv_if_le (tgt := 138) hx hb dX11_day_124 (by decide) (fun c_72 => ?_) (fun c_72 => ?_)
    · have r_73 : rgI (-2147483648) (0) y2_116 := rg_w (rg_leL (rg_top y2_116) rl_0 c_72) (by decide) (by decide)
      refine W.widen (k := 4) (n := 79) (by decide) (by decide) ?_
      exact L_138 H locs Ty_116 G_71 y2_116 y3_116 ls hE_116 ky0_116 ry3_116 (TXR.of RLx.rf eGx_70) (lv_sub hl [0, 1, 2] rfl) hH hS
    · have r_74 : rgI (1) (2147483647) y2_116 := rg_w (rg_ltR rl_0 (rg_top y2_116) (nle_lt c_72)) (by decide) (by decide)
      refine lv_aload_n hx hb dX11_day_127 rfl (lv_at hl 0 rfl) ?_
      obtain ⟨_, ⟨q_90, rfl, kq_76, kq_77, kq_78, kq_79, kq_80, kq_81, kq_82, kq_83, kq_84, kq_85, kq_86, kq_87, kq_88, kq_89⟩, o_c_75⟩ := hH h0 _ ky0_116
      refine hg_get hx hb hG igX11 hown hK o_c_75 rfl 2 (by decide) (hG _ mw_359) rfl dX11_day_128 ?_
      refine lv_aload_n hx hb dX11_day_131 rfl (lv_at hl 0 rfl) ?_
      refine hg_get hx hb hG igX11 hown hK o_c_75 rfl 1 (by decide) (hG _ mw_358) rfl dX11_day_132 ?_
      obtain ⟨_, ⟨q_92, q_93, q_94, rfl, kq_92⟩, o_c_91⟩ := hH (g.2.2 2) _ kq_78
      have hLx_95 := hS.1
      refine va_callv (va_runV (As := [.ref (g.2.2 1)]) (rest := []) ⟨hx, hb, hml, hown, hts⟩ (c_X4_push l g Ty_116 G_71 H.size (g.2.2 2) (g.2.2 1) kq_78 kq_77) (cwV 1 hts (gwV mw_746 mw_747 mw_748 mw_78 mw_749) rfl rfl rfl hv_X4_push ⟨Nat.le_of_ble_eq_true rfl, Nat.le_of_ble_eq_true rfl⟩) ⟨PcT_blind, hg_recv hK o_c_91 rfl, PcT_pre hK hH⟩ rfl rfl hl.1 rfl (lv_room (Nat.le_of_ble_eq_true rfl)) dX11_day_135 ⟨Nat.le_of_ble_eq_true rfl, Nat.le_of_ble_eq_true rfl⟩) hS (fun q _ h => AF.back hE_116 hS.1 h) (fun q h => AF.back hE_116 hS.1 h) (fun ux_95 t H locs ht hvm hx_95 hB hz hk hS => ?_)
      obtain ⟨eTx_95, eGx_95⟩ := hx_95
      obtain ⟨T_96, eT_96⟩ : ∃ z, z = ux_95.1 := ⟨_, rfl⟩
      rw [← eT_96] at eTx_95
      have k_97 := eTx_95.1 _ _ ky0_116
      have hE_98 : Ext s.heap.size Ty T_96 := Ext.tr hE_116 hLx_95 eTx_95
      have hH : HT g T_96 G_71 H := by rw [← ht, eT_96, ← eGx_95]; exact hB
      exact L_138 H locs T_96 G_71 y2_116 y3_116 ls hE_98 k_97 ry3_116 (TXR.of RLx.rf eGx_70) (lv_sub hl [0, 1, 2] rfl) hH hS
  have L_53 : ∀ (n : Nat) (H : Heap) (locs : List Loc) (Ty_53 : TyM) (y2_53 : Int32) (y3_53 : Int32) (y4_53 : Int32) (ls : Array Slot), Ext s.heap.size Ty Ty_53 → Ty_53 h0 = some (21, 0) → rgI (0) (1) y3_53 → rgI (0) (72) y4_53 → (72 - (y4_53).toInt).toNat < n → lv_has ls 5 [(0, .ref h0), (2, .int y2_53), (3, .int y3_53), (4, .int y4_53)] → HT g Ty_53 G H → va_S (AF Ty s.heap.size) s.heap H locs → Wm p l e (wsG yX11_day cX11_day 5 (some .int)) ({ frames := 30, cells := 4, slots := 79, locals := 824 }) s m [.ref h0] below meth c H locs (0) (0) (QwI g Ty s.heap.size (fun r u => Ext s.heap.size Ty u.1 ∧ TXR g G u.2)) 4 79 (AF Ty s.heap.size) (F0 m 53 ls []) := by
    intro n
    induction n with
    | zero => intro H locs Ty_53 y2_53 y3_53 y4_53 ls hE_53 ky0_53 ry3_53 ry4_53 hm; exact absurd hm (Nat.not_lt_zero _)
    | succ n ih_53 =>
      intro H locs Ty_53 y2_53 y3_53 y4_53 ls hE_53 ky0_53 ry3_53 ry4_53 hm_53 hl hH hS
      have L_108 : ∀ (H : Heap) (locs : List Loc) (Ty_108 : TyM) (y3_108 : Int32) (z0_108 : Int32) (ls : Array Slot), Ext s.heap.size Ty Ty_108 → Ty_108 h0 = some (21, 0) → rgI (0) (1) y3_108 → rgI (0) (71) y4_53 → rgI (0) (1) z0_108 → lv_has ls 5 [(0, .ref h0), (3, .int y3_108), (4, .int y4_53)] → HT g Ty_108 G H → va_S (AF Ty s.heap.size) s.heap H locs → Wm p l e (wsG yX11_day cX11_day 5 (some .int)) ({ frames := 30, cells := 4, slots := 79, locals := 824 }) s m [.ref h0] below meth c H locs (0) (0) (QwI g Ty s.heap.size (fun r u => Ext s.heap.size Ty u.1 ∧ TXR g G u.2)) 4 79 (AF Ty s.heap.size) (F0 m 108 ls [.int z0_108, .int y2_53]) := by
        intro H locs Ty_108 y3_108 z0_108 ls hE_108 ky0_108 ry3_108 ry4_108 rz0_108 hl hH hS
        refine lv_iadd hx hb dX11_day_108 ?_
        refine lv_topi (fun x_99 ex_99 => ?_)
        refine lv_istore_n (lv' := [(2, .int x_99), (0, .ref h0), (3, .int y3_108), (4, .int y4_53)]) hx hb dX11_day_109 rfl hl (by decide) rfl (fun ls hl => ?_)
        obtain ⟨x_100, ex_100⟩ : ∃ y : Int32, y = y4_53 + 1 := ⟨_, rfl⟩
        have rx_100 : rgI (1) (72) x_100 := by rw [ex_100]; exact rg_w (rg_add ry4_108 rl_1 (by decide) (by decide)) (by decide) (by decide)
        have qx_100 : x_100.toInt = (y4_53 : Int32).toInt + 1 := by rw [ex_100]; exact rg_addE ry4_108 rl_1 (by decide) (by decide)
        refine lv_iinc (v := x_100) (lv' := [(4, .int x_100), (2, .int x_99), (0, .ref h0), (3, .int y3_108)]) hx hb dX11_day_110 hl (k := 3) rfl (by rw [ex_100]; rfl) (by decide) rfl (fun ls hl => ?_)
        refine lv_goto (tgt := 53) hx hb dX11_day_113 (by decide) ?_
        exact ih_53 H locs Ty_108 x_99 y3_108 x_100 ls hE_108 ky0_108 ry3_108 (rg_w rx_100 (by decide) (by decide)) (by have h1 := qx_100; have h2 := ry4_108.1; have h3 := ry4_108.2; have h4 := hm_53; omega) (lv_sub hl [2, 1, 3, 0] rfl) hH hS
      have L_97 : ∀ (H : Heap) (locs : List Loc) (Ty_97 : TyM) (z0_97 : Int32) (ls : Array Slot), Ext s.heap.size Ty Ty_97 → Ty_97 h0 = some (21, 0) → rgI (0) (71) y4_53 → rgI (0) (1) z0_97 → lv_has ls 5 [(0, .ref h0), (2, .int y2_53), (4, .int y4_53)] → HT g Ty_97 G H → va_S (AF Ty s.heap.size) s.heap H locs → Wm p l e (wsG yX11_day cX11_day 5 (some .int)) ({ frames := 30, cells := 4, slots := 79, locals := 824 }) s m [.ref h0] below meth c H locs (0) (0) (QwI g Ty s.heap.size (fun r u => Ext s.heap.size Ty u.1 ∧ TXR g G u.2)) 4 79 (AF Ty s.heap.size) (F0 m 97 ls [.int z0_97]) := by
        intro H locs Ty_97 z0_97 ls hE_97 ky0_97 ry4_97 rz0_97 hl hH hS
        refine lv_istore_n (lv' := [(3, .int z0_97), (0, .ref h0), (2, .int y2_53), (4, .int y4_53)]) hx hb dX11_day_97 rfl hl (by decide) rfl (fun ls hl => ?_)
        refine lv_iload_n hx hb dX11_day_98 rfl (lv_at hl 2 rfl) ?_
        refine lv_iload_n hx hb dX11_day_99 rfl (lv_at hl 0 rfl) ?_
        refine lv_if_eq (tgt := 107) hx hb dX11_day_100 (by decide) (fun c_101 => ?_) (fun c_101 => ?_)
        · have r_102 : rgI (0) (0) z0_97 := rg_w (rg_eq rl_0 c_101) (by decide) (by decide)
          refine lv_iconst (v := 0) hx hb dX11_day_107 (by decide) ?_
          exact L_108 H locs Ty_97 z0_97 0 ls hE_97 ky0_97 (rg_w r_102 (by decide) (by decide)) ry4_97 (rg_w rl_0 (by decide) (by decide)) (lv_sub hl [1, 0, 3] rfl) hH hS
        · have r_103 : rgI (1) (1) z0_97 := rg_w (rg_neL rz0_97 rl_0 c_101) (by decide) (by decide)
          refine lv_iconst (v := 1) hx hb dX11_day_103 (by decide) ?_
          refine lv_goto (tgt := 108) hx hb dX11_day_104 (by decide) ?_
          exact L_108 H locs Ty_97 z0_97 1 ls hE_97 ky0_97 (rg_w r_103 (by decide) (by decide)) ry4_97 (rg_w rl_1 (by decide) (by decide)) (lv_sub hl [1, 0, 3] rfl) hH hS
      refine lv_iload hx hb dX11_day_53 (lv_at hl 3 rfl) ?_
      refine lv_bipush (v := 72) hx hb dX11_day_55 (by decide) ?_
      refine lv_icmp_ge (tgt := 116) hx hb dX11_day_57 (by decide) (fun c_104 => ?_) (fun c_104 => ?_)
      · have r_105 : rgI (72) (72) y4_53 := rg_w (rg_leR rl_72 ry4_53 c_104) (by decide) (by decide)
        exact L_116 H locs Ty_53 y2_53 y3_53 ls hE_53 ky0_53 ry3_53 (lv_sub hl [0, 1, 2] rfl) hH hS
      · have r_106 : rgI (0) (71) y4_53 := rg_w (rg_ltL ry4_53 rl_72 (nle_lt c_104)) (by decide) (by decide)
        refine lv_iload_n hx hb dX11_day_60 rfl (lv_at hl 2 rfl) ?_
        refine lv_if_eq (tgt := 116) hx hb dX11_day_61 (by decide) (fun c_107 => ?_) (fun c_107 => ?_)
        · have r_108 : rgI (0) (0) y3_53 := rg_w (rg_eq rl_0 c_107) (by decide) (by decide)
          exact L_116 H locs Ty_53 y2_53 y3_53 ls hE_53 ky0_53 (rg_w r_108 (by decide) (by decide)) (lv_sub hl [0, 1, 2] rfl) hH hS
        · have r_109 : rgI (1) (1) y3_53 := rg_w (rg_neL ry3_53 rl_0 c_107) (by decide) (by decide)
          refine lv_aload_n hx hb dX11_day_64 rfl (lv_at hl 0 rfl) ?_
          obtain ⟨_, ⟨q_125, rfl, kq_111, kq_112, kq_113, kq_114, kq_115, kq_116, kq_117, kq_118, kq_119, kq_120, kq_121, kq_122, kq_123, kq_124⟩, o_c_110⟩ := hH h0 _ ky0_53
          refine hg_get hx hb hG igX11 hown hK o_c_110 rfl 10 (by decide) (hG _ mw_367) rfl dX11_day_65 ?_
          refine lv_aload_n hx hb dX11_day_68 rfl (lv_at hl 0 rfl) ?_
          refine hg_get hx hb hG igX11 hown hK o_c_110 rfl 4 (by decide) (hG _ mw_361) rfl dX11_day_69 ?_
          obtain ⟨_, ⟨q_127, q_128, q_129, q_130, q_131, rfl, kq_127, kq_128, kq_129⟩, o_c_126⟩ := hH (g.2.2 10) _ kq_121
          refine vp_callSi (W.runV (As := [.ref (g.2.2 4)]) (rest := []) ⟨hx, hb, hml, hown, hts⟩ (c_X2_hasMore l g Ty_53 G (g.2.2 10) (g.2.2 4) kq_121 kq_115) (cwV 1 hts (gwV mw_881 mw_882 mw_883 mw_84 mw_884) rfl rfl rfl hv_X2_hasMore ⟨Nat.le_of_ble_eq_true rfl, Nat.le_of_ble_eq_true rfl⟩) ⟨PcH_blind, hg_recv hK o_c_126 rfl, PcH_pre hK hH⟩ rfl rfl hl.1 rfl (lv_room (Nat.le_of_ble_eq_true rfl)) dX11_day_72 ⟨Nat.le_of_ble_eq_true rfl, Nat.le_of_ble_eq_true rfl⟩) (fun x_132 hx_132 => ?_)
          have rx_132 : rgI (0) (1) x_132 := hx_132
          refine lv_if_eq (tgt := 116) hx hb dX11_day_75 (by decide) (fun c_133 => ?_) (fun c_133 => ?_)
          · have r_134 : rgI (0) (0) x_132 := rg_w (rg_eq rl_0 c_133) (by decide) (by decide)
            exact L_116 H locs Ty_53 y2_53 y3_53 ls hE_53 ky0_53 (rg_w r_109 (by decide) (by decide)) (lv_sub hl [0, 1, 2] rfl) hH hS
          · have r_135 : rgI (1) (1) x_132 := rg_w (rg_neL rx_132 rl_0 c_133) (by decide) (by decide)
            refine lv_aload_n hx hb dX11_day_78 rfl (lv_at hl 0 rfl) ?_
            refine hg_get hx hb hG igX11 hown hK o_c_110 rfl 10 (by decide) (hG _ mw_367) rfl dX11_day_79 ?_
            refine lv_aload_n hx hb dX11_day_82 rfl (lv_at hl 0 rfl) ?_
            refine hg_get hx hb hG igX11 hown hK o_c_110 rfl 4 (by decide) (hG _ mw_361) rfl dX11_day_83 ?_
            refine va_calli (va_runV (As := [.ref (g.2.2 4)]) (rest := []) ⟨hx, hb, hml, hown, hts⟩ (c_X2_doNext l g Ty_53 G H.size (g.2.2 10) (g.2.2 4) kq_121 kq_115) (cwV 1 hts (gwV mw_885 mw_886 mw_887 mw_84 mw_888) rfl rfl rfl hv_X2_doNext ⟨Nat.le_of_ble_eq_true rfl, Nat.le_of_ble_eq_true rfl⟩) ⟨PcT_blind, hg_recv hK o_c_126 rfl, PcT_pre hK hH⟩ rfl rfl hl.1 rfl (lv_room (Nat.le_of_ble_eq_true rfl)) dX11_day_86 ⟨Nat.le_of_ble_eq_true rfl, Nat.le_of_ble_eq_true rfl⟩) hS (fun q _ h => AF.back hE_53 hS.1 h) (fun q h => AF.back hE_53 hS.1 h) (fun x_136 ux_136 t H locs ht hvm hx_136 hB hz hk hS => ?_)
            have hH : HT g Ty_53 G H := by rw [← ht]; rw [hx_136] at hB; exact hB
            refine lv_if_lt (tgt := 96) hx hb dX11_day_89 (by decide) (fun c_137 => ?_) (fun c_137 => ?_)
            · have r_138 : rgI (-2147483648) (-1) x_136 := rg_w (rg_ltL (rg_top x_136) rl_0 c_137) (by decide) (by decide)
              refine lv_iconst (v := 0) hx hb dX11_day_96 (by decide) ?_
              exact L_97 H locs Ty_53 0 ls hE_53 ky0_53 r_106 (rg_w rl_0 (by decide) (by decide)) (lv_sub hl [0, 1, 3] rfl) hH hS
            · have r_139 : rgI (0) (2147483647) x_136 := rg_w (rg_leR rl_0 (rg_top x_136) (nlt_le c_137)) (by decide) (by decide)
              refine lv_iconst (v := 1) hx hb dX11_day_92 (by decide) ?_
              refine lv_goto (tgt := 97) hx hb dX11_day_93 (by decide) ?_
              exact L_97 H locs Ty_53 1 ls hE_53 ky0_53 r_106 (rg_w rl_1 (by decide) (by decide)) (lv_sub hl [0, 1, 3] rfl) hH hS
  refine lv_aload_n hx hb dX11_day_0 rfl (lv_at hl 0 rfl) ?_
  obtain ⟨_, ⟨q_155, rfl, kq_141, kq_142, kq_143, kq_144, kq_145, kq_146, kq_147, kq_148, kq_149, kq_150, kq_151, kq_152, kq_153, kq_154⟩, o_c_140⟩ := hH h0 _ k_h0
  refine hg_get hx hb hG igX11 hown hK o_c_140 rfl 10 (by decide) (hG _ mw_367) rfl dX11_day_1 ?_
  refine lv_aload_n hx hb dX11_day_4 rfl (lv_at hl 0 rfl) ?_
  refine hg_get hx hb hG igX11 hown hK o_c_140 rfl 4 (by decide) (hG _ mw_361) rfl dX11_day_5 ?_
  obtain ⟨_, ⟨q_157, q_158, q_159, q_160, q_161, rfl, kq_157, kq_158, kq_159⟩, o_c_156⟩ := hH (g.2.2 10) _ kq_151
  refine va_calli (va_runV (As := [.ref (g.2.2 4)]) (rest := []) ⟨hx, hb, hml, hown, hts⟩ (c_X2_read l g Ty G s.heap.size (g.2.2 10) (g.2.2 4) kq_151 kq_145) (cwV 1 hts (gwV mw_860 mw_861 mw_862 mw_84 mw_863) rfl rfl rfl hv_X2_read ⟨Nat.le_of_ble_eq_true rfl, Nat.le_of_ble_eq_true rfl⟩) ⟨PcT_blind, hg_recv hK o_c_156 rfl, PcT_pre hK hH⟩ rfl rfl hl.1 rfl (lv_room (Nat.le_of_ble_eq_true rfl)) dX11_day_8 ⟨Nat.le_of_ble_eq_true rfl, Nat.le_of_ble_eq_true rfl⟩) hS (fun q _ h => AF.mono hS.1 h) (fun q h => AF.mono hS.1 h) (fun x_162 ux_162 t H locs ht hvm hx_162 hB hz hk hS => ?_)
  have hH : HT g Ty G H := by rw [← ht]; rw [hx_162] at hB; exact hB
  refine lv_istore_n (lv' := [(1, .int x_162), (0, .ref h0)]) hx hb dX11_day_11 rfl hl (by decide) rfl (fun ls hl => ?_)
  refine lv_iload_n hx hb dX11_day_12 rfl (lv_at hl 0 rfl) ?_
  refine lv_iconst (v := (-1)) hx hb dX11_day_13 (by decide) ?_
  refine lv_icmp_eq (tgt := 28) hx hb dX11_day_14 (by decide) (fun c_163 => ?_) (fun c_163 => ?_)
  · have r_164 : rgI (-1) (-1) x_162 := rg_w (rg_eq rl_m1 c_163) (by decide) (by decide)
    refine lv_aload_n hx hb dX11_day_28 rfl (lv_at hl 1 rfl) ?_
    obtain ⟨_, ⟨q_180, rfl, kq_166, kq_167, kq_168, kq_169, kq_170, kq_171, kq_172, kq_173, kq_174, kq_175, kq_176, kq_177, kq_178, kq_179⟩, o_c_165⟩ := hH h0 _ k_h0
    refine hg_get hx hb hG igX11 hown hK o_c_165 rfl 1 (by decide) (hG _ mw_358) rfl dX11_day_29 ?_
    refine lv_aload_n hx hb dX11_day_32 rfl (lv_at hl 1 rfl) ?_
    refine hg_get hx hb hG igX11 hown hK o_c_165 rfl 0 (by decide) (hG _ mw_357) rfl dX11_day_33 ?_
    obtain ⟨_, ⟨q_182, q_183, q_184, q_185, q_186, q_187, q_188, rfl, kq_182, kq_183, kq_184⟩, o_c_181⟩ := hH (g.2.2 1) _ kq_167
    refine va_callv (va_runV (As := [.ref (g.2.2 0)]) (rest := []) ⟨hx, hb, hml, hown, hts⟩ (c_X10_take l g Ty G H.size (g.2.2 1) (g.2.2 0) kq_167 kq_166) (cwV 1 hts (gwV mw_628 mw_629 mw_630 mw_77 mw_631) rfl rfl rfl hv_X10_take ⟨Nat.le_of_ble_eq_true rfl, Nat.le_of_ble_eq_true rfl⟩) ⟨PcT_blind, hg_recv hK o_c_181 rfl, PcT_pre hK hH⟩ rfl rfl hl.1 rfl (lv_room (Nat.le_of_ble_eq_true rfl)) dX11_day_36 ⟨Nat.le_of_ble_eq_true rfl, Nat.le_of_ble_eq_true rfl⟩) hS (fun q _ h => AF.mono hS.1 h) (fun q h => AF.mono hS.1 h) (fun ux_189 t H locs ht hvm hx_189 hB hz hk hS => ?_)
    have hH : HT g Ty G H := by rw [← ht]; rw [hx_189] at hB; exact hB
    refine lv_iconst (v := 0) hx hb dX11_day_39 (by decide) ?_
    refine lv_istore_n (lv' := [(2, .int 0), (1, .int x_162), (0, .ref h0)]) hx hb dX11_day_40 rfl hl (by decide) rfl (fun ls hl => ?_)
    refine lv_iconst (v := 1) hx hb dX11_day_41 (by decide) ?_
    refine lv_istore_n (lv' := [(3, .int 1), (2, .int 0), (1, .int x_162), (0, .ref h0)]) hx hb dX11_day_42 rfl hl (by decide) rfl (fun ls hl => ?_)
    refine lv_aload_n hx hb dX11_day_43 rfl (lv_at hl 3 rfl) ?_
    obtain ⟨_, ⟨q_205, rfl, kq_191, kq_192, kq_193, kq_194, kq_195, kq_196, kq_197, kq_198, kq_199, kq_200, kq_201, kq_202, kq_203, kq_204⟩, o_c_190⟩ := hH h0 _ k_h0
    refine hg_get hx hb hG igX11 hown hK o_c_190 rfl 10 (by decide) (hG _ mw_367) rfl dX11_day_44 ?_
    obtain ⟨_, ⟨q_207, q_208, q_209, q_210, q_211, rfl, kq_207, kq_208, kq_209⟩, o_c_206⟩ := hH (g.2.2 10) _ kq_201
    refine va_callv (va_runV (As := []) (rest := []) ⟨hx, hb, hml, hown, hts⟩ (c_X2_begin l g Ty G H.size (g.2.2 10) kq_201) (cwV 0 hts (gwV mw_877 mw_878 mw_879 mw_84 mw_880) rfl rfl rfl hv_X2_begin ⟨Nat.le_of_ble_eq_true rfl, Nat.le_of_ble_eq_true rfl⟩) ⟨PcT_blind, hg_recv hK o_c_206 rfl, PcT_pre hK hH⟩ rfl rfl hl.1 rfl (lv_room (Nat.le_of_ble_eq_true rfl)) dX11_day_47 ⟨Nat.le_of_ble_eq_true rfl, Nat.le_of_ble_eq_true rfl⟩) hS (fun q _ h => AF.mono hS.1 h) (fun q h => AF.mono hS.1 h) (fun ux_212 t H locs ht hvm hx_212 hB hz hk hS => ?_)
    have hH : HT g Ty G H := by rw [← ht]; rw [hx_212] at hB; exact hB
    refine lv_iconst (v := 0) hx hb dX11_day_50 (by decide) ?_
    refine lv_istore (lv' := [(4, .int 0), (3, .int 1), (2, .int 0), (1, .int x_162), (0, .ref h0)]) hx hb dX11_day_51 hl (by decide) rfl (fun ls hl => ?_)
    exact L_53 _ H locs Ty 0 1 0 ls Ext.rf k_h0 (rg_w rl_1 (by decide) (by decide)) (rg_w rl_0 (by decide) (by decide)) (Nat.lt_succ_self _) (lv_sub hl [4, 2, 1, 0] rfl) hH hS
  · refine lv_aload_n hx hb dX11_day_17 rfl (lv_at hl 1 rfl) ?_
    obtain ⟨_, ⟨q_228, rfl, kq_214, kq_215, kq_216, kq_217, kq_218, kq_219, kq_220, kq_221, kq_222, kq_223, kq_224, kq_225, kq_226, kq_227⟩, o_c_213⟩ := hH h0 _ k_h0
    refine hg_get hx hb hG igX11 hown hK o_c_213 rfl 4 (by decide) (hG _ mw_361) rfl dX11_day_18 ?_
    obtain ⟨_, ⟨q_230, rfl, kq_230, rq_231, t_232⟩, o_c_229⟩ := hH (g.2.2 4) _ kq_218
    refine va_callv (va_runV (As := []) (rest := []) ⟨hx, hb, hml, hown, hts⟩ (c_X9_clear l g Ty G H.size (g.2.2 4) kq_218) (cwV 0 hts (gwV mw_556 mw_557 mw_558 mw_79 mw_559) rfl rfl rfl hv_X9_clear ⟨Nat.le_of_ble_eq_true rfl, Nat.le_of_ble_eq_true rfl⟩) ⟨PcT_blind, hg_recv hK o_c_229 rfl, PcT_pre hK hH⟩ rfl rfl hl.1 rfl (lv_room (Nat.le_of_ble_eq_true rfl)) dX11_day_21 ⟨Nat.le_of_ble_eq_true rfl, Nat.le_of_ble_eq_true rfl⟩) hS (fun q _ h => AF.mono hS.1 h) (fun q h => AF.mono hS.1 h) (fun ux_233 t H locs ht hvm hx_233 hB hz hk hS => ?_)
    obtain ⟨eTx_233, eGx_233⟩ := hx_233
    obtain ⟨G_234, eG_234⟩ : ∃ z, z = ux_233.2 := ⟨_, rfl⟩
    rw [← eG_234] at eGx_233
    have hH : HT g Ty G_234 H := by rw [← ht, ← eTx_233, eG_234]; exact hB
    refine lv_iconst (v := (-1)) hx hb dX11_day_24 (by decide) ?_
    refine lv_iload_n hx hb dX11_day_25 rfl (lv_at hl 0 rfl) ?_
    refine lv_isub hx hb dX11_day_26 ?_
    refine lv_topi (fun x_235 ex_235 => ?_)
    refine W.widen (k := 4) (n := 79) (by decide) (by decide) ?_
    exact W.iret hx hb hr (fun t ht hWm => ⟨⟨x_235, (Ty, G_234), rfl, ⟨Ext.rf, TXR.of RLx.rf eGx_233⟩, by show HT g Ty G_234 t.heap; rw [ht]; exact hH⟩, hS.F ht⟩) hS.2.2 dX11_day_27

set_option maxHeartbeats 4000000 in
set_option maxRecDepth 100000 in
theorem c_X11_keep (l : Launch) (g : Gx) (Ty : TyM) (G : Gh) (sz : Nat) (h0 : Nat) (a0 : Int32) (k_h0 : Ty h0 = some (21, 0)) : Met l yX11_keep (wsG yX11_keep cX11_keep 2 (some .boolean)) ({ frames := 2, cells := 4, slots := 79, locals := 33 }) (PcT g Ty G sz [.ref h0, .int a0]) (QwI g Ty sz (fun r u => (rgI (0) (1) r) ∧ Ext sz Ty u.1 ∧ KeepR G u.2 r a0)) 4 79 (AF Ty sz) := by
  refine Met.ofW (cc := cX11_keep) (maxL := 2) (ret := (some .boolean)) (by decide) rfl ?_
  intro p e s m args below meth c s₁ B hml hv
  obtain ⟨rfl, hsz, hK, hH⟩ := hv
  subst hsz
  have hx := B.exec
  have hb := B.bytes
  have hr := B.returns
  have hts := atoms_spec (ws := (wsG yX11_keep cX11_keep 2 (some .boolean))) B.pre
  have hG : ∀ w ∈ GW, w.before ([.ref h0, .int a0] : List Value).toArray s = true := fun w h => hts w (List.mem_cons_of_mem _ h)
  have hown : s.vm.findClass RX11 = some m.cls := findClass_of_methodNamed B.named
  have hlocks := B.notSynchronized
  have hl := lv_entry [.ref h0, .int a0] (n := 2) (Nat.le_of_ble_eq_true rfl)
  rw [lg_entry_eq]
  generalize (lg_sl [.ref h0, .int a0] ++ List.replicate (2 - (lg_sl [.ref h0, .int a0]).length) Slot.unset).toArray = ls at hl ⊢
  have hl : lv_has ls 2 [(0, .ref h0), (1, .int a0)] := hl
  have hS : va_S (AF Ty s.heap.size) s.heap s.heap [] := va_S.rf
  refine lv_iload_n hx hb dX11_keep_0 rfl (lv_at hl 1 rfl) ?_
  refine lv_if_lt (tgt := 9) hx hb dX11_keep_1 (by decide) (fun c_1 => ?_) (fun c_1 => ?_)
  · have r_2 : rgI (-2147483648) (-1) a0 := rg_w (rg_ltL (rg_top a0) rl_0 c_1) (by decide) (by decide)
    refine lv_iconst (v := 0) hx hb dX11_keep_9 (by decide) ?_
    refine W.widen (k := 4) (n := 79) (by decide) (by decide) ?_
    exact W.zret hx hb hr rfl (fun t ht hWm => ⟨⟨0, (Ty, G), rfl, ⟨rg_w rl_0 (by decide) (by decide), ⟨Ext.rf, Or.inl ⟨rfl, Or.inl c_1, rfl⟩⟩⟩, by show HT g Ty G t.heap; rw [ht]; exact hH⟩, hS.F ht⟩) hS.2.2 dX11_keep_10
  · have r_3 : rgI (0) (2147483647) a0 := rg_w (rg_leR rl_0 (rg_top a0) (nlt_le c_1)) (by decide) (by decide)
    refine lv_iload_n hx hb dX11_keep_4 rfl (lv_at hl 1 rfl) ?_
    refine lv_iconst (v := 2) hx hb dX11_keep_5 (by decide) ?_
    refine lv_icmp_lt (tgt := 11) hx hb dX11_keep_6 (by decide) (fun c_4 => ?_) (fun c_4 => ?_)
    · have r_5 : rgI (0) (1) a0 := rg_w (rg_ltL r_3 rl_2 c_4) (by decide) (by decide)
      refine lv_aload_n hx hb dX11_keep_11 rfl (lv_at hl 0 rfl) ?_
      obtain ⟨_, ⟨q_21, rfl, kq_7, kq_8, kq_9, kq_10, kq_11, kq_12, kq_13, kq_14, kq_15, kq_16, kq_17, kq_18, kq_19, kq_20⟩, o_c_6⟩ := hH h0 _ k_h0
      refine hg_get hx hb hG igX11 hown hK o_c_6 rfl 3 (by decide) (hG _ mw_360) rfl dX11_keep_12 ?_
      refine lv_iload_n hx hb dX11_keep_15 rfl (lv_at hl 1 rfl) ?_
      obtain ⟨_, ⟨f_23, rfl, qf_23, t_24, t_25, t_26⟩, o_c_22⟩ := hH (g.2.2 3) _ kq_10
      refine hg_aald hx hb hK o_c_22 (rg_in (n := 2) r_5 (by decide) (by decide)) dX11_keep_16 ?_
      obtain ⟨w_27, ew_27⟩ : ∃ z, z = f_23 (a0 : Int32).toNatClampNeg := ⟨_, rfl⟩
      rw [← ew_27]
      rcases w_27 with _ | y_29
      · refine lv_ifnonnullN hx hb dX11_keep_17 ?_
        refine lv_aload_n hx hb dX11_keep_20 rfl (lv_at hl 0 rfl) ?_
        refine hg_get hx hb hG igX11 hown hK o_c_6 rfl 3 (by decide) (hG _ mw_360) rfl dX11_keep_21 ?_
        refine lv_iload_n hx hb dX11_keep_24 rfl (lv_at hl 1 rfl) ?_
        obtain ⟨qn_30, eqn_30⟩ : ∃ z, z = s.heap.size := ⟨_, rfl⟩
        have nqn_30 : Ty qn_30 = none := hH.free (by rw [eqn_30]; exact Nat.le_refl _)
        have gqn_30 : s.heap.size ≤ qn_30 := by rw [eqn_30]; exact hS.1
        refine hg_newQ (ci := 10) (fs := [.null, .null, .null, .int 0, .int 0, .int 0, .int 0]) (C := RX10) (T := TX10) (N := 7) hx hb hG igX10 tyX10 tyX10_ok hown (hG _ mw_109) (hG _ mw_110) (hG _ mw_77) hK hS rfl (fun j hj => by rcases (show j = 0 ∨ j = 1 ∨ j = 2 ∨ j = 3 ∨ j = 4 ∨ j = 5 ∨ j = 6 by omega) with rfl | rfl | rfl | rfl | rfl | rfl | rfl <;> rfl) (Nat.le_of_ble_eq_true rfl) (Nat.le_of_ble_eq_true rfl) dX11_keep_25 eqn_30 (fun H oqn_30 zqn_30 pqn_30 hS => ?_)
        have hH : HT g Ty G H := hH.more pqn_30
        have o_c_6 := o_c_6.kept (pqn_30 _ o_c_6.lt)
        have o_c_22 := o_c_22.kept (pqn_30 _ o_c_22.lt)
        refine lv_dup hx hb dX11_keep_28 rfl ?_
        have gzqn_30 : qn_30 < H.size := oqn_30.lt
        have gsqn_30 := hS.1
        obtain ⟨T_31, eT_31⟩ : ∃ z, z = tree4 Ty qn_30 H.size := ⟨_, rfl⟩
        have eTqn_30 : Ext s.heap.size Ty T_31 := by rw [eT_31]; exact tree4_ext hH nqn_30 gqn_30 gsqn_30
        have kqqn_30 : T_31 qn_30 = some (20, 0) := by rw [eT_31]; exact tree4_q
        refine va_callv (va_runI (As := []) (rest := [.ref qn_30, .int a0, .ref (g.2.2 3)]) ⟨hx, hb, hml, hown, hts⟩ (c_X10_init l g Ty G H.size qn_30 nqn_30) (cwI 0 hts (gwC mw_113) rfl rfl rfl (hG _ mw_77) (hG _ mw_111) (hG _ mw_112) rfl hd_X10_init ⟨Nat.le_of_ble_eq_true rfl, Nat.le_of_ble_eq_true rfl⟩) ⟨PcC_blind, PcC_pre hK hH oqn_30⟩ rfl rfl hl.1 rfl (lv_room (Nat.le_of_ble_eq_true rfl)) dX11_keep_29 ⟨Nat.le_of_ble_eq_true rfl, Nat.le_of_ble_eq_true rfl⟩) hS (fun q _ h => Or.inr (by rcases h with h | h <;> omega)) (fun q h => Or.inr (by rcases h with h | h <;> omega)) (fun _ t H locs ht hvm _ hB hz hk hS => ?_)
        have hH : HT g T_31 G H := by rw [eT_31, ← ht]; exact hB.1
        have o_c_6 := o_c_6.kept (hk _ o_c_6.lt (fun h => by rcases h with h | h; exact ne_none k_h0 nqn_30 h; exact absurd o_c_6.lt (by omega)))
        have k_32 := eTqn_30.1 _ _ k_h0
        have o_c_22 := o_c_22.kept (hk _ o_c_22.lt (fun h => by rcases h with h | h; exact ne_none kq_10 nqn_30 h; exact absurd o_c_22.lt (by omega)))
        have k_33 := eTqn_30.1 _ _ kq_10
        have q_34 : ∀ j t, f_23 j = some t → T_31 t = some (20, 0) := fun j t h => eTqn_30.1 _ _ (qf_23 j t h)
        have k_35 := eTqn_30.1 _ _ k_h0
        have k_36 := eTqn_30.1 _ _ kq_10
        have k_37 := eTqn_30.1 _ _ kq_7
        have k_38 := eTqn_30.1 _ _ kq_8
        have k_39 := eTqn_30.1 _ _ kq_9
        have k_40 := eTqn_30.1 _ _ kq_11
        have k_41 := eTqn_30.1 _ _ kq_12
        have k_42 := eTqn_30.1 _ _ kq_13
        have k_43 := eTqn_30.1 _ _ kq_14
        have k_44 := eTqn_30.1 _ _ kq_15
        have k_45 := eTqn_30.1 _ _ kq_16
        have k_46 := eTqn_30.1 _ _ kq_17
        have k_47 := eTqn_30.1 _ _ kq_18
        have k_48 := eTqn_30.1 _ _ kq_19
        have k_49 := eTqn_30.1 _ _ kq_20
        have hE_50 : Ext s.heap.size Ty T_31 := eTqn_30
        obtain ⟨_, ⟨q_52, q_53, q_54, q_55, q_56, q_57, q_58, rfl, kq_52, kq_53, kq_54⟩, o_c_51⟩ := hH qn_30 _ kqqn_30
        refine hg_aast hx hb hK hS o_c_22 (AF.ofE hE_50 k_33) o_c_51 (rg_in (n := 2) r_5 (by decide) (by decide)) dX11_keep_32 (fun H locs o_c_22 hz oq hS => ?_)
        generalize hff_59 : va_up f_23 _ _ = f_59 at o_c_22
        have qf_59 : ∀ j t, f_59 j = some t → T_31 t = some (20, 0) := by rw [← hff_59]; exact up_all q_34 kqqn_30
        obtain ⟨G_60, eG_60⟩ : ∃ z : Gh, z = gset (gset G 3 (oB (f_59 0))) 4 (oB (f_59 1)) := ⟨_, rfl⟩
        have hH : HT g T_31 G_60 H := by rw [eG_60]; exact HT.putK hH k_33 o_c_22 qf_59 t_24 oq
        clear oq hz
        have t_61 : oB (f_59 0) = G_60.1 3 := by rw [eG_60, gs_ne (by decide), gs_eq]
        have t_62 : oB (f_59 1) = G_60.1 4 := by rw [eG_60, gs_eq]
        have knf_59 : f_59 (a0 : Int32).toNatClampNeg = some qn_30 := by rw [← hff_59]; exact va_upS
        refine lv_aload_n hx hb dX11_keep_33 rfl (lv_at hl 0 rfl) ?_
        obtain ⟨_, ⟨q_78, rfl, kq_64, kq_65, kq_66, kq_67, kq_68, kq_69, kq_70, kq_71, kq_72, kq_73, kq_74, kq_75, kq_76, kq_77⟩, o_c_63⟩ := hH h0 _ k_35
        refine hg_get hx hb hG igX11 hown hK o_c_63 rfl 3 (by decide) (hG _ mw_360) rfl dX11_keep_34 ?_
        refine lv_iload_n hx hb dX11_keep_37 rfl (lv_at hl 1 rfl) ?_
        refine hg_aald hx hb hK o_c_22 (rg_in (n := 2) r_5 (by decide) (by decide)) dX11_keep_38 ?_
        rw [show va_rf (f_59 (a0 : Int32).toNatClampNeg) = Value.ref qn_30 by rw [knf_59]; rfl]
        refine lv_aload_n hx hb dX11_keep_39 rfl (lv_at hl 0 rfl) ?_
        refine hg_get hx hb hG igX11 hown hK o_c_63 rfl 0 (by decide) (hG _ mw_357) rfl dX11_keep_40 ?_
        obtain ⟨_, ⟨q_80, q_81, q_82, q_83, q_84, q_85, q_86, rfl, kq_80, kq_81, kq_82⟩, o_c_79⟩ := hH qn_30 _ (qf_59 _ _ knf_59)
        refine va_callv (va_runV (As := [.ref (g.2.2 0)]) (rest := []) ⟨hx, hb, hml, hown, hts⟩ (c_X10_take l g T_31 G_60 H.size qn_30 (g.2.2 0) (qf_59 _ _ knf_59) kq_64) (cwV 1 hts (gwV mw_628 mw_629 mw_630 mw_77 mw_631) rfl rfl rfl hv_X10_take ⟨Nat.le_of_ble_eq_true rfl, Nat.le_of_ble_eq_true rfl⟩) ⟨PcT_blind, hg_recv hK o_c_79 rfl, PcT_pre hK hH⟩ rfl rfl hl.1 rfl (lv_room (Nat.le_of_ble_eq_true rfl)) dX11_keep_43 ⟨Nat.le_of_ble_eq_true rfl, Nat.le_of_ble_eq_true rfl⟩) hS (fun q _ h => AF.back hE_50 hS.1 h) (fun q h => AF.back hE_50 hS.1 h) (fun ux_87 t H locs ht hvm hx_87 hB hz hk hS => ?_)
        have hH : HT g T_31 G_60 H := by rw [← ht]; rw [hx_87] at hB; exact hB
        refine lv_iconst (v := 1) hx hb dX11_keep_46 (by decide) ?_
        exact W.zret hx hb hr rfl (fun t ht hWm => ⟨⟨1, (T_31, G_60), rfl, ⟨rg_w rl_1 (by decide) (by decide), ⟨hE_50, Or.inr ⟨rfl, keep_new eG_60 hff_59 r_5 t_25 t_26⟩⟩⟩, by show HT g T_31 G_60 t.heap; rw [ht]; exact hH⟩, hS.F ht⟩) hS.2.2 dX11_keep_47
      · refine lv_ifnonnull (tgt := 33) hx hb dX11_keep_17 (by decide) ?_
        refine lv_aload_n hx hb dX11_keep_33 rfl (lv_at hl 0 rfl) ?_
        refine hg_get hx hb hG igX11 hown hK o_c_6 rfl 3 (by decide) (hG _ mw_360) rfl dX11_keep_34 ?_
        refine lv_iload_n hx hb dX11_keep_37 rfl (lv_at hl 1 rfl) ?_
        refine hg_aald hx hb hK o_c_22 (rg_in (n := 2) r_5 (by decide) (by decide)) dX11_keep_38 ?_
        rw [show va_rf (f_23 (a0 : Int32).toNatClampNeg) = Value.ref y_29 by rw [ew_27.symm]; rfl]
        refine lv_aload_n hx hb dX11_keep_39 rfl (lv_at hl 0 rfl) ?_
        refine hg_get hx hb hG igX11 hown hK o_c_6 rfl 0 (by decide) (hG _ mw_357) rfl dX11_keep_40 ?_
        obtain ⟨_, ⟨q_89, q_90, q_91, q_92, q_93, q_94, q_95, rfl, kq_89, kq_90, kq_91⟩, o_c_88⟩ := hH y_29 _ (qf_23 _ _ ew_27.symm)
        refine va_callv (va_runV (As := [.ref (g.2.2 0)]) (rest := []) ⟨hx, hb, hml, hown, hts⟩ (c_X10_take l g Ty G s.heap.size y_29 (g.2.2 0) (qf_23 _ _ ew_27.symm) kq_7) (cwV 1 hts (gwV mw_628 mw_629 mw_630 mw_77 mw_631) rfl rfl rfl hv_X10_take ⟨Nat.le_of_ble_eq_true rfl, Nat.le_of_ble_eq_true rfl⟩) ⟨PcT_blind, hg_recv hK o_c_88 rfl, PcT_pre hK hH⟩ rfl rfl hl.1 rfl (lv_room (Nat.le_of_ble_eq_true rfl)) dX11_keep_43 ⟨Nat.le_of_ble_eq_true rfl, Nat.le_of_ble_eq_true rfl⟩) hS (fun q _ h => AF.mono hS.1 h) (fun q h => AF.mono hS.1 h) (fun ux_96 t H locs ht hvm hx_96 hB hz hk hS => ?_)
        have hH : HT g Ty G H := by rw [← ht]; rw [hx_96] at hB; exact hB
        refine lv_iconst (v := 1) hx hb dX11_keep_46 (by decide) ?_
        refine W.widen (k := 4) (n := 79) (by decide) (by decide) ?_
        exact W.zret hx hb hr rfl (fun t ht hWm => ⟨⟨1, (Ty, G), rfl, ⟨rg_w rl_1 (by decide) (by decide), ⟨Ext.rf, Or.inr ⟨rfl, keep_old (kp_some r_5 ew_27.symm t_25 t_26)⟩⟩⟩, by show HT g Ty G t.heap; rw [ht]; exact hH⟩, hS.F ht⟩) hS.2.2 dX11_keep_47
    · have r_97 : rgI (2) (2147483647) a0 := rg_w (rg_leR rl_2 r_3 (nlt_le c_4)) (by decide) (by decide)
      refine lv_iconst (v := 0) hx hb dX11_keep_9 (by decide) ?_
      refine W.widen (k := 4) (n := 79) (by decide) (by decide) ?_
      exact W.zret hx hb hr rfl (fun t ht hWm => ⟨⟨0, (Ty, G), rfl, ⟨rg_w rl_0 (by decide) (by decide), ⟨Ext.rf, Or.inl ⟨rfl, Or.inr (nlt_le c_4), rfl⟩⟩⟩, by show HT g Ty G t.heap; rw [ht]; exact hH⟩, hS.F ht⟩) hS.2.2 dX11_keep_10
