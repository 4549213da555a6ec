set_option maxHeartbeats 4000000 in
set_option maxRecDepth 100000 in
theorem c_X3_hear (l : Launch) (g : Gx) (Ty : TyM) (G : Gh) (sz : Nat) (h0 : Nat) (a0 : Int32) (a1 : Int32) (k_h0 : Ty h0 = some (13, 0)) : Met l yX3_hear (wsG yX3_hear cX3_hear 3 (some .boolean)) ({ frames := 0, cells := 0, slots := 0, locals := 0 }) (PcO g Ty G sz [.ref h0, .int a0, .int a1]) (QwI g Ty sz (fun r u => (rgI (0) (1) r) ∧ u.1 = Ty ∧ HearR G u.2 r a0 a1)) 0 0 (AF Ty sz) := by
  refine Met.ofW (cc := cX3_hear) (maxL := 3) (ret := (some .boolean)) (by decide) rfl ?_
  intro p e s m args below meth c s₁ B hml hv
  obtain ⟨rfl, hsz, hK, hH, hO⟩ := hv
  subst hsz
  have hx := B.exec
  have hb := B.bytes
  have hr := B.returns
  have hts := atoms_spec (ws := (wsG yX3_hear cX3_hear 3 (some .boolean))) B.pre
  have hG : ∀ w ∈ GW, w.before ([.ref h0, .int a0, .int a1] : List Value).toArray s = true := fun w h => hts w (List.mem_cons_of_mem _ h)
  have hown : s.vm.findClass RX3 = some m.cls := findClass_of_methodNamed B.named
  have hlocks := B.notSynchronized
  have hl := lv_entry [.ref h0, .int a0, .int a1] (n := 3) (Nat.le_of_ble_eq_true rfl)
  rw [lg_entry_eq]
  generalize (lg_sl [.ref h0, .int a0, .int a1] ++ List.replicate (3 - (lg_sl [.ref h0, .int a0, .int a1]).length) Slot.unset).toArray = ls at hl ⊢
  have hl : lv_has ls 3 [(0, .ref h0), (1, .int a0), (2, .int a1)] := hl
  have hS : va_S (AF Ty s.heap.size) s.heap s.heap [] := va_S.rf
  have h12 : rgI (0) (12) (G.1 1) := ht13 hH k_h0
  refine lv_iload_n hx hb dX3_hear_0 rfl (lv_at hl 1 rfl) ?_
  refine lv_if_lt (tgt := 34) hx hb dX3_hear_1 (by decide) (fun c_1 => ?_) (fun c_1 => ?_)
  · have r_2 : rgI (-2147483648) (-1) a0 := rg_w (rg_ltL (rg_top a0) rl_0 c_1) (by decide) (by decide)
    refine lv_iconst (v := 0) hx hb dX3_hear_34 (by decide) ?_
    exact W.zret hx hb hr rfl (fun t ht hWm => ⟨⟨0, (Ty, G), rfl, ⟨rg_w rl_0 (by decide) (by decide), ⟨rfl, Or.inl ⟨rfl, (fun h => h.1 c_1), rfl⟩⟩⟩, by show HT g Ty G t.heap; rw [ht]; exact hH⟩, hS.F ht⟩) hS.2.2 dX3_hear_35
  · have r_3 : rgI (0) (2147483647) a0 := rg_w (rg_leR rl_0 (rg_top a0) (nlt_le c_1)) (by decide) (by decide)
    refine lv_iload_n hx hb dX3_hear_4 rfl (lv_at hl 1 rfl) ?_
    refine va_gets hx hb hO.1 hS hown (hG _ mw_1014) (fun _ h => h) dX3_hear_5 ?_
    refine va_tlen (v := 5) hx hb hO.2.1 hS rfl dX3_hear_8 ?_
    refine lv_icmp_ge (tgt := 34) hx hb dX3_hear_9 (by decide) (fun c_4 => ?_) (fun c_4 => ?_)
    · have r_5 : rgI (5) (2147483647) a0 := rg_w (rg_leR rl_5 r_3 c_4) (by decide) (by decide)
      refine lv_iconst (v := 0) hx hb dX3_hear_34 (by decide) ?_
      exact W.zret hx hb hr rfl (fun t ht hWm => ⟨⟨0, (Ty, G), rfl, ⟨rg_w rl_0 (by decide) (by decide), ⟨rfl, Or.inl ⟨rfl, (fun h => h.2.1 c_4), rfl⟩⟩⟩, by show HT g Ty G t.heap; rw [ht]; exact hH⟩, hS.F ht⟩) hS.2.2 dX3_hear_35
    · have r_6 : rgI (0) (4) a0 := rg_w (rg_ltL r_3 rl_5 (nle_lt c_4)) (by decide) (by decide)
      refine lv_iload_n hx hb dX3_hear_12 rfl (lv_at hl 2 rfl) ?_
      refine lv_if_lt (tgt := 34) hx hb dX3_hear_13 (by decide) (fun c_7 => ?_) (fun c_7 => ?_)
      · have r_8 : rgI (-2147483648) (-1) a1 := rg_w (rg_ltL (rg_top a1) rl_0 c_7) (by decide) (by decide)
        refine lv_iconst (v := 0) hx hb dX3_hear_34 (by decide) ?_
        exact W.zret hx hb hr rfl (fun t ht hWm => ⟨⟨0, (Ty, G), rfl, ⟨rg_w rl_0 (by decide) (by decide), ⟨rfl, Or.inl ⟨rfl, (fun h => h.2.2.1 c_7), rfl⟩⟩⟩, by show HT g Ty G t.heap; rw [ht]; exact hH⟩, hS.F ht⟩) hS.2.2 dX3_hear_35
      · have r_9 : rgI (0) (2147483647) a1 := rg_w (rg_leR rl_0 (rg_top a1) (nlt_le c_7)) (by decide) (by decide)
        refine lv_iload_n hx hb dX3_hear_16 rfl (lv_at hl 2 rfl) ?_
        refine va_gets hx hb hO.1 hS hown (hG _ mw_1014) (fun _ h => h) dX3_hear_17 ?_
        refine lv_iload_n hx hb dX3_hear_20 rfl (lv_at hl 1 rfl) ?_
        refine va_ti hx hb hO.2.1 hS (rg_in (n := 5) r_6 (by decide) (by decide)) rfl dX3_hear_21 ?_
        refine lv_topi (fun x_10 ex_10 => ?_)
        have rx_10 : rgI (4) (9) x_10 := by rw [ex_10]; exact rg_w (mv_rng _) (by decide) (by decide)
        refine lv_icmp_gt (tgt := 34) hx hb dX3_hear_22 (by decide) (fun c_11 => ?_) (fun c_11 => ?_)
        · have r_12 : rgI (5) (2147483647) a1 := rg_w (rg_ltR rx_10 r_9 c_11) (by decide) (by decide)
          refine lv_iconst (v := 0) hx hb dX3_hear_34 (by decide) ?_
          exact W.zret hx hb hr rfl (fun t ht hWm => ⟨⟨0, (Ty, G), rfl, ⟨rg_w rl_0 (by decide) (by decide), ⟨rfl, Or.inl ⟨rfl, (fun h => h.2.2.2.1 (by rw [← ex_10]; exact c_11)), rfl⟩⟩⟩, by show HT g Ty G t.heap; rw [ht]; exact hH⟩, hS.F ht⟩) hS.2.2 dX3_hear_35
        · have r_13 : rgI (0) (9) a1 := rg_w (rg_leL r_9 rx_10 (nlt_le c_11)) (by decide) (by decide)
          refine lv_aload_n hx hb dX3_hear_25 rfl (lv_at hl 0 rfl) ?_
          obtain ⟨_, ⟨q_16, q_17, rfl, kq_15, kq_16, kq_17, kq_19, rq_18, t_21⟩, o_c_14⟩ := hH h0 _ k_h0
          refine hg_get hx hb hG igX3 hown hK o_c_14 rfl 3 (by decide) (hG _ mw_297) rfl dX3_hear_26 ?_
          refine lv_bipush (v := 12) hx hb dX3_hear_29 (by decide) ?_
          refine lv_icmp_lt (tgt := 36) hx hb dX3_hear_31 (by decide) (fun c_22 => ?_) (fun c_22 => ?_)
          · have r_23 : rgI (0) (11) (G.1 1) := rg_w (rg_ltL h12 rl_12 c_22) (by decide) (by decide)
            refine lv_aload_n hx hb dX3_hear_36 rfl (lv_at hl 0 rfl) ?_
            refine hg_get hx hb hG igX3 hown hK o_c_14 rfl 1 (by decide) (hG _ mw_295) rfl dX3_hear_37 ?_
            refine lv_aload_n hx hb dX3_hear_40 rfl (lv_at hl 0 rfl) ?_
            refine hg_get hx hb hG igX3 hown hK o_c_14 rfl 3 (by decide) (hG _ mw_297) rfl dX3_hear_41 ?_
            refine lv_iload_n hx hb dX3_hear_44 rfl (lv_at hl 1 rfl) ?_
            obtain ⟨_, ⟨f_25, rfl⟩, o_c_24⟩ := hH q_16 _ kq_16
            refine hg_iast hx hb hK hS o_c_24 (AF.of kq_16) (rg_in (n := 12) r_23 (by decide) (by decide)) dX3_hear_45 (fun H locs o_c_24 hz oq hS => ?_)
            generalize hff_26 : upd f_25 _ a0 = f_26 at o_c_24
            have hH : HT g Ty G H := hH.put kq_16 ⟨_, rfl⟩ o_c_24 oq
            have o_c_14 := o_c_14.kept (oq _ (ne_kd k_h0 kq_16 (by decide)))
            clear oq hz
            refine lv_aload_n hx hb dX3_hear_46 rfl (lv_at hl 0 rfl) ?_
            refine hg_get hx hb hG igX3 hown hK o_c_14 rfl 2 (by decide) (hG _ mw_296) rfl dX3_hear_47 ?_
            refine lv_aload_n hx hb dX3_hear_50 rfl (lv_at hl 0 rfl) ?_
            refine hg_get hx hb hG igX3 hown hK o_c_14 rfl 3 (by decide) (hG _ mw_297) rfl dX3_hear_51 ?_
            refine lv_iload_n hx hb dX3_hear_54 rfl (lv_at hl 2 rfl) ?_
            obtain ⟨_, ⟨f_28, rfl⟩, o_c_27⟩ := hH q_17 _ kq_17
            refine hg_iast hx hb hK hS o_c_27 (AF.of kq_17) (rg_in (n := 12) r_23 (by decide) (by decide)) dX3_hear_55 (fun H locs o_c_27 hz oq hS => ?_)
            generalize hff_29 : upd f_28 _ a1 = f_29 at o_c_27
            have hH : HT g Ty G H := hH.put kq_17 ⟨_, rfl⟩ o_c_27 oq
            have o_c_14 := o_c_14.kept (oq _ (ne_kd k_h0 kq_17 (by decide)))
            clear oq hz
            refine lv_aload_n hx hb dX3_hear_56 rfl (lv_at hl 0 rfl) ?_
            refine lv_dup hx hb dX3_hear_57 rfl ?_
            refine hg_get hx hb hG igX3 hown hK o_c_14 rfl 3 (by decide) (hG _ mw_297) rfl dX3_hear_58 ?_
            refine lv_iconst (v := 1) hx hb dX3_hear_61 (by decide) ?_
            refine lv_iadd hx hb dX3_hear_62 ?_
            refine lv_topi (fun x_30 ex_30 => ?_)
            have rx_30 : rgI (1) (12) x_30 := by rw [ex_30]; exact rg_w (rg_add r_23 rl_1 (by decide) (by decide)) (by decide) (by decide)
            have qx_30 : x_30.toInt = ((G.1 1) : Int32).toInt + 1 := by rw [ex_30]; exact rg_addE r_23 rl_1 (by decide) (by decide)
            refine hg_put (ty := .int) hx hb hG igX3 tyX3 tyX3_ok nmX3 hown hK hS o_c_14 (AF.of k_h0) rfl 3 (by decide) (hG _ mw_297) rfl (by decide +kernel) rfl rfl (Nat.le_of_ble_eq_true rfl) dX3_hear_63 (fun H locs o_c_14 hz oq hS => ?_)
            obtain ⟨G_31, eG_31⟩ : ∃ z : Gh, z = gset G 1 x_30 := ⟨_, rfl⟩
            have hH : HT g Ty G_31 H := by rw [eG_31]; exact HT.putN 1 x_30 hH k_h0 ⟨q_16, q_17, rfl, kq_15, kq_16, kq_17, kq_19, (rgu (rg_w rx_30 (by decide) (by decide))), t_21⟩ o_c_14 oq (Or.inr (Or.inl ⟨rfl, t_21⟩))
            have u_32 : G_31.1 1 = x_30 := by rw [eG_31]; exact gs_eq
            have o_c_27 := o_c_27.kept (oq _ (ne_kd kq_17 k_h0 (by decide)))
            clear oq hz
            refine lv_iconst (v := 1) hx hb dX3_hear_66 (by decide) ?_
            exact W.zret hx hb hr rfl (fun t ht hWm => ⟨⟨1, (Ty, G_31), rfl, ⟨rg_w rl_1 (by decide) (by decide), ⟨rfl, Or.inr ⟨rfl, ⟨c_1, c_4, c_7, (by rw [← ex_10]; exact c_11), c_22⟩, by rw [eG_31, ex_30]⟩⟩⟩, by show HT g Ty G_31 t.heap; rw [ht]; exact hH⟩, hS.F ht⟩) hS.2.2 dX3_hear_67
          · have r_33 : rgI (12) (12) (G.1 1) := rg_w (rg_leR rl_12 h12 (nlt_le c_22)) (by decide) (by decide)
            refine lv_iconst (v := 0) hx hb dX3_hear_34 (by decide) ?_
            exact W.zret hx hb hr rfl (fun t ht hWm => ⟨⟨0, (Ty, G), rfl, ⟨rg_w rl_0 (by decide) (by decide), ⟨rfl, Or.inl ⟨rfl, (fun h => c_22 h.2.2.2.2), rfl⟩⟩⟩, by show HT g Ty G t.heap; rw [ht]; exact hH⟩, hS.F ht⟩) hS.2.2 dX3_hear_35

set_option maxHeartbeats 4000000 in
set_option maxRecDepth 100000 in
theorem c_X11_sign (l : Launch) (g : Gx) (Ty : TyM) (G : Gh) (sz : Nat) (h0 : Nat) (a0 : Int32) (k_h0 : Ty h0 = some (21, 0)) : Met l yX11_sign (wsG yX11_sign cX11_sign 2 (some .int)) ({ frames := 1, cells := 0, slots := 0, locals := 22 }) (PcT g Ty G sz [.ref h0, .int a0]) (QwI g Ty sz (fun r u => u.1 = Ty ∧ SignR G u.2 r)) 0 0 (AF Ty sz) := by
  refine Met.ofW (cc := cX11_sign) (maxL := 2) (ret := (some .int)) (by decide) rfl ?_
  intro p e s m args below meth c s₁ B hml hv
  obtain ⟨rfl, hsz, hK, hH⟩ := hv
  subst hsz
  have hx := B.exec
  have hb := B.bytes
  have hr := B.returns
  have hts := atoms_spec (ws := (wsG yX11_sign cX11_sign 2 (some .int))) B.pre
  have hG : ∀ w ∈ GW, w.before ([.ref h0, .int a0] : List Value).toArray s = true := fun w h => hts w (List.mem_cons_of_mem _ h)
  have hown : s.vm.findClass RX11 = some m.cls := findClass_of_methodNamed B.named
  have hlocks := B.notSynchronized
  have hl := lv_entry [.ref h0, .int a0] (n := 2) (Nat.le_of_ble_eq_true rfl)
  rw [lg_entry_eq]
  generalize (lg_sl [.ref h0, .int a0] ++ List.replicate (2 - (lg_sl [.ref h0, .int a0]).length) Slot.unset).toArray = ls at hl ⊢
  have hl : lv_has ls 2 [(0, .ref h0), (1, .int a0)] := hl
  have hS : va_S (AF Ty s.heap.size) s.heap s.heap [] := va_S.rf
  refine lv_aload_n hx hb dX11_sign_0 rfl (lv_at hl 0 rfl) ?_
  obtain ⟨_, ⟨rfl, kq_2, kq_3, kq_4, kq_5, kq_6, kq_7, kq_8, kq_9, kq_10, kq_11, kq_12, kq_13, kq_14, kq_15, t_17⟩, o_c_1⟩ := hH h0 _ k_h0
  refine hg_get hx hb hG igX11 hown hK o_c_1 rfl 4 (by decide) (hG _ mw_361) rfl dX11_sign_1 ?_
  refine lv_iload_n hx hb dX11_sign_4 rfl (lv_at hl 1 rfl) ?_
  obtain ⟨_, ⟨q_19, rfl, kq_19, rq_20, t_21⟩, o_c_18⟩ := hH (g.2.2 4) _ kq_6
  refine va_calli (va_runV (As := [.int a0]) (rest := []) ⟨hx, hb, hml, hown, hts⟩ (c_X9_add l g Ty G s.heap.size (g.2.2 4) a0 kq_6) (cwV 1 hts (gwV mw_407 mw_408 mw_409 mw_79 mw_410) rfl rfl rfl hv_X9_add ⟨Nat.le_of_ble_eq_true rfl, Nat.le_of_ble_eq_true rfl⟩) ⟨PcT_blind, hg_recv hK o_c_18 rfl, PcT_pre hK hH⟩ rfl rfl hl.1 rfl (lv_room (Nat.le_of_ble_eq_true rfl)) dX11_sign_5 ⟨Nat.zero_le _, Nat.zero_le _⟩) hS (fun q _ h => AF.mono hS.1 h) (fun q h => AF.mono hS.1 h) (fun x_22 ux_22 t H locs ht hvm hx_22 hB hz hk hS => ?_)
  obtain ⟨hx_22, fx_22⟩ := hx_22
  obtain ⟨eTx_22, eGx_22⟩ := fx_22
  obtain ⟨G_23, eG_23⟩ : ∃ z, z = ux_22.2 := ⟨_, rfl⟩
  rw [← eG_23] at eGx_22
  have hH : HT g Ty G_23 H := by rw [← ht, ← eTx_22, eG_23]; exact hB
  have rx_22 : rgI (0) (1) x_22 := hx_22
  refine lv_if_eq (tgt := 21) hx hb dX11_sign_8 (by decide) (fun c_24 => ?_) (fun c_24 => ?_)
  · have r_25 : rgI (0) (0) x_22 := rg_w (rg_eq rl_0 c_24) (by decide) (by decide)
    refine lv_iconst (v := (-1)) hx hb dX11_sign_21 (by decide) ?_
    exact W.iret hx hb hr (fun t ht hWm => ⟨⟨(-1), (Ty, G_23), rfl, ⟨rfl, sign0 eGx_22 c_24⟩, by show HT g Ty G_23 t.heap; rw [ht]; exact hH⟩, hS.F ht⟩) hS.2.2 dX11_sign_22
  · have r_26 : rgI (1) (1) x_22 := rg_w (rg_neL rx_22 rl_0 c_24) (by decide) (by decide)
    refine lv_aload_n hx hb dX11_sign_11 rfl (lv_at hl 0 rfl) ?_
    obtain ⟨_, ⟨rfl, kq_28, kq_29, kq_30, kq_31, kq_32, kq_33, kq_34, kq_35, kq_36, kq_37, kq_38, kq_39, kq_40, kq_41, t_43⟩, o_c_27⟩ := hH h0 _ k_h0
    refine hg_get hx hb hG igX11 hown hK o_c_27 rfl 4 (by decide) (hG _ mw_361) rfl dX11_sign_12 ?_
    obtain ⟨_, ⟨q_45, rfl, kq_45, rq_46, t_47⟩, o_c_44⟩ := hH (g.2.2 4) _ kq_32
    refine hg_getN hx hb hG igX9 hown hK o_c_44 rfl 1 (by decide) ((hK.2.1 _ nwf_174).use rfl) rfl dX11_sign_15 ?_
    refine lv_goto (tgt := 22) hx hb dX11_sign_18 (by decide) ?_
    exact W.iret hx hb hr (fun t ht hWm => ⟨⟨(G_23.1 0), (Ty, G_23), rfl, ⟨rfl, sign1 eGx_22 c_24⟩, by show HT g Ty G_23 t.heap; rw [ht]; exact hH⟩, hS.F ht⟩) hS.2.2 dX11_sign_22

set_option maxHeartbeats 4000000 in
set_option maxRecDepth 100000 in
theorem c_X11_end (l : Launch) (g : Gx) (Ty : TyM) (G : Gh) (sz : Nat) (h0 : Nat) (a0 : Int32) (k_h0 : Ty h0 = some (21, 0)) : Met l yX11_end (wsG yX11_end cX11_end 2 (some .boolean)) ({ frames := 1, cells := 0, slots := 0, locals := 21 }) (PcT g Ty G sz [.ref h0, .int a0]) (QwI g Ty sz (fun r u => (rgI (0) (1) r) ∧ u.1 = Ty ∧ CutR G u.2 r a0)) 0 0 (AF Ty sz) := by
  refine Met.ofW (cc := cX11_end) (maxL := 2) (ret := (some .boolean)) (by decide) rfl ?_
  intro p e s m args below meth c s₁ B hml hv
  obtain ⟨rfl, hsz, hK, hH⟩ := hv
  subst hsz
  have hx := B.exec
  have hb := B.bytes
  have hr := B.returns
  have hts := atoms_spec (ws := (wsG yX11_end cX11_end 2 (some .boolean))) B.pre
  have hG : ∀ w ∈ GW, w.before ([.ref h0, .int a0] : List Value).toArray s = true := fun w h => hts w (List.mem_cons_of_mem _ h)
  have hown : s.vm.findClass RX11 = some m.cls := findClass_of_methodNamed B.named
  have hlocks := B.notSynchronized
  have hl := lv_entry [.ref h0, .int a0] (n := 2) (Nat.le_of_ble_eq_true rfl)
  rw [lg_entry_eq]
  generalize (lg_sl [.ref h0, .int a0] ++ List.replicate (2 - (lg_sl [.ref h0, .int a0]).length) Slot.unset).toArray = ls at hl ⊢
  have hl : lv_has ls 2 [(0, .ref h0), (1, .int a0)] := hl
  have hS : va_S (AF Ty s.heap.size) s.heap s.heap [] := va_S.rf
  refine lv_aload_n hx hb dX11_end_0 rfl (lv_at hl 0 rfl) ?_
  obtain ⟨_, ⟨rfl, kq_2, kq_3, kq_4, kq_5, kq_6, kq_7, kq_8, kq_9, kq_10, kq_11, kq_12, kq_13, kq_14, kq_15, t_17⟩, o_c_1⟩ := hH h0 _ k_h0
  refine hg_get hx hb hG igX11 hown hK o_c_1 rfl 4 (by decide) (hG _ mw_361) rfl dX11_end_1 ?_
  refine lv_iload_n hx hb dX11_end_4 rfl (lv_at hl 1 rfl) ?_
  obtain ⟨_, ⟨q_19, rfl, kq_19, rq_20, t_21⟩, o_c_18⟩ := hH (g.2.2 4) _ kq_6
  refine va_calli (va_runV (As := [.int a0]) (rest := []) ⟨hx, hb, hml, hown, hts⟩ (c_X9_cut l g Ty G s.heap.size (g.2.2 4) a0 kq_6) (cwV 1 hts (gwV mw_415 mw_416 mw_417 mw_79 mw_418) rfl rfl rfl hv_X9_cut ⟨Nat.le_of_ble_eq_true rfl, Nat.le_of_ble_eq_true rfl⟩) ⟨PcT_blind, hg_recv hK o_c_18 rfl, PcT_pre hK hH⟩ rfl rfl hl.1 rfl (lv_room (Nat.le_of_ble_eq_true rfl)) dX11_end_5 ⟨Nat.zero_le _, Nat.zero_le _⟩) hS (fun q _ h => AF.mono hS.1 h) (fun q h => AF.mono hS.1 h) (fun x_22 ux_22 t H locs ht hvm hx_22 hB hz hk hS => ?_)
  obtain ⟨hx_22, fx_22⟩ := hx_22
  obtain ⟨eTx_22, eGx_22⟩ := fx_22
  obtain ⟨G_23, eG_23⟩ : ∃ z, z = ux_22.2 := ⟨_, rfl⟩
  rw [← eG_23] at eGx_22
  have hH : HT g Ty G_23 H := by rw [← ht, ← eTx_22, eG_23]; exact hB
  have rx_22 : rgI (0) (1) x_22 := hx_22
  exact W.zret hx hb hr (nz01 rx_22) (fun t ht hWm => ⟨⟨x_22, (Ty, G_23), rfl, ⟨rg_w rx_22 (by decide) (by decide), ⟨rfl, eGx_22⟩⟩, by show HT g Ty G_23 t.heap; rw [ht]; exact hH⟩, hS.F ht⟩) hS.2.2 dX11_end_8

set_option maxHeartbeats 4000000 in
set_option maxRecDepth 100000 in
theorem c_X11_heard (l : Launch) (g : Gx) (Ty : TyM) (G : Gh) (sz : Nat) (h0 : Nat) (a0 : Int32) (a1 : Int32) (k_h0 : Ty h0 = some (21, 0)) : Met l yX11_heard (wsG yX11_heard cX11_heard 3 (some .int)) ({ frames := 1, cells := 0, slots := 0, locals := 22 }) (PcO g Ty G sz [.ref h0, .int a0, .int a1]) (QwI g Ty sz (fun r u => u.1 = Ty ∧ HeardR G u.2 r a0 a1)) 0 0 (AF Ty sz) := by
  refine Met.ofW (cc := cX11_heard) (maxL := 3) (ret := (some .int)) (by decide) rfl ?_
  intro p e s m args below meth c s₁ B hml hv
  obtain ⟨rfl, hsz, hK, hH, hO⟩ := hv
  subst hsz
  have hx := B.exec
  have hb := B.bytes
  have hr := B.returns
  have hts := atoms_spec (ws := (wsG yX11_heard cX11_heard 3 (some .int))) B.pre
  have hG : ∀ w ∈ GW, w.before ([.ref h0, .int a0, .int a1] : List Value).toArray s = true := fun w h => hts w (List.mem_cons_of_mem _ h)
  have hown : s.vm.findClass RX11 = some m.cls := findClass_of_methodNamed B.named
  have hlocks := B.notSynchronized
  have hl := lv_entry [.ref h0, .int a0, .int a1] (n := 3) (Nat.le_of_ble_eq_true rfl)
  rw [lg_entry_eq]
  generalize (lg_sl [.ref h0, .int a0, .int a1] ++ List.replicate (3 - (lg_sl [.ref h0, .int a0, .int a1]).length) Slot.unset).toArray = ls at hl ⊢
  have hl : lv_has ls 3 [(0, .ref h0), (1, .int a0), (2, .int a1)] := hl
  have hS : va_S (AF Ty s.heap.size) s.heap s.heap [] := va_S.rf
  refine lv_aload_n hx hb dX11_heard_0 rfl (lv_at hl 0 rfl) ?_
  obtain ⟨_, ⟨rfl, kq_2, kq_3, kq_4, kq_5, kq_6, kq_7, kq_8, kq_9, kq_10, kq_11, kq_12, kq_13, kq_14, kq_15, t_17⟩, o_c_1⟩ := hH h0 _ k_h0
  refine hg_get hx hb hG igX11 hown hK o_c_1 rfl 11 (by decide) (hG _ mw_368) rfl dX11_heard_1 ?_
  refine lv_iload_n hx hb dX11_heard_4 rfl (lv_at hl 1 rfl) ?_
  refine lv_iload_n hx hb dX11_heard_5 rfl (lv_at hl 2 rfl) ?_
  obtain ⟨_, ⟨q_20, q_21, rfl, kq_19, kq_20, kq_21, kq_23, rq_22, t_25⟩, o_c_18⟩ := hH (g.2.2 11) _ kq_13
  refine va_calli (va_runV (As := [.int a0, .int a1]) (rest := []) ⟨hx, hb, hml, hown, hts⟩ (c_X3_hear l g Ty G s.heap.size (g.2.2 11) a0 a1 kq_13) (cwV 2 hts (gwV mw_1010 mw_1011 mw_1012 mw_85 mw_1013) rfl rfl rfl hv_X3_hear ⟨Nat.le_of_ble_eq_true rfl, Nat.le_of_ble_eq_true rfl⟩) ⟨PcO_blind, hg_recv hK o_c_18 rfl, PcO_pre hK hH hO hS⟩ rfl rfl hl.1 rfl (lv_room (Nat.le_of_ble_eq_true rfl)) dX11_heard_6 ⟨Nat.zero_le _, Nat.zero_le _⟩) hS (fun q _ h => AF.mono hS.1 h) (fun q h => AF.mono hS.1 h) (fun x_26 ux_26 t H locs ht hvm hx_26 hB hz hk hS => ?_)
  obtain ⟨hx_26, fx_26⟩ := hx_26
  obtain ⟨eTx_26, eGx_26⟩ := fx_26
  obtain ⟨G_27, eG_27⟩ : ∃ z, z = ux_26.2 := ⟨_, rfl⟩
  rw [← eG_27] at eGx_26
  have hH : HT g Ty G_27 H := by rw [← ht, ← eTx_26, eG_27]; exact hB
  have rx_26 : rgI (0) (1) x_26 := hx_26
  refine lv_if_eq (tgt := 22) hx hb dX11_heard_9 (by decide) (fun c_28 => ?_) (fun c_28 => ?_)
  · have r_29 : rgI (0) (0) x_26 := rg_w (rg_eq rl_0 c_28) (by decide) (by decide)
    refine lv_iconst (v := (-1)) hx hb dX11_heard_22 (by decide) ?_
    exact W.iret hx hb hr (fun t ht hWm => ⟨⟨(-1), (Ty, G_27), rfl, ⟨rfl, heard0 eGx_26 c_28⟩, by show HT g Ty G_27 t.heap; rw [ht]; exact hH⟩, hS.F ht⟩) hS.2.2 dX11_heard_23
  · have r_30 : rgI (1) (1) x_26 := rg_w (rg_neL rx_26 rl_0 c_28) (by decide) (by decide)
    refine lv_aload_n hx hb dX11_heard_12 rfl (lv_at hl 0 rfl) ?_
    obtain ⟨_, ⟨rfl, kq_32, kq_33, kq_34, kq_35, kq_36, kq_37, kq_38, kq_39, kq_40, kq_41, kq_42, kq_43, kq_44, kq_45, t_47⟩, o_c_31⟩ := hH h0 _ k_h0
    refine hg_get hx hb hG igX11 hown hK o_c_31 rfl 11 (by decide) (hG _ mw_368) rfl dX11_heard_13 ?_
    obtain ⟨_, ⟨q_50, q_51, rfl, kq_49, kq_50, kq_51, kq_53, rq_52, t_55⟩, o_c_48⟩ := hH (g.2.2 11) _ kq_43
    refine hg_getN hx hb hG igX3 hown hK o_c_48 rfl 3 (by decide) ((hK.2.1 _ nwf_298).use rfl) rfl dX11_heard_16 ?_
    refine lv_goto (tgt := 23) hx hb dX11_heard_19 (by decide) ?_
    exact W.iret hx hb hr (fun t ht hWm => ⟨⟨(G_27.1 1), (Ty, G_27), rfl, ⟨rfl, heard1 eGx_26 c_28⟩, by show HT g Ty G_27 t.heap; rw [ht]; exact hH⟩, hS.F ht⟩) hS.2.2 dX11_heard_23

set_option maxHeartbeats 4000000 in
set_option maxRecDepth 100000 in
theorem c_X11_saw (l : Launch) (g : Gx) (Ty : TyM) (G : Gh) (sz : Nat) (h0 : Nat) (a0 : Int32) (a1 : Int32) (a2 : Int32) (k_h0 : Ty h0 = some (21, 0)) : Met l yX11_saw (wsG yX11_saw cX11_saw 4 (some .int)) ({ frames := 1, cells := 0, slots := 0, locals := 23 }) (PcT g Ty G sz [.ref h0, .int a0, .int a1, .int a2]) (QwI g Ty sz (fun r u => u.1 = Ty ∧ SawR g G u.2 r a0 a1 a2)) 0 0 (AF Ty sz) := by
  refine Met.ofW (cc := cX11_saw) (maxL := 4) (ret := (some .int)) (by decide) rfl ?_
  intro p e s m args below meth c s₁ B hml hv
  obtain ⟨rfl, hsz, hK, hH⟩ := hv
  subst hsz
  have hx := B.exec
  have hb := B.bytes
  have hr := B.returns
  have hts := atoms_spec (ws := (wsG yX11_saw cX11_saw 4 (some .int))) B.pre
  have hG : ∀ w ∈ GW, w.before ([.ref h0, .int a0, .int a1, .int a2] : List Value).toArray s = true := fun w h => hts w (List.mem_cons_of_mem _ h)
  have hown : s.vm.findClass RX11 = some m.cls := findClass_of_methodNamed B.named
  have hlocks := B.notSynchronized
  have hl := lv_entry [.ref h0, .int a0, .int a1, .int a2] (n := 4) (Nat.le_of_ble_eq_true rfl)
  rw [lg_entry_eq]
  generalize (lg_sl [.ref h0, .int a0, .int a1, .int a2] ++ List.replicate (4 - (lg_sl [.ref h0, .int a0, .int a1, .int a2]).length) Slot.unset).toArray = ls at hl ⊢
  have hl : lv_has ls 4 [(0, .ref h0), (1, .int a0), (2, .int a1), (3, .int a2)] := hl
  have hS : va_S (AF Ty s.heap.size) s.heap s.heap [] := va_S.rf
  refine lv_aload_n hx hb dX11_saw_0 rfl (lv_at hl 0 rfl) ?_
  obtain ⟨_, ⟨rfl, kq_2, kq_3, kq_4, kq_5, kq_6, kq_7, kq_8, kq_9, kq_10, kq_11, kq_12, kq_13, kq_14, kq_15, t_17⟩, o_c_1⟩ := hH h0 _ k_h0
  refine hg_get hx hb hG igX11 hown hK o_c_1 rfl 12 (by decide) (hG _ mw_369) rfl dX11_saw_1 ?_
  refine lv_iload_n hx hb dX11_saw_4 rfl (lv_at hl 1 rfl) ?_
  refine lv_iload_n hx hb dX11_saw_5 rfl (lv_at hl 2 rfl) ?_
  refine lv_iload_n hx hb dX11_saw_6 rfl (lv_at hl 3 rfl) ?_
  obtain ⟨_, ⟨q_19, q_20, q_21, q_23, rfl, kq_19, kq_20, kq_21, rq_22, t_24⟩, o_c_18⟩ := hH (g.2.2 12) _ kq_14
  refine va_calli (va_runV (As := [.int a0, .int a1, .int a2]) (rest := []) ⟨hx, hb, hml, hown, hts⟩ (c_X5_see l g Ty G s.heap.size (g.2.2 12) a0 a1 a2 kq_14) (cwV 3 hts (gwV mw_1061 mw_1062 mw_1063 mw_86 mw_1064) rfl rfl rfl hv_X5_see ⟨Nat.le_of_ble_eq_true rfl, Nat.le_of_ble_eq_true rfl⟩) ⟨PcT_blind, hg_recv hK o_c_18 rfl, PcT_pre hK hH⟩ rfl rfl hl.1 rfl (lv_room (Nat.le_of_ble_eq_true rfl)) dX11_saw_7 ⟨Nat.zero_le _, Nat.zero_le _⟩) hS (fun q _ h => AF.mono hS.1 h) (fun q h => AF.mono hS.1 h) (fun x_25 ux_25 t H locs ht hvm hx_25 hB hz hk hS => ?_)
  obtain ⟨hx_25, fx_25⟩ := hx_25
  obtain ⟨eTx_25, eGx_25⟩ := fx_25
  obtain ⟨G_26, eG_26⟩ : ∃ z, z = ux_25.2 := ⟨_, rfl⟩
  rw [← eG_26] at eGx_25
  have hH : HT g Ty G_26 H := by rw [← ht, ← eTx_25, eG_26]; exact hB
  have rx_25 : rgI (0) (1) x_25 := hx_25
  refine lv_if_eq (tgt := 23) hx hb dX11_saw_10 (by decide) (fun c_27 => ?_) (fun c_27 => ?_)
  · have r_28 : rgI (0) (0) x_25 := rg_w (rg_eq rl_0 c_27) (by decide) (by decide)
    refine lv_iconst (v := (-1)) hx hb dX11_saw_23 (by decide) ?_
    exact W.iret hx hb hr (fun t ht hWm => ⟨⟨(-1), (Ty, G_26), rfl, ⟨rfl, saw0 eGx_25 c_27⟩, by show HT g Ty G_26 t.heap; rw [ht]; exact hH⟩, hS.F ht⟩) hS.2.2 dX11_saw_24
  · have r_29 : rgI (1) (1) x_25 := rg_w (rg_neL rx_25 rl_0 c_27) (by decide) (by decide)
    refine lv_aload_n hx hb dX11_saw_13 rfl (lv_at hl 0 rfl) ?_
    obtain ⟨_, ⟨rfl, kq_31, kq_32, kq_33, kq_34, kq_35, kq_36, kq_37, kq_38, kq_39, kq_40, kq_41, kq_42, kq_43, kq_44, t_46⟩, o_c_30⟩ := hH h0 _ k_h0
    refine hg_get hx hb hG igX11 hown hK o_c_30 rfl 12 (by decide) (hG _ mw_369) rfl dX11_saw_14 ?_
    obtain ⟨_, ⟨q_48, q_49, q_50, q_52, rfl, kq_48, kq_49, kq_50, rq_51, t_53⟩, o_c_47⟩ := hH (g.2.2 12) _ kq_43
    refine hg_getN hx hb hG igX5 hown hK o_c_47 rfl 3 (by decide) ((hK.2.1 _ nwf_325).use rfl) rfl dX11_saw_17 ?_
    refine lv_goto (tgt := 24) hx hb dX11_saw_20 (by decide) ?_
    exact W.iret hx hb hr (fun t ht hWm => ⟨⟨(G_26.1 2), (Ty, G_26), rfl, ⟨rfl, saw1 eGx_25 c_27⟩, by show HT g Ty G_26 t.heap; rw [ht]; exact hH⟩, hS.F ht⟩) hS.2.2 dX11_saw_24

set_option maxHeartbeats 4000000 in
set_option maxRecDepth 100000 in
theorem c_X11_forget (l : Launch) (g : Gx) (Ty : TyM) (G : Gh) (sz : Nat) (h0 : Nat) (k_h0 : Ty h0 = some (21, 0)) : Met l yX11_forget (wsG yX11_forget cX11_forget 2 (some .int)) ({ frames := 0, cells := 0, slots := 0, locals := 0 }) (PcT g Ty G sz [.ref h0]) (QwI g Ty sz (fun r u => u.1 = Ty ∧ r = G.1 1 ∧ u.2 = gset G 1 0)) 0 0 (AF Ty sz) := by
  refine Met.ofW (cc := cX11_forget) (maxL := 2) (ret := (some .int)) (by decide) rfl ?_
  intro p e s m args below meth c s₁ B hml hv
  obtain ⟨rfl, hsz, hK, hH⟩ := hv
  subst hsz
  have hx := B.exec
  have hb := B.bytes
  have hr := B.returns
  have hts := atoms_spec (ws := (wsG yX11_forget cX11_forget 2 (some .int))) B.pre
  have hG : ∀ w ∈ GW, w.before ([.ref h0] : List Value).toArray s = true := fun w h => hts w (List.mem_cons_of_mem _ h)
  have hown : s.vm.findClass RX11 = some m.cls := findClass_of_methodNamed B.named
  have hlocks := B.notSynchronized
  have hl := lv_entry [.ref h0] (n := 2) (Nat.le_of_ble_eq_true rfl)
  rw [lg_entry_eq]
  generalize (lg_sl [.ref h0] ++ List.replicate (2 - (lg_sl [.ref h0]).length) Slot.unset).toArray = ls at hl ⊢
  have hl : lv_has ls 2 [(0, .ref h0)] := hl
  have hS : va_S (AF Ty s.heap.size) s.heap s.heap [] := va_S.rf
  refine lv_aload_n hx hb dX11_forget_0 rfl (lv_at hl 0 rfl) ?_
  obtain ⟨_, ⟨rfl, kq_2, kq_3, kq_4, kq_5, kq_6, kq_7, kq_8, kq_9, kq_10, kq_11, kq_12, kq_13, kq_14, kq_15, t_17⟩, o_c_1⟩ := hH h0 _ k_h0
  refine hg_get hx hb hG igX11 hown hK o_c_1 rfl 11 (by decide) (hG _ mw_368) rfl dX11_forget_1 ?_
  obtain ⟨_, ⟨q_20, q_21, rfl, kq_19, kq_20, kq_21, kq_23, rq_22, t_25⟩, o_c_18⟩ := hH (g.2.2 11) _ kq_13
  refine hg_getN hx hb hG igX3 hown hK o_c_18 rfl 3 (by decide) ((hK.2.1 _ nwf_298).use rfl) rfl dX11_forget_4 ?_
  refine lv_istore_n (lv' := [(1, .int (G.1 1)), (0, .ref h0)]) hx hb dX11_forget_7 rfl hl (by decide) rfl (fun ls hl => ?_)
  refine lv_aload_n hx hb dX11_forget_8 rfl (lv_at hl 1 rfl) ?_
  refine hg_get hx hb hG igX11 hown hK o_c_1 rfl 11 (by decide) (hG _ mw_368) rfl dX11_forget_9 ?_
  refine lv_iconst (v := 0) hx hb dX11_forget_12 (by decide) ?_
  refine hg_putN (ty := .int) hx hb hG igX3 tyX3 tyX3_ok nmX3 hown hK hS o_c_18 (AF.of kq_13) rfl 3 (by decide) ((hK.2.1 _ nwf_298).use rfl) rfl (by decide +kernel) rfl rfl (Nat.le_of_ble_eq_true rfl) dX11_forget_13 (fun H locs o_c_18 hz oq hS => ?_)
  obtain ⟨G_26, eG_26⟩ : ∃ z : Gh, z = gset G 1 0 := ⟨_, rfl⟩
  have hH : HT g Ty G_26 H := by rw [eG_26]; exact HT.putN 1 0 hH kq_13 ⟨q_20, q_21, rfl, kq_19, kq_20, kq_21, kq_23, (rgu (rg_w rl_0 (by decide) (by decide))), t_25⟩ o_c_18 oq (Or.inr (Or.inl ⟨rfl, t_25⟩))
  have u_27 : G_26.1 1 = 0 := by rw [eG_26]; exact gs_eq
  have o_c_1 := o_c_1.kept (oq _ (ne_kd k_h0 kq_13 (by decide)))
  clear oq hz
  refine lv_iload_n hx hb dX11_forget_16 rfl (lv_at hl 0 rfl) ?_
  exact W.iret hx hb hr (fun t ht hWm => ⟨⟨(G.1 1), (Ty, G_26), rfl, ⟨rfl, ⟨rfl, eG_26⟩⟩, by show HT g Ty G_26 t.heap; rw [ht]; exact hH⟩, hS.F ht⟩) hS.2.2 dX11_forget_17

set_option maxHeartbeats 4000000 in
set_option maxRecDepth 100000 in
theorem c_X11_denies (l : Launch) (g : Gx) (Ty : TyM) (G : Gh) (sz : Nat) (h0 : Nat) (k_h0 : Ty h0 = some (21, 0)) : Met l yX11_denies (wsG yX11_denies cX11_denies 2 (some .int)) ({ frames := 0, cells := 0, slots := 0, locals := 0 }) (PcT g Ty G sz [.ref h0]) (QwI g Ty sz (fun r u => u.1 = Ty ∧ r = G.1 2 ∧ u.2 = gset G 2 0)) 0 0 (AF Ty sz) := by
  refine Met.ofW (cc := cX11_denies) (maxL := 2) (ret := (some .int)) (by decide) rfl ?_
  intro p e s m args below meth c s₁ B hml hv
  obtain ⟨rfl, hsz, hK, hH⟩ := hv
  subst hsz
  have hx := B.exec
  have hb := B.bytes
  have hr := B.returns
  have hts := atoms_spec (ws := (wsG yX11_denies cX11_denies 2 (some .int))) B.pre
  have hG : ∀ w ∈ GW, w.before ([.ref h0] : List Value).toArray s = true := fun w h => hts w (List.mem_cons_of_mem _ h)
  have hown : s.vm.findClass RX11 = some m.cls := findClass_of_methodNamed B.named
  have hlocks := B.notSynchronized
  have hl := lv_entry [.ref h0] (n := 2) (Nat.le_of_ble_eq_true rfl)
  rw [lg_entry_eq]
  generalize (lg_sl [.ref h0] ++ List.replicate (2 - (lg_sl [.ref h0]).length) Slot.unset).toArray = ls at hl ⊢
  have hl : lv_has ls 2 [(0, .ref h0)] := hl
  have hS : va_S (AF Ty s.heap.size) s.heap s.heap [] := va_S.rf
  refine lv_aload_n hx hb dX11_denies_0 rfl (lv_at hl 0 rfl) ?_
  obtain ⟨_, ⟨rfl, kq_2, kq_3, kq_4, kq_5, kq_6, kq_7, kq_8, kq_9, kq_10, kq_11, kq_12, kq_13, kq_14, kq_15, t_17⟩, o_c_1⟩ := hH h0 _ k_h0
  refine hg_get hx hb hG igX11 hown hK o_c_1 rfl 12 (by decide) (hG _ mw_369) rfl dX11_denies_1 ?_
  obtain ⟨_, ⟨q_19, q_20, q_21, q_23, rfl, kq_19, kq_20, kq_21, rq_22, t_24⟩, o_c_18⟩ := hH (g.2.2 12) _ kq_14
  refine hg_getN hx hb hG igX5 hown hK o_c_18 rfl 3 (by decide) ((hK.2.1 _ nwf_325).use rfl) rfl dX11_denies_4 ?_
  refine lv_istore_n (lv' := [(1, .int (G.1 2)), (0, .ref h0)]) hx hb dX11_denies_7 rfl hl (by decide) rfl (fun ls hl => ?_)
  refine lv_aload_n hx hb dX11_denies_8 rfl (lv_at hl 1 rfl) ?_
  refine hg_get hx hb hG igX11 hown hK o_c_1 rfl 12 (by decide) (hG _ mw_369) rfl dX11_denies_9 ?_
  refine lv_iconst (v := 0) hx hb dX11_denies_12 (by decide) ?_
  refine hg_putN (ty := .int) hx hb hG igX5 tyX5 tyX5_ok nmX5 hown hK hS o_c_18 (AF.of kq_14) rfl 3 (by decide) ((hK.2.1 _ nwf_325).use rfl) rfl (by decide +kernel) rfl rfl (Nat.le_of_ble_eq_true rfl) dX11_denies_13 (fun H locs o_c_18 hz oq hS => ?_)
  obtain ⟨G_25, eG_25⟩ : ∃ z : Gh, z = gset G 2 0 := ⟨_, rfl⟩
  have hH : HT g Ty G_25 H := by rw [eG_25]; exact HT.putN 2 0 hH kq_14 ⟨q_19, q_20, q_21, q_23, rfl, kq_19, kq_20, kq_21, (rgu (rg_w rl_0 (by decide) (by decide))), t_24⟩ o_c_18 oq (Or.inr (Or.inr (Or.inl ⟨rfl, t_24.1⟩)))
  have u_26 : G_25.1 2 = 0 := by rw [eG_25]; exact gs_eq
  have o_c_1 := o_c_1.kept (oq _ (ne_kd k_h0 kq_14 (by decide)))
  clear oq hz
  refine lv_iload_n hx hb dX11_denies_16 rfl (lv_at hl 0 rfl) ?_
  exact W.iret hx hb hr (fun t ht hWm => ⟨⟨(G.1 2), (Ty, G_25), rfl, ⟨rfl, ⟨rfl, eG_25⟩⟩, by show HT g Ty G_25 t.heap; rw [ht]; exact hH⟩, hS.F ht⟩) hS.2.2 dX11_denies_17

set_option maxHeartbeats 4000000 in
set_option maxRecDepth 100000 in
theorem c_X11_keep (l : Launch) (g : Gx) (Ty : TyM) (G : Gh) (sz : Nat) (h0 : Nat) (a0 : Int32) (k_h0 : Ty h0 = some (21, 0)) : Met l yX11_keep (wsG yX11_keep cX11_keep 2 (some .boolean)) ({ frames := 2, cells := 4, slots := 79, locals := 33 }) (PcT g Ty G sz [.ref h0, .int a0]) (QwI g Ty sz (fun r u => (rgI (0) (1) r) ∧ Ext sz Ty u.1 ∧ KeepR G u.2 r a0)) 4 79 (AF Ty sz) := by
  refine Met.ofW (cc := cX11_keep) (maxL := 2) (ret := (some .boolean)) (by decide) rfl ?_
  intro p e s m args below meth c s₁ B hml hv
  obtain ⟨rfl, hsz, hK, hH⟩ := hv
  subst hsz
  have hx := B.exec
  have hb := B.bytes
  have hr := B.returns
  have hts := atoms_spec (ws := (wsG yX11_keep cX11_keep 2 (some .boolean))) B.pre
  have hG : ∀ w ∈ GW, w.before ([.ref h0, .int a0] : List Value).toArray s = true := fun w h => hts w (List.mem_cons_of_mem _ h)
  have hown : s.vm.findClass RX11 = some m.cls := findClass_of_methodNamed B.named
  have hlocks := B.notSynchronized
  have hl := lv_entry [.ref h0, .int a0] (n := 2) (Nat.le_of_ble_eq_true rfl)
  rw [lg_entry_eq]
  generalize (lg_sl [.ref h0, .int a0] ++ List.replicate (2 - (lg_sl [.ref h0, .int a0]).length) Slot.unset).toArray = ls at hl ⊢
  have hl : lv_has ls 2 [(0, .ref h0), (1, .int a0)] := hl
  have hS : va_S (AF Ty s.heap.size) s.heap s.heap [] := va_S.rf
  refine lv_iload_n hx hb dX11_keep_0 rfl (lv_at hl 1 rfl) ?_
  refine lv_if_lt (tgt := 9) hx hb dX11_keep_1 (by decide) (fun c_1 => ?_) (fun c_1 => ?_)
  · have r_2 : rgI (-2147483648) (-1) a0 := rg_w (rg_ltL (rg_top a0) rl_0 c_1) (by decide) (by decide)
    refine lv_iconst (v := 0) hx hb dX11_keep_9 (by decide) ?_
    refine W.widen (k := 4) (n := 79) (by decide) (by decide) ?_
    exact W.zret hx hb hr rfl (fun t ht hWm => ⟨⟨0, (Ty, G), rfl, ⟨rg_w rl_0 (by decide) (by decide), ⟨Ext.rf, Or.inl ⟨rfl, Or.inl c_1, rfl⟩⟩⟩, by show HT g Ty G t.heap; rw [ht]; exact hH⟩, hS.F ht⟩) hS.2.2 dX11_keep_10
  · have r_3 : rgI (0) (2147483647) a0 := rg_w (rg_leR rl_0 (rg_top a0) (nlt_le c_1)) (by decide) (by decide)
    refine lv_iload_n hx hb dX11_keep_4 rfl (lv_at hl 1 rfl) ?_
    refine lv_iconst (v := 2) hx hb dX11_keep_5 (by decide) ?_
    refine lv_icmp_lt (tgt := 11) hx hb dX11_keep_6 (by decide) (fun c_4 => ?_) (fun c_4 => ?_)
    · have r_5 : rgI (0) (1) a0 := rg_w (rg_ltL r_3 rl_2 c_4) (by decide) (by decide)
      refine lv_aload_n hx hb dX11_keep_11 rfl (lv_at hl 0 rfl) ?_
      obtain ⟨_, ⟨rfl, kq_7, kq_8, kq_9, kq_10, kq_11, kq_12, kq_13, kq_14, kq_15, kq_16, kq_17, kq_18, kq_19, kq_20, t_22⟩, o_c_6⟩ := hH h0 _ k_h0
      refine hg_get hx hb hG igX11 hown hK o_c_6 rfl 3 (by decide) (hG _ mw_360) rfl dX11_keep_12 ?_
      refine lv_iload_n hx hb dX11_keep_15 rfl (lv_at hl 1 rfl) ?_
      obtain ⟨_, ⟨f_24, rfl, qf_24, t_25, t_26, t_27⟩, o_c_23⟩ := hH (g.2.2 3) _ kq_10
      refine hg_aald hx hb hK o_c_23 (rg_in (n := 2) r_5 (by decide) (by decide)) dX11_keep_16 ?_
      obtain ⟨w_28, ew_28⟩ : ∃ z, z = f_24 (a0 : Int32).toNatClampNeg := ⟨_, rfl⟩
      rw [← ew_28]
      rcases w_28 with _ | y_30
      · refine lv_ifnonnullN hx hb dX11_keep_17 ?_
        refine lv_aload_n hx hb dX11_keep_20 rfl (lv_at hl 0 rfl) ?_
        refine hg_get hx hb hG igX11 hown hK o_c_6 rfl 3 (by decide) (hG _ mw_360) rfl dX11_keep_21 ?_
        refine lv_iload_n hx hb dX11_keep_24 rfl (lv_at hl 1 rfl) ?_
        obtain ⟨qn_31, eqn_31⟩ : ∃ z, z = s.heap.size := ⟨_, rfl⟩
        have nqn_31 : Ty qn_31 = none := hH.free (by rw [eqn_31]; exact Nat.le_refl _)
        have gqn_31 : s.heap.size ≤ qn_31 := by rw [eqn_31]; exact hS.1
        refine hg_newQ (ci := 10) (fs := [.null, .null, .null, .int 0, .int 0, .int 0, .int 0]) (C := RX10) (T := TX10) (N := 7) hx hb hG igX10 tyX10 tyX10_ok hown (hG _ mw_109) (hG _ mw_110) (hG _ mw_77) hK hS rfl (fun j hj => by rcases (show j = 0 ∨ j = 1 ∨ j = 2 ∨ j = 3 ∨ j = 4 ∨ j = 5 ∨ j = 6 by omega) with rfl | rfl | rfl | rfl | rfl | rfl | rfl <;> rfl) (Nat.le_of_ble_eq_true rfl) (Nat.le_of_ble_eq_true rfl) dX11_keep_25 eqn_31 (fun H oqn_31 zqn_31 pqn_31 hS => ?_)
        have hH : HT g Ty G H := hH.more pqn_31
        have o_c_6 := o_c_6.kept (pqn_31 _ o_c_6.lt)
        have o_c_23 := o_c_23.kept (pqn_31 _ o_c_23.lt)
        refine lv_dup hx hb dX11_keep_28 rfl ?_
        have gzqn_31 : qn_31 < H.size := oqn_31.lt
        have gsqn_31 := hS.1
        obtain ⟨T_32, eT_32⟩ : ∃ z, z = tree4 Ty qn_31 H.size := ⟨_, rfl⟩
        have eTqn_31 : Ext s.heap.size Ty T_32 := by rw [eT_32]; exact tree4_ext hH nqn_31 gqn_31 gsqn_31
        have kqqn_31 : T_32 qn_31 = some (20, 0) := by rw [eT_32]; exact tree4_q
        refine va_callv (va_runI (As := []) (rest := [.ref qn_31, .int a0, .ref (g.2.2 3)]) ⟨hx, hb, hml, hown, hts⟩ (c_X10_init l g Ty G H.size qn_31 nqn_31) (cwI 0 hts (gwC mw_113) rfl rfl rfl (hG _ mw_77) (hG _ mw_111) (hG _ mw_112) rfl hd_X10_init ⟨Nat.le_of_ble_eq_true rfl, Nat.le_of_ble_eq_true rfl⟩) ⟨PcC_blind, PcC_pre hK hH oqn_31⟩ rfl rfl hl.1 rfl (lv_room (Nat.le_of_ble_eq_true rfl)) dX11_keep_29 ⟨Nat.le_of_ble_eq_true rfl, Nat.le_of_ble_eq_true rfl⟩) hS (fun q _ h => Or.inr (by rcases h with h | h <;> omega)) (fun q h => Or.inr (by rcases h with h | h <;> omega)) (fun _ t H locs ht hvm _ hB hz hk hS => ?_)
        have hH : HT g T_32 G H := by rw [eT_32, ← ht]; exact hB.1
        have o_c_6 := o_c_6.kept (hk _ o_c_6.lt (fun h => by rcases h with h | h; exact ne_none k_h0 nqn_31 h; exact absurd o_c_6.lt (by omega)))
        have k_33 := eTqn_31.1 _ _ k_h0
        have o_c_23 := o_c_23.kept (hk _ o_c_23.lt (fun h => by rcases h with h | h; exact ne_none kq_10 nqn_31 h; exact absurd o_c_23.lt (by omega)))
        have k_34 := eTqn_31.1 _ _ kq_10
        have q_35 : ∀ j t, f_24 j = some t → T_32 t = some (20, 0) := fun j t h => eTqn_31.1 _ _ (qf_24 j t h)
        have k_36 := eTqn_31.1 _ _ k_h0
        have k_37 := eTqn_31.1 _ _ kq_10
        have k_38 := eTqn_31.1 _ _ kq_7
        have k_39 := eTqn_31.1 _ _ kq_8
        have k_40 := eTqn_31.1 _ _ kq_9
        have k_41 := eTqn_31.1 _ _ kq_11
        have k_42 := eTqn_31.1 _ _ kq_12
        have k_43 := eTqn_31.1 _ _ kq_13
        have k_44 := eTqn_31.1 _ _ kq_14
        have k_45 := eTqn_31.1 _ _ kq_15
        have k_46 := eTqn_31.1 _ _ kq_16
        have k_47 := eTqn_31.1 _ _ kq_17
        have k_48 := eTqn_31.1 _ _ kq_18
        have k_49 := eTqn_31.1 _ _ kq_19
        have k_50 := eTqn_31.1 _ _ kq_20
        have hE_51 : Ext s.heap.size Ty T_32 := eTqn_31
        obtain ⟨_, ⟨q_53, q_54, q_55, q_56, q_57, q_58, q_59, rfl, kq_53, kq_54, kq_55⟩, o_c_52⟩ := hH qn_31 _ kqqn_31
        refine hg_aast hx hb hK hS o_c_23 (AF.ofE hE_51 k_34) o_c_52 (rg_in (n := 2) r_5 (by decide) (by decide)) dX11_keep_32 (fun H locs o_c_23 hz oq hS => ?_)
        generalize hff_60 : va_up f_24 _ _ = f_60 at o_c_23
        have qf_60 : ∀ j t, f_60 j = some t → T_32 t = some (20, 0) := by rw [← hff_60]; exact up_all q_35 kqqn_31
        obtain ⟨G_61, eG_61⟩ : ∃ z : Gh, z = gset (gset G 3 (oB (f_60 0))) 4 (oB (f_60 1)) := ⟨_, rfl⟩
        have hH : HT g T_32 G_61 H := by rw [eG_61]; exact HT.putK hH k_34 o_c_23 qf_60 t_25 oq
        clear oq hz
        have t_62 : oB (f_60 0) = G_61.1 3 := by rw [eG_61, gs_ne (by decide), gs_eq]
        have t_63 : oB (f_60 1) = G_61.1 4 := by rw [eG_61, gs_eq]
        have knf_60 : f_60 (a0 : Int32).toNatClampNeg = some qn_31 := by rw [← hff_60]; exact va_upS
        refine lv_aload_n hx hb dX11_keep_33 rfl (lv_at hl 0 rfl) ?_
        obtain ⟨_, ⟨rfl, kq_65, kq_66, kq_67, kq_68, kq_69, kq_70, kq_71, kq_72, kq_73, kq_74, kq_75, kq_76, kq_77, kq_78, t_80⟩, o_c_64⟩ := hH h0 _ k_36
        refine hg_get hx hb hG igX11 hown hK o_c_64 rfl 3 (by decide) (hG _ mw_360) rfl dX11_keep_34 ?_
        refine lv_iload_n hx hb dX11_keep_37 rfl (lv_at hl 1 rfl) ?_
        refine hg_aald hx hb hK o_c_23 (rg_in (n := 2) r_5 (by decide) (by decide)) dX11_keep_38 ?_
        rw [show va_rf (f_60 (a0 : Int32).toNatClampNeg) = Value.ref qn_31 by rw [knf_60]; rfl]
        refine lv_aload_n hx hb dX11_keep_39 rfl (lv_at hl 0 rfl) ?_
        refine hg_get hx hb hG igX11 hown hK o_c_64 rfl 0 (by decide) (hG _ mw_357) rfl dX11_keep_40 ?_
        obtain ⟨_, ⟨q_82, q_83, q_84, q_85, q_86, q_87, q_88, rfl, kq_82, kq_83, kq_84⟩, o_c_81⟩ := hH qn_31 _ (qf_60 _ _ knf_60)
        refine va_callv (va_runV (As := [.ref (g.2.2 0)]) (rest := []) ⟨hx, hb, hml, hown, hts⟩ (c_X10_take_n l g T_32 G_61 H.size qn_31 (g.2.2 0) (qf_60 _ _ knf_60) kq_65) (cwV 1 hts (gwV mw_628 mw_629 mw_630 mw_77 mw_631) rfl rfl rfl hv_X10_take ⟨Nat.le_of_ble_eq_true rfl, Nat.le_of_ble_eq_true rfl⟩) ⟨PcT_blind, hg_recv hK o_c_81 rfl, PcT_pre hK hH⟩ rfl rfl hl.1 rfl (lv_room (Nat.le_of_ble_eq_true rfl)) dX11_keep_43 ⟨Nat.le_of_ble_eq_true rfl, Nat.le_of_ble_eq_true rfl⟩) hS (fun q _ h => AF.back hE_51 hS.1 h) (fun q h => AF.back hE_51 hS.1 h) (fun ux_89 t H locs ht hvm hx_89 hB hz hk hS => ?_)
        have hH : HT g T_32 G_61 H := by rw [← ht]; rw [hx_89] at hB; exact hB
        refine lv_iconst (v := 1) hx hb dX11_keep_46 (by decide) ?_
        exact W.zret hx hb hr rfl (fun t ht hWm => ⟨⟨1, (T_32, G_61), rfl, ⟨rg_w rl_1 (by decide) (by decide), ⟨hE_51, Or.inr ⟨rfl, keep_new eG_61 hff_60 r_5 t_26 t_27⟩⟩⟩, by show HT g T_32 G_61 t.heap; rw [ht]; exact hH⟩, hS.F ht⟩) hS.2.2 dX11_keep_47
      · refine lv_ifnonnull (tgt := 33) hx hb dX11_keep_17 (by decide) ?_
        refine lv_aload_n hx hb dX11_keep_33 rfl (lv_at hl 0 rfl) ?_
        refine hg_get hx hb hG igX11 hown hK o_c_6 rfl 3 (by decide) (hG _ mw_360) rfl dX11_keep_34 ?_
        refine lv_iload_n hx hb dX11_keep_37 rfl (lv_at hl 1 rfl) ?_
        refine hg_aald hx hb hK o_c_23 (rg_in (n := 2) r_5 (by decide) (by decide)) dX11_keep_38 ?_
        rw [show va_rf (f_24 (a0 : Int32).toNatClampNeg) = Value.ref y_30 by rw [ew_28.symm]; rfl]
        refine lv_aload_n hx hb dX11_keep_39 rfl (lv_at hl 0 rfl) ?_
        refine hg_get hx hb hG igX11 hown hK o_c_6 rfl 0 (by decide) (hG _ mw_357) rfl dX11_keep_40 ?_
        obtain ⟨_, ⟨q_91, q_92, q_93, q_94, q_95, q_96, q_97, rfl, kq_91, kq_92, kq_93⟩, o_c_90⟩ := hH y_30 _ (qf_24 _ _ ew_28.symm)
        refine va_callv (va_runV (As := [.ref (g.2.2 0)]) (rest := []) ⟨hx, hb, hml, hown, hts⟩ (c_X10_take_n l g Ty G s.heap.size y_30 (g.2.2 0) (qf_24 _ _ ew_28.symm) kq_7) (cwV 1 hts (gwV mw_628 mw_629 mw_630 mw_77 mw_631) rfl rfl rfl hv_X10_take ⟨Nat.le_of_ble_eq_true rfl, Nat.le_of_ble_eq_true rfl⟩) ⟨PcT_blind, hg_recv hK o_c_90 rfl, PcT_pre hK hH⟩ rfl rfl hl.1 rfl (lv_room (Nat.le_of_ble_eq_true rfl)) dX11_keep_43 ⟨Nat.le_of_ble_eq_true rfl, Nat.le_of_ble_eq_true rfl⟩) hS (fun q _ h => AF.mono hS.1 h) (fun q h => AF.mono hS.1 h) (fun ux_98 t H locs ht hvm hx_98 hB hz hk hS => ?_)
        have hH : HT g Ty G H := by rw [← ht]; rw [hx_98] at hB; exact hB
        refine lv_iconst (v := 1) hx hb dX11_keep_46 (by decide) ?_
        refine W.widen (k := 4) (n := 79) (by decide) (by decide) ?_
        exact W.zret hx hb hr rfl (fun t ht hWm => ⟨⟨1, (Ty, G), rfl, ⟨rg_w rl_1 (by decide) (by decide), ⟨Ext.rf, Or.inr ⟨rfl, keep_old (kp_some r_5 ew_28.symm t_26 t_27)⟩⟩⟩, by show HT g Ty G t.heap; rw [ht]; exact hH⟩, hS.F ht⟩) hS.2.2 dX11_keep_47
    · have r_99 : rgI (2) (2147483647) a0 := rg_w (rg_leR rl_2 r_3 (nlt_le c_4)) (by decide) (by decide)
      refine lv_iconst (v := 0) hx hb dX11_keep_9 (by decide) ?_
      refine W.widen (k := 4) (n := 79) (by decide) (by decide) ?_
      exact W.zret hx hb hr rfl (fun t ht hWm => ⟨⟨0, (Ty, G), rfl, ⟨rg_w rl_0 (by decide) (by decide), ⟨Ext.rf, Or.inl ⟨rfl, Or.inr (nlt_le c_4), rfl⟩⟩⟩, by show HT g Ty G t.heap; rw [ht]; exact hH⟩, hS.F ht⟩) hS.2.2 dX11_keep_10

set_option maxHeartbeats 4000000 in
set_option maxRecDepth 100000 in
theorem c_X11_again (l : Launch) (g : Gx) (Ty : TyM) (G : Gh) (sz : Nat) (h0 : Nat) (a0 : Int32) (k_h0 : Ty h0 = some (21, 0)) (h3 : G.1 3 = 0) (h4 : G.1 4 = 0) : Met l yX11_again (wsG yX11_again cX11_again 2 (some .boolean)) ({ frames := 1, cells := 0, slots := 0, locals := 22 }) (PcT g Ty G sz [.ref h0, .int a0]) (QwI g Ty sz (fun r u => (rgI (0) (0) r) ∧ u = (Ty, G))) 0 0 (AF Ty sz) := by
  refine Met.ofW (cc := cX11_again) (maxL := 2) (ret := (some .boolean)) (by decide) rfl ?_
  intro p e s m args below meth c s₁ B hml hv
  obtain ⟨rfl, hsz, hK, hH⟩ := hv
  subst hsz
  have hx := B.exec
  have hb := B.bytes
  have hr := B.returns
  have hts := atoms_spec (ws := (wsG yX11_again cX11_again 2 (some .boolean))) B.pre
  have hG : ∀ w ∈ GW, w.before ([.ref h0, .int a0] : List Value).toArray s = true := fun w h => hts w (List.mem_cons_of_mem _ h)
  have hown : s.vm.findClass RX11 = some m.cls := findClass_of_methodNamed B.named
  have hlocks := B.notSynchronized
  have hl := lv_entry [.ref h0, .int a0] (n := 2) (Nat.le_of_ble_eq_true rfl)
  rw [lg_entry_eq]
  generalize (lg_sl [.ref h0, .int a0] ++ List.replicate (2 - (lg_sl [.ref h0, .int a0]).length) Slot.unset).toArray = ls at hl ⊢
  have hl : lv_has ls 2 [(0, .ref h0), (1, .int a0)] := hl
  have hS : va_S (AF Ty s.heap.size) s.heap s.heap [] := va_S.rf
  refine lv_iload_n hx hb dX11_again_0 rfl (lv_at hl 1 rfl) ?_
  refine lv_if_lt (tgt := 18) hx hb dX11_again_1 (by decide) (fun c_1 => ?_) (fun c_1 => ?_)
  · have r_2 : rgI (-2147483648) (-1) a0 := rg_w (rg_ltL (rg_top a0) rl_0 c_1) (by decide) (by decide)
    refine lv_iconst (v := 0) hx hb dX11_again_18 (by decide) ?_
    exact W.zret hx hb hr rfl (fun t ht hWm => ⟨⟨0, (Ty, G), rfl, ⟨rg_w rl_0 (by decide) (by decide), rfl⟩, by show HT g Ty G t.heap; rw [ht]; exact hH⟩, hS.F ht⟩) hS.2.2 dX11_again_19
  · have r_3 : rgI (0) (2147483647) a0 := rg_w (rg_leR rl_0 (rg_top a0) (nlt_le c_1)) (by decide) (by decide)
    refine lv_iload_n hx hb dX11_again_4 rfl (lv_at hl 1 rfl) ?_
    refine lv_iconst (v := 2) hx hb dX11_again_5 (by decide) ?_
    refine lv_icmp_ge (tgt := 18) hx hb dX11_again_6 (by decide) (fun c_4 => ?_) (fun c_4 => ?_)
    · have r_5 : rgI (2) (2147483647) a0 := rg_w (rg_leR rl_2 r_3 c_4) (by decide) (by decide)
      refine lv_iconst (v := 0) hx hb dX11_again_18 (by decide) ?_
      exact W.zret hx hb hr rfl (fun t ht hWm => ⟨⟨0, (Ty, G), rfl, ⟨rg_w rl_0 (by decide) (by decide), rfl⟩, by show HT g Ty G t.heap; rw [ht]; exact hH⟩, hS.F ht⟩) hS.2.2 dX11_again_19
    · have r_6 : rgI (0) (1) a0 := rg_w (rg_ltL r_3 rl_2 (nle_lt c_4)) (by decide) (by decide)
      refine lv_aload_n hx hb dX11_again_9 rfl (lv_at hl 0 rfl) ?_
      obtain ⟨_, ⟨rfl, kq_8, kq_9, kq_10, kq_11, kq_12, kq_13, kq_14, kq_15, kq_16, kq_17, kq_18, kq_19, kq_20, kq_21, t_23⟩, o_c_7⟩ := hH h0 _ k_h0
      refine hg_get hx hb hG igX11 hown hK o_c_7 rfl 3 (by decide) (hG _ mw_360) rfl dX11_again_10 ?_
      refine lv_iload_n hx hb dX11_again_13 rfl (lv_at hl 1 rfl) ?_
      obtain ⟨_, ⟨f_25, rfl, qf_25, t_26, t_27, t_28⟩, o_c_24⟩ := hH (g.2.2 3) _ kq_11
      refine hg_aald hx hb hK o_c_24 (rg_in (n := 2) r_6 (by decide) (by decide)) dX11_again_14 ?_
      obtain ⟨w_29, ew_29⟩ : ∃ z, z = f_25 (a0 : Int32).toNatClampNeg := ⟨_, rfl⟩
      rw [← ew_29]
      rcases w_29 with _ | y_31
      · refine lv_ifnonnullN hx hb dX11_again_15 ?_
        refine lv_iconst (v := 0) hx hb dX11_again_18 (by decide) ?_
        exact W.zret hx hb hr rfl (fun t ht hWm => ⟨⟨0, (Ty, G), rfl, ⟨rg_w rl_0 (by decide) (by decide), rfl⟩, by show HT g Ty G t.heap; rw [ht]; exact hH⟩, hS.F ht⟩) hS.2.2 dX11_again_19
      · refine lv_ifnonnull (tgt := 20) hx hb dX11_again_15 (by decide) ?_
        exact absurd (kp_some r_6 ew_29.symm t_27 t_28) (kp_no h3 h4)

set_option maxHeartbeats 4000000 in
set_option maxRecDepth 100000 in
theorem c_X11_looks (l : Launch) (g : Gx) (Ty : TyM) (G : Gh) (sz : Nat) (h0 : Nat) (k_h0 : Ty h0 = some (21, 0)) (hD1 : LD1 g) : Met l yX11_looks (wsG yX11_looks cX11_looks 2 (some .int)) ({ frames := 4, cells := 0, slots := 0, locals := 98 }) (PcT g Ty G sz [.ref h0]) (QwI g Ty sz (fun r u => ((LookC (ftN (G.2.1 (g.2.2 52)) (G.2.1 (g.2.2 53)) (G.2.1 (g.2.2 54)) (G.1 2).toNatClampNeg) r)) ∧ u.1 = Ty ∧ FR [27] [] [] G u.2)) 0 0 (AF Ty sz) := by
  refine Met.ofW (cc := cX11_looks) (maxL := 2) (ret := (some .int)) (by decide) rfl ?_
  intro p e s m args below meth c s₁ B hml hv
  obtain ⟨rfl, hsz, hK, hH⟩ := hv
  subst hsz
  have hx := B.exec
  have hb := B.bytes
  have hr := B.returns
  have hts := atoms_spec (ws := (wsG yX11_looks cX11_looks 2 (some .int))) B.pre
  have hG : ∀ w ∈ GW, w.before ([.ref h0] : List Value).toArray s = true := fun w h => hts w (List.mem_cons_of_mem _ h)
  have hown : s.vm.findClass RX11 = some m.cls := findClass_of_methodNamed B.named
  have hlocks := B.notSynchronized
  have hl := lv_entry [.ref h0] (n := 2) (Nat.le_of_ble_eq_true rfl)
  rw [lg_entry_eq]
  generalize (lg_sl [.ref h0] ++ List.replicate (2 - (lg_sl [.ref h0]).length) Slot.unset).toArray = ls at hl ⊢
  have hl : lv_has ls 2 [(0, .ref h0)] := hl
  have hS : va_S (AF Ty s.heap.size) s.heap s.heap [] := va_S.rf
  refine lv_aload_n hx hb dX11_looks_0 rfl (lv_at hl 0 rfl) ?_
  obtain ⟨_, ⟨rfl, kq_2, kq_3, kq_4, kq_5, kq_6, kq_7, kq_8, kq_9, kq_10, kq_11, kq_12, kq_13, kq_14, kq_15, t_17⟩, o_c_1⟩ := hH h0 _ k_h0
  refine hg_get hx hb hG igX11 hown hK o_c_1 rfl 12 (by decide) (hG _ mw_369) rfl dX11_looks_1 ?_
  obtain ⟨_, ⟨q_19, q_20, q_21, q_23, rfl, kq_19, kq_20, kq_21, rq_22, t_24⟩, o_c_18⟩ := hH (g.2.2 12) _ kq_14
  refine va_calli (va_runV (As := []) (rest := []) ⟨hx, hb, hml, hown, hts⟩ (c_X5_bestLook_x l g Ty G s.heap.size (g.2.2 12) kq_14) (cwV 0 hts (gwV mw_1100 mw_1101 mw_1102 mw_86 mw_1103) rfl rfl rfl hv_X5_bestLook ⟨Nat.le_of_ble_eq_true rfl, Nat.le_of_ble_eq_true rfl⟩) ⟨PcT_blind, hg_recv hK o_c_18 rfl, PcT_pre hK hH⟩ rfl rfl hl.1 rfl (lv_room (Nat.le_of_ble_eq_true rfl)) dX11_looks_4 ⟨Nat.zero_le _, Nat.zero_le _⟩) hS (fun q _ h => AF.mono hS.1 h) (fun q h => AF.mono hS.1 h) (fun x_25 ux_25 t H locs ht hvm hx_25 hB hz hk hS => ?_)
  obtain ⟨fx_25, hx_25⟩ := hx_25
  have hH : HT g Ty G H := by rw [← ht]; rw [fx_25] at hB; exact hB
  refine lv_istore_n (lv' := [(1, .int x_25), (0, .ref h0)]) hx hb dX11_looks_7 rfl hl (by decide) rfl (fun ls hl => ?_)
  refine lv_iload_n hx hb dX11_looks_8 rfl (lv_at hl 0 rfl) ?_
  refine lv_iconst (v := (-1)) hx hb dX11_looks_9 (by decide) ?_
  refine lv_icmp_ne (tgt := 16) hx hb dX11_looks_10 (by decide) (fun c_26 => ?_) (fun c_26 => ?_)
  · refine lv_aload_n hx hb dX11_looks_16 rfl (lv_at hl 1 rfl) ?_
    obtain ⟨_, ⟨rfl, kq_28, kq_29, kq_30, kq_31, kq_32, kq_33, kq_34, kq_35, kq_36, kq_37, kq_38, kq_39, kq_40, kq_41, t_43⟩, o_c_27⟩ := hH h0 _ k_h0
    refine hg_get hx hb hG igX11 hown hK o_c_27 rfl 5 (by decide) (hG _ mw_362) rfl dX11_looks_17 ?_
    refine lv_aload_n hx hb dX11_looks_20 rfl (lv_at hl 1 rfl) ?_
    refine hg_get hx hb hG igX11 hown hK o_c_27 rfl 12 (by decide) (hG _ mw_369) rfl dX11_looks_21 ?_
    obtain ⟨_, ⟨q_45, q_46, q_47, q_49, rfl, kq_45, kq_46, kq_47, rq_48, t_50⟩, o_c_44⟩ := hH (g.2.2 12) _ kq_40
    refine hg_getN hx hb hG igX5 hown hK o_c_44 rfl 4 (by decide) ((hK.2.1 _ nwf_327).use rfl) rfl dX11_looks_24 ?_
    refine lv_i2l hx hb dX11_looks_27 rfl ?_
    refine lv_topl (fun u_51 eu_51 => ?_)
    obtain ⟨_, ⟨q_53, rfl, kq_53, rq_54, t_55⟩, o_c_52⟩ := hH (g.2.2 5) _ kq_33
    refine va_callv (va_runV (As := [.long u_51]) (rest := []) ⟨hx, hb, hml, hown, hts⟩ (c_X7_tell_x l g Ty G H.size (g.2.2 5) u_51 kq_33 hD1) (cwV 1 hts (gwV mw_583 mw_584 mw_585 mw_80 mw_586) rfl rfl rfl hv_X7_tell ⟨Nat.le_of_ble_eq_true rfl, Nat.le_of_ble_eq_true rfl⟩) ⟨PcT_blind, hg_recv hK o_c_52 rfl, PcT_pre hK hH⟩ rfl rfl hl.1 rfl (lv_room (Nat.le_of_ble_eq_true rfl)) dX11_looks_28 ⟨Nat.zero_le _, Nat.zero_le _⟩) hS (fun q _ h => AF.mono hS.1 h) (fun q h => AF.mono hS.1 h) (fun ux_56 t H locs ht hvm hx_56 hB hz hk hS => ?_)
    obtain ⟨eTx_56, eGx_56⟩ := hx_56
    obtain ⟨G_57, eG_57⟩ : ∃ z, z = ux_56.2 := ⟨_, rfl⟩
    rw [← eG_57] at eGx_56
    obtain ⟨hfr_58, hex_59⟩ := eGx_56
    have fr_60 : FR [27] [] [] G G_57 := FR.tr FR.rf hfr_58 (by decide) (fun _ _ => trivial) (by decide)
    have hH : HT g Ty G_57 H := by rw [← ht, ← eTx_56, eG_57]; exact hB
    refine lv_iload_n hx hb dX11_looks_31 rfl (lv_at hl 0 rfl) ?_
    exact W.iret hx hb hr (fun t ht hWm => ⟨⟨x_25, (Ty, G_57), rfl, ⟨⟨_, hx_25, by rw [if_neg c_26]⟩, ⟨rfl, fr_60⟩⟩, by show HT g Ty G_57 t.heap; rw [ht]; exact hH⟩, hS.F ht⟩) hS.2.2 dX11_looks_32
  · have r_61 : rgI (-1) (-1) x_25 := rg_w (rg_eq rl_m1 c_26) (by decide) (by decide)
    refine lv_bipush (v := (-2)) hx hb dX11_looks_13 (by decide) ?_
    exact W.iret hx hb hr (fun t ht hWm => ⟨⟨(-2), (Ty, G), rfl, ⟨⟨_, hx_25, by rw [if_pos c_26]⟩, ⟨rfl, FR.rf⟩⟩, by show HT g Ty G t.heap; rw [ht]; exact hH⟩, hS.F ht⟩) hS.2.2 dX11_looks_15

set_option maxHeartbeats 4000000 in
set_option maxRecDepth 100000 in
theorem c_X11_laws (l : Launch) (g : Gx) (Ty : TyM) (G : Gh) (sz : Nat) (h0 : Nat) (k_h0 : Ty h0 = some (21, 0)) (hD1 : LD1 g) : Met l yX11_laws (wsG yX11_laws cX11_laws 4 (some .int)) ({ frames := 3, cells := 0, slots := 0, locals := 71 }) (PcT g Ty G sz [.ref h0]) (QwI g Ty sz (fun r u => ((r = nI (cL (ftN (G.2.1 (g.2.2 52)) (G.2.1 (g.2.2 53)) (G.2.1 (g.2.2 54)) (G.1 2).toNatClampNeg)))) ∧ u.1 = Ty ∧ FR [27] [] [] G u.2)) 0 0 (AF Ty sz) := by
  refine Met.ofW (cc := cX11_laws) (maxL := 4) (ret := (some .int)) (by decide) rfl ?_
  intro p e s m args below meth c s₁ B hml hv
  obtain ⟨rfl, hsz, hK, hH⟩ := hv
  subst hsz
  have hx := B.exec
  have hb := B.bytes
  have hr := B.returns
  have hts := atoms_spec (ws := (wsG yX11_laws cX11_laws 4 (some .int))) B.pre
  have hG : ∀ w ∈ GW, w.before ([.ref h0] : List Value).toArray s = true := fun w h => hts w (List.mem_cons_of_mem _ h)
  have hown : s.vm.findClass RX11 = some m.cls := findClass_of_methodNamed B.named
  have hlocks := B.notSynchronized
  have hl := lv_entry [.ref h0] (n := 4) (Nat.le_of_ble_eq_true rfl)
  rw [lg_entry_eq]
  generalize (lg_sl [.ref h0] ++ List.replicate (4 - (lg_sl [.ref h0]).length) Slot.unset).toArray = ls at hl ⊢
  have hl : lv_has ls 4 [(0, .ref h0)] := hl
  have hS : va_S (AF Ty s.heap.size) s.heap s.heap [] := va_S.rf
  have L_66 : ∀ (H : Heap) (locs : List Loc) (G_66 : Gh) (y1_66 : Int64) (ls : Array Slot), FR [27] [] [] G G_66 → y1_66 = lN (ftN (G.2.1 (g.2.2 52)) (G.2.1 (g.2.2 53)) (G.2.1 (g.2.2 54)) (G.1 2).toNatClampNeg) → lv_has ls 4 [(1, .long y1_66)] → HT g Ty G_66 H → va_S (AF Ty s.heap.size) s.heap H locs → Wm p l e (wsG yX11_laws cX11_laws 4 (some .int)) ({ frames := 3, cells := 0, slots := 0, locals := 71 }) s m [.ref h0] below meth c H locs (0) (0) (QwI g Ty s.heap.size (fun r u => ((r = nI (cL (ftN (G.2.1 (g.2.2 52)) (G.2.1 (g.2.2 53)) (G.2.1 (g.2.2 54)) (G.1 2).toNatClampNeg)))) ∧ u.1 = Ty ∧ FR [27] [] [] G u.2)) 0 0 (AF Ty s.heap.size) (F0 m 66 ls []) := by
    intro H locs G_66 y1_66 ls frL_66 hi0_66 hl hH hS
    refine lv_lload_n hx hb dX11_laws_66 rfl (lv_at hl 0 rfl) ?_
    refine vp_callSi (W.runS (As := [.long y1_66]) (rest := []) ⟨hx, hb, hml, hown, hts⟩ (c_J13_bitCount_y l g Ty G_66 y1_66 (ftN (G.2.1 (g.2.2 52)) (G.2.1 (g.2.2 53)) (G.2.1 (g.2.2 54)) (G.1 2).toNatClampNeg) (Nat.lt_of_le_of_lt (ftN_le _) (by decide)) hi0_66) (cwSx 1 hts hG (gwC mw_1092) mw_100 mw_1090 mw_1091 rfl rfl rfl hd_J13_bitCount_95d88 ⟨Nat.le_of_ble_eq_true rfl, Nat.le_of_ble_eq_true rfl⟩) ⟨PcH_blind, PcH_pre hK hH⟩ rfl rfl hl.1 rfl (lv_room (Nat.le_of_ble_eq_true rfl)) dX11_laws_67 ⟨Nat.zero_le _, Nat.zero_le _⟩) (fun x_1 hx_1 => ?_)
    exact W.iret hx hb hr (fun t ht hWm => ⟨⟨x_1, (Ty, G_66), rfl, ⟨hx_1, ⟨rfl, frL_66⟩⟩, by show HT g Ty G_66 t.heap; rw [ht]; exact hH⟩, hS.F ht⟩) hS.2.2 dX11_laws_70
  have L_17 : ∀ (n : Nat) (H : Heap) (locs : List Loc) (G_17 : Gh) (y1_17 : Int64) (y3_17 : Int32) (ls : Array Slot), FR [27] [] [] G G_17 → rgI (0) (35) y3_17 → y1_17 = lN (ftN (G.2.1 (g.2.2 52)) (G.2.1 (g.2.2 53)) (G.2.1 (g.2.2 54)) (G.1 2).toNatClampNeg) → (35 - (y3_17).toInt).toNat < n → lv_has ls 4 [(0, .ref h0), (1, .long y1_17), (3, .int y3_17)] → HT g Ty G_17 H → va_S (AF Ty s.heap.size) s.heap H locs → Wm p l e (wsG yX11_laws cX11_laws 4 (some .int)) ({ frames := 3, cells := 0, slots := 0, locals := 71 }) s m [.ref h0] below meth c H locs (0) (0) (QwI g Ty s.heap.size (fun r u => ((r = nI (cL (ftN (G.2.1 (g.2.2 52)) (G.2.1 (g.2.2 53)) (G.2.1 (g.2.2 54)) (G.1 2).toNatClampNeg)))) ∧ u.1 = Ty ∧ FR [27] [] [] G u.2)) 0 0 (AF Ty s.heap.size) (F0 m 17 ls []) := by
    intro n
    induction n with
    | zero => intro H locs G_17 y1_17 y3_17 ls frL_17 ry3_17 hi0_17 hm; exact absurd hm (Nat.not_lt_zero _)
    | succ n ih_17 =>
      intro H locs G_17 y1_17 y3_17 ls frL_17 ry3_17 hi0_17 hm_17 hl hH hS
      have L_60 : ∀ (H : Heap) (locs : List Loc) (G_60 : Gh) (ls : Array Slot), FR [27] [] [] G G_60 → rgI (0) (34) y3_17 → y1_17 = lN (ftN (G.2.1 (g.2.2 52)) (G.2.1 (g.2.2 53)) (G.2.1 (g.2.2 54)) (G.1 2).toNatClampNeg) → lv_has ls 4 [(0, .ref h0), (1, .long y1_17), (3, .int y3_17)] → HT g Ty G_60 H → va_S (AF Ty s.heap.size) s.heap H locs → Wm p l e (wsG yX11_laws cX11_laws 4 (some .int)) ({ frames := 3, cells := 0, slots := 0, locals := 71 }) s m [.ref h0] below meth c H locs (0) (0) (QwI g Ty s.heap.size (fun r u => ((r = nI (cL (ftN (G.2.1 (g.2.2 52)) (G.2.1 (g.2.2 53)) (G.2.1 (g.2.2 54)) (G.1 2).toNatClampNeg)))) ∧ u.1 = Ty ∧ FR [27] [] [] G u.2)) 0 0 (AF Ty s.heap.size) (F0 m 60 ls []) := by
        intro H locs G_60 ls frL_60 ry3_60 hi0_60 hl hH hS
        obtain ⟨x_2, ex_2⟩ : ∃ y : Int32, y = y3_17 + 1 := ⟨_, rfl⟩
        have rx_2 : rgI (1) (35) x_2 := by rw [ex_2]; exact rg_w (rg_add ry3_60 rl_1 (by decide) (by decide)) (by decide) (by decide)
        have qx_2 : x_2.toInt = (y3_17 : Int32).toInt + 1 := by rw [ex_2]; exact rg_addE ry3_60 rl_1 (by decide) (by decide)
        refine lv_iinc (v := x_2) (lv' := [(3, .int x_2), (0, .ref h0), (1, .long y1_17)]) hx hb dX11_laws_60 hl (k := 2) rfl (by rw [ex_2]; rfl) (by decide) rfl (fun ls hl => ?_)
        refine lv_goto (tgt := 17) hx hb dX11_laws_63 (by decide) ?_
        exact ih_17 H locs G_60 y1_17 x_2 ls frL_60 (rg_w rx_2 (by decide) (by decide)) hi0_60 (by have h1 := qx_2; have h2 := ry3_60.1; have h3 := ry3_60.2; have h4 := hm_17; omega) (lv_sub hl [1, 2, 0] rfl) hH hS
      refine lv_iload_n hx hb dX11_laws_17 rfl (lv_at hl 2 rfl) ?_
      refine lv_bipush (v := 35) hx hb dX11_laws_18 (by decide) ?_
      refine lv_icmp_ge (tgt := 66) hx hb dX11_laws_20 (by decide) (fun c_3 => ?_) (fun c_3 => ?_)
      · have r_4 : rgI (35) (35) y3_17 := rg_w (rg_leR rl_35 ry3_17 c_3) (by decide) (by decide)
        exact L_66 H locs G_17 y1_17 ls frL_17 hi0_17 (lv_sub hl [1] rfl) hH hS
      · have r_5 : rgI (0) (34) y3_17 := rg_w (rg_ltL ry3_17 rl_35 (nle_lt c_3)) (by decide) (by decide)
        refine lv_aload_n hx hb dX11_laws_23 rfl (lv_at hl 0 rfl) ?_
        obtain ⟨_, ⟨rfl, kq_7, kq_8, kq_9, kq_10, kq_11, kq_12, kq_13, kq_14, kq_15, kq_16, kq_17, kq_18, kq_19, kq_20, t_22⟩, o_c_6⟩ := hH h0 _ k_h0
        refine hg_get hx hb hG igX11 hown hK o_c_6 rfl 5 (by decide) (hG _ mw_362) rfl dX11_laws_24 ?_
        obtain ⟨_, ⟨q_24, rfl, kq_24, rq_25, t_26⟩, o_c_23⟩ := hH (g.2.2 5) _ kq_12
        refine hg_getN hx hb hG igX7 hown hK o_c_23 rfl 1 (by decide) ((hK.2.1 _ nwf_189).use rfl) rfl dX11_laws_27 ?_
        refine lv_if_ne (tgt := 66) hx hb dX11_laws_30 (by decide) (fun c_27 => ?_) (fun c_27 => ?_)
        · have r_28 : rgI (1) (24) (G_17.1 27) := rg_w (rg_neL rq_25 rl_0 c_27) (by decide) (by decide)
          exact L_66 H locs G_17 y1_17 ls frL_17 hi0_17 (lv_sub hl [1] rfl) hH hS
        · have r_29 : rgI (0) (0) (G_17.1 27) := rg_w (rg_eq rl_0 c_27) (by decide) (by decide)
          refine lv_lload_n hx hb dX11_laws_33 rfl (lv_at hl 1 rfl) ?_
          refine lv_lconst (v := 1) hx hb dX11_laws_34 (by decide) ?_
          refine lv_iload_n hx hb dX11_laws_35 rfl (lv_at hl 2 rfl) ?_
          refine lv_lshl hx hb dX11_laws_36 rfl ?_
          refine lv_topl (fun u_30 eu_30 => ?_)
          refine lv_land hx hb dX11_laws_37 ?_
          refine lv_topl (fun u_31 eu_31 => ?_)
          refine lv_lconst (v := 0) hx hb dX11_laws_38 (by decide) ?_
          refine W.lcmp hx hb dX11_laws_39 ?_
          refine lv_topi (fun x_32 ex_32 => ?_)
          refine lv_if_eq (tgt := 60) hx hb dX11_laws_40 (by decide) (fun c_33 => ?_) (fun c_33 => ?_)
          · have r_34 : rgI (0) (0) x_32 := rg_w (rg_eq rl_0 c_33) (by decide) (by decide)
            exact L_60 H locs G_17 ls frL_17 r_5 hi0_17 (lv_sub hl [0, 1, 2] rfl) hH hS
          · refine lv_aload_n hx hb dX11_laws_43 rfl (lv_at hl 0 rfl) ?_
            refine hg_get hx hb hG igX11 hown hK o_c_6 rfl 5 (by decide) (hG _ mw_362) rfl dX11_laws_44 ?_
            refine lv_iload_n hx hb dX11_laws_47 rfl (lv_at hl 2 rfl) ?_
            refine vp_callSi (W.runS (As := [.int y3_17]) (rest := [.ref (g.2.2 5)]) ⟨hx, hb, hml, hown, hts⟩ (c_X5_farthest l g Ty G_17 y3_17 ) (cwSx 1 hts hG (gwC mw_1083) mw_86 mw_1088 mw_1082 rfl rfl rfl hd_X5_farthest ⟨Nat.le_of_ble_eq_true rfl, Nat.le_of_ble_eq_true rfl⟩) ⟨PcH_blind, PcH_pre hK hH⟩ rfl rfl hl.1 rfl (lv_room (Nat.le_of_ble_eq_true rfl)) dX11_laws_48 ⟨Nat.zero_le _, Nat.zero_le _⟩) (fun x_35 hx_35 => ?_)
            refine lv_i2l hx hb dX11_laws_51 rfl ?_
            refine lv_topl (fun u_36 eu_36 => ?_)
            refine lv_iload_n hx hb dX11_laws_52 rfl (lv_at hl 2 rfl) ?_
            refine vp_callSi (W.runS (As := [.int y3_17]) (rest := [.long u_36, .ref (g.2.2 5)]) ⟨hx, hb, hml, hown, hts⟩ (c_X5_fewest l g Ty G_17 y3_17 ) (cwSx 1 hts hG (gwC mw_1086) mw_86 mw_1089 mw_1085 rfl rfl rfl hd_X5_fewest ⟨Nat.le_of_ble_eq_true rfl, Nat.le_of_ble_eq_true rfl⟩) ⟨PcH_blind, PcH_pre hK hH⟩ rfl rfl hl.1 rfl (lv_room (Nat.le_of_ble_eq_true rfl)) dX11_laws_53 ⟨Nat.zero_le _, Nat.zero_le _⟩) (fun x_37 hx_37 => ?_)
            refine lv_i2l hx hb dX11_laws_56 rfl ?_
            refine lv_topl (fun u_38 eu_38 => ?_)
            refine va_callv (va_runV (As := [.long u_36, .long u_38]) (rest := []) ⟨hx, hb, hml, hown, hts⟩ (c_X7_tellTwo_x l g Ty G_17 H.size (g.2.2 5) u_36 u_38 kq_12 hD1) (cwV 2 hts (gwV mw_753 mw_754 mw_755 mw_80 mw_756) rfl rfl rfl hv_X7_tellTwo ⟨Nat.le_of_ble_eq_true rfl, Nat.le_of_ble_eq_true rfl⟩) ⟨PcT_blind, hg_recv hK o_c_23 rfl, PcT_pre hK hH⟩ rfl rfl hl.1 rfl (lv_room (Nat.le_of_ble_eq_true rfl)) dX11_laws_57 ⟨Nat.zero_le _, Nat.zero_le _⟩) hS (fun q _ h => AF.mono hS.1 h) (fun q h => AF.mono hS.1 h) (fun ux_39 t H locs ht hvm hx_39 hB hz hk hS => ?_)
            obtain ⟨eTx_39, eGx_39⟩ := hx_39
            obtain ⟨G_40, eG_40⟩ : ∃ z, z = ux_39.2 := ⟨_, rfl⟩
            rw [← eG_40] at eGx_39
            obtain ⟨hfr_41, hex_42⟩ := eGx_39
            have fr_43 : FR [27] [] [] G G_40 := FR.tr frL_17 hfr_41 (by decide) (fun _ _ => trivial) (by decide)
            have hH : HT g Ty G_40 H := by rw [← ht, ← eTx_39, eG_40]; exact hB
            exact L_60 H locs G_40 ls fr_43 r_5 hi0_17 (lv_sub hl [0, 1, 2] rfl) hH hS
  refine lv_aload_n hx hb dX11_laws_0 rfl (lv_at hl 0 rfl) ?_
  obtain ⟨_, ⟨rfl, kq_45, kq_46, kq_47, kq_48, kq_49, kq_50, kq_51, kq_52, kq_53, kq_54, kq_55, kq_56, kq_57, kq_58, t_60⟩, o_c_44⟩ := hH h0 _ k_h0
  refine hg_get hx hb hG igX11 hown hK o_c_44 rfl 12 (by decide) (hG _ mw_369) rfl dX11_laws_1 ?_
  obtain ⟨_, ⟨q_62, q_63, q_64, q_66, rfl, kq_62, kq_63, kq_64, rq_65, t_67⟩, o_c_61⟩ := hH (g.2.2 12) _ kq_57
  refine vp_callSl (W.runV (As := []) (rest := []) ⟨hx, hb, hml, hown, hts⟩ (c_X5_fitting_x l g Ty G (g.2.2 12) kq_57) (cwV 0 hts (gwV mw_1073 mw_1074 mw_1075 mw_86 mw_1076) rfl rfl rfl hv_X5_fitting ⟨Nat.le_of_ble_eq_true rfl, Nat.le_of_ble_eq_true rfl⟩) ⟨PcH_blind, hg_recv hK o_c_61 rfl, PcH_pre hK hH⟩ rfl rfl hl.1 rfl (lv_room (Nat.le_of_ble_eq_true rfl)) dX11_laws_4 ⟨Nat.zero_le _, Nat.zero_le _⟩) (fun x_68 hx_68 => ?_)
  refine lv_lstore_n (lv' := [(1, .long x_68), (0, .ref h0)]) hx hb dX11_laws_7 rfl hl (by decide) rfl (fun ls hl => ?_)
  refine lv_aload_n hx hb dX11_laws_8 rfl (lv_at hl 1 rfl) ?_
  refine hg_get hx hb hG igX11 hown hK o_c_44 rfl 5 (by decide) (hG _ mw_362) rfl dX11_laws_9 ?_
  obtain ⟨_, ⟨q_70, rfl, kq_70, rq_71, t_72⟩, o_c_69⟩ := hH (g.2.2 5) _ kq_50
  refine va_callv (va_runV (As := []) (rest := []) ⟨hx, hb, hml, hown, hts⟩ (c_X7_clear_x l g Ty G s.heap.size (g.2.2 5) kq_50 hD1) (cwV 0 hts (gwV mw_932 mw_588 mw_589 mw_80 mw_590) rfl rfl rfl hv_X7_clear ⟨Nat.le_of_ble_eq_true rfl, Nat.le_of_ble_eq_true rfl⟩) ⟨PcT_blind, hg_recv hK o_c_69 rfl, PcT_pre hK hH⟩ rfl rfl hl.1 rfl (lv_room (Nat.le_of_ble_eq_true rfl)) dX11_laws_12 ⟨Nat.zero_le _, Nat.zero_le _⟩) hS (fun q _ h => AF.mono hS.1 h) (fun q h => AF.mono hS.1 h) (fun ux_73 t H locs ht hvm hx_73 hB hz hk hS => ?_)
  obtain ⟨eTx_73, eGx_73⟩ := hx_73
  obtain ⟨G_74, eG_74⟩ : ∃ z, z = ux_73.2 := ⟨_, rfl⟩
  rw [← eG_74] at eGx_73
  obtain ⟨hfr_75, hex_76⟩ := eGx_73
  have fr_77 : FR [27] [] [] G G_74 := FR.tr FR.rf hfr_75 (by decide) (fun _ _ => trivial) (by decide)
  have hH : HT g Ty G_74 H := by rw [← ht, ← eTx_73, eG_74]; exact hB
  refine lv_iconst (v := 0) hx hb dX11_laws_15 (by decide) ?_
  refine lv_istore_n (lv' := [(3, .int 0), (1, .long x_68), (0, .ref h0)]) hx hb dX11_laws_16 rfl hl (by decide) rfl (fun ls hl => ?_)
  exact L_17 _ H locs G_74 x_68 0 ls fr_77 (rg_w rl_0 (by decide) (by decide)) hx_68 (Nat.lt_succ_self _) (lv_sub hl [2, 1, 0] rfl) hH hS
