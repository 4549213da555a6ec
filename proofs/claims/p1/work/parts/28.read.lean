set_option maxHeartbeats 4000000 in
set_option maxRecDepth 100000 in
theorem c_X8_rankOf_k (l : Launch) (g : Gx) (Ty : TyM) (G : Gh) (a0 : Int32) : Met l yX8_rankOf (wsG yX8_rankOf cX8_rankOf 1 (some .int)) ({ frames := 0, cells := 0, slots := 0, locals := 0 }) (PcH g Ty G [.int a0]) (vp_Si (fun r => rgI (0) (4) r ∧ (rk0 a0 = true → r = 0))) 0 0 (fun _ => False) := by
  refine Met.ofW (cc := cX8_rankOf) (maxL := 1) (ret := (some .int)) (by decide) rfl ?_
  intro p e s m args below meth c s₁ B hml hv
  obtain ⟨rfl, hK, hH⟩ := hv
  have hx := B.exec
  have hb := B.bytes
  have hr := B.returns
  have hts := atoms_spec (ws := (wsG yX8_rankOf cX8_rankOf 1 (some .int))) B.pre
  have hG : ∀ w ∈ GW, w.before ([.int a0] : List Value).toArray s = true := fun w h => hts w (List.mem_cons_of_mem _ h)
  have hown : s.vm.findClass RX8 = some m.cls := findClass_of_methodNamed B.named
  have hlocks := B.notSynchronized
  have hl := lv_entry [.int a0] (n := 1) (Nat.le_of_ble_eq_true rfl)
  rw [lg_entry_eq]
  generalize (lg_sl [.int a0] ++ List.replicate (1 - (lg_sl [.int a0]).length) Slot.unset).toArray = ls at hl ⊢
  have hl : lv_has ls 1 [(0, .int a0)] := hl
  refine lv_iload_n hx hb dX8_rankOf_0 rfl (lv_at hl 0 rfl) ?_
  by_cases c_1 : a0 = 42
  · refine lv_lookup (tgt := 80) (off := 79) hx hb dX8_rankOf_1 (by decide) (by rw [c_1]; rfl) (by decide) ?_
    have r_2 : rgI (42) (42) a0 := rg_w (rg_eq rl_42 c_1) (by decide) (by decide)
    refine lv_iconst (v := 3) hx hb dX8_rankOf_80 (by decide) ?_
    exact W.iret hx hb hr (fun t ht hW => ⟨3, rfl, ⟨rg_w rl_3 (by decide) (by decide), (fun q => absurd q (by rw [c_1]; decide))⟩, ht⟩) (fun q h => by cases h) dX8_rankOf_81
  by_cases c_3 : a0 = 43
  · refine lv_lookup (tgt := 78) (off := 77) hx hb dX8_rankOf_1 (by decide) (by rw [c_3]; rfl) (by decide) ?_
    have r_4 : rgI (43) (43) a0 := rg_w (rg_eq rl_43 c_3) (by decide) (by decide)
    refine lv_iconst (v := 2) hx hb dX8_rankOf_78 (by decide) ?_
    exact W.iret hx hb hr (fun t ht hW => ⟨2, rfl, ⟨rg_w rl_2 (by decide) (by decide), (fun q => absurd q (by rw [c_3]; decide))⟩, ht⟩) (fun q h => by cases h) dX8_rankOf_79
  by_cases c_5 : a0 = 45
  · refine lv_lookup (tgt := 78) (off := 77) hx hb dX8_rankOf_1 (by decide) (by rw [c_5]; rfl) (by decide) ?_
    have r_6 : rgI (45) (45) a0 := rg_w (rg_eq rl_45 c_5) (by decide) (by decide)
    refine lv_iconst (v := 2) hx hb dX8_rankOf_78 (by decide) ?_
    exact W.iret hx hb hr (fun t ht hW => ⟨2, rfl, ⟨rg_w rl_2 (by decide) (by decide), (fun q => absurd q (by rw [c_5]; decide))⟩, ht⟩) (fun q h => by cases h) dX8_rankOf_79
  by_cases c_7 : a0 = 47
  · refine lv_lookup (tgt := 80) (off := 79) hx hb dX8_rankOf_1 (by decide) (by rw [c_7]; rfl) (by decide) ?_
    have r_8 : rgI (47) (47) a0 := rg_w (rg_eq rl_47 c_7) (by decide) (by decide)
    refine lv_iconst (v := 3) hx hb dX8_rankOf_80 (by decide) ?_
    exact W.iret hx hb hr (fun t ht hW => ⟨3, rfl, ⟨rg_w rl_3 (by decide) (by decide), (fun q => absurd q (by rw [c_7]; decide))⟩, ht⟩) (fun q h => by cases h) dX8_rankOf_81
  by_cases c_9 : a0 = 60
  · refine lv_lookup (tgt := 76) (off := 75) hx hb dX8_rankOf_1 (by decide) (by rw [c_9]; rfl) (by decide) ?_
    have r_10 : rgI (60) (60) a0 := rg_w (rg_eq rl_60 c_9) (by decide) (by decide)
    refine lv_iconst (v := 1) hx hb dX8_rankOf_76 (by decide) ?_
    exact W.iret hx hb hr (fun t ht hW => ⟨1, rfl, ⟨rg_w rl_1 (by decide) (by decide), (fun q => absurd q (by rw [c_9]; decide))⟩, ht⟩) (fun q h => by cases h) dX8_rankOf_77
  by_cases c_11 : a0 = 61
  · refine lv_lookup (tgt := 76) (off := 75) hx hb dX8_rankOf_1 (by decide) (by rw [c_11]; rfl) (by decide) ?_
    have r_12 : rgI (61) (61) a0 := rg_w (rg_eq rl_61 c_11) (by decide) (by decide)
    refine lv_iconst (v := 1) hx hb dX8_rankOf_76 (by decide) ?_
    exact W.iret hx hb hr (fun t ht hW => ⟨1, rfl, ⟨rg_w rl_1 (by decide) (by decide), (fun q => absurd q (by rw [c_11]; decide))⟩, ht⟩) (fun q h => by cases h) dX8_rankOf_77
  by_cases c_13 : a0 = 62
  · refine lv_lookup (tgt := 76) (off := 75) hx hb dX8_rankOf_1 (by decide) (by rw [c_13]; rfl) (by decide) ?_
    have r_14 : rgI (62) (62) a0 := rg_w (rg_eq rl_62 c_13) (by decide) (by decide)
    refine lv_iconst (v := 1) hx hb dX8_rankOf_76 (by decide) ?_
    exact W.iret hx hb hr (fun t ht hW => ⟨1, rfl, ⟨rg_w rl_1 (by decide) (by decide), (fun q => absurd q (by rw [c_13]; decide))⟩, ht⟩) (fun q h => by cases h) dX8_rankOf_77
  by_cases c_15 : a0 = 256
  · refine lv_lookup (tgt := 82) (off := 81) hx hb dX8_rankOf_1 (by decide) (by rw [c_15]; rfl) (by decide) ?_
    have r_16 : rgI (256) (256) a0 := rg_w (rg_eq rl_256 c_15) (by decide) (by decide)
    refine lv_iconst (v := 4) hx hb dX8_rankOf_82 (by decide) ?_
    exact W.iret hx hb hr (fun t ht hW => ⟨4, rfl, ⟨rg_w rl_4 (by decide) (by decide), (fun q => absurd q (by rw [c_15]; decide))⟩, ht⟩) (fun q h => by cases h) dX8_rankOf_83
  refine lv_lookup (tgt := 84) (off := 83) hx hb dX8_rankOf_1 (by decide) ((lv_osw c_1 rfl).trans ((lv_osw c_3 rfl).trans ((lv_osw c_5 rfl).trans ((lv_osw c_7 rfl).trans ((lv_osw c_9 rfl).trans ((lv_osw c_11 rfl).trans ((lv_osw c_13 rfl).trans ((lv_osw c_15 rfl).trans (rfl))))))))) (by decide) ?_
  refine lv_iconst (v := 0) hx hb dX8_rankOf_84 (by decide) ?_
  exact W.iret hx hb hr (fun t ht hW => ⟨0, rfl, ⟨rg_w rl_0 (by decide) (by decide), (fun _ => rfl)⟩, ht⟩) (fun q h => by cases h) dX8_rankOf_85

set_option maxHeartbeats 4000000 in
set_option maxRecDepth 100000 in
theorem c_X8_emit (l : Launch) (g : Gx) (Ty : TyM) (G : Gh) (sz : Nat) (h0 : Nat) (a0 : Int32) (k_h0 : Ty h0 = some (23, 0)) : Met l yX8_emit (wsG yX8_emit cX8_emit 2 none) ({ frames := 0, cells := 0, slots := 0, locals := 0 }) (PcT g Ty G sz [.ref h0, .int a0]) (QwV g Ty sz (fun u => u = (Ty, G))) 0 0 (AF Ty sz) := by
  refine Met.ofW (cc := cX8_emit) (maxL := 2) (ret := none) (by decide) rfl ?_
  intro p e s m args below meth c s₁ B hml hv
  obtain ⟨rfl, hsz, hK, hH⟩ := hv
  subst hsz
  have hx := B.exec
  have hb := B.bytes
  have hr := B.returns
  have hts := atoms_spec (ws := (wsG yX8_emit cX8_emit 2 none)) B.pre
  have hG : ∀ w ∈ GW, w.before ([.ref h0, .int a0] : List Value).toArray s = true := fun w h => hts w (List.mem_cons_of_mem _ h)
  have hown : s.vm.findClass RX8 = some m.cls := findClass_of_methodNamed B.named
  have hlocks := B.notSynchronized
  have hl := lv_entry [.ref h0, .int a0] (n := 2) (Nat.le_of_ble_eq_true rfl)
  rw [lg_entry_eq]
  generalize (lg_sl [.ref h0, .int a0] ++ List.replicate (2 - (lg_sl [.ref h0, .int a0]).length) Slot.unset).toArray = ls at hl ⊢
  have hl : lv_has ls 2 [(0, .ref h0), (1, .int a0)] := hl
  have hS : va_S (AF Ty s.heap.size) s.heap s.heap [] := va_S.rf
  refine lv_aload_n hx hb dX8_emit_0 rfl (lv_at hl 0 rfl) ?_
  obtain ⟨_, ⟨q_2, q_3, q_6, q_7, q_9, q_10, q_11, rfl, kq_2, kq_4, kq_10, kq_11, rq_3, rq_6, t_12⟩, o_c_1⟩ := hH h0 _ k_h0
  refine hg_get hx hb hG igX8 hown hK o_c_1 rfl 1 (by decide) (hG _ mw_203) rfl dX8_emit_1 ?_
  refine lv_bipush (v := 40) hx hb dX8_emit_4 (by decide) ?_
  refine lv_icmp_ge (tgt := 29) hx hb dX8_emit_6 (by decide) (fun c_13 => ?_) (fun c_13 => ?_)
  · have r_14 : rgI (40) (40) q_3 := rg_w (rg_leR rl_40 rq_3 c_13) (by decide) (by decide)
    exact W.vret hx hb hr (fun t ht hWm => ⟨⟨(Ty, G), rfl, rfl, by show HT g Ty G t.heap; rw [ht]; exact hH⟩, hS.F ht⟩) hS.2.2 dX8_emit_29
  · have r_15 : rgI (0) (39) q_3 := rg_w (rg_ltL rq_3 rl_40 (nle_lt c_13)) (by decide) (by decide)
    refine lv_aload_n hx hb dX8_emit_9 rfl (lv_at hl 0 rfl) ?_
    refine hg_get hx hb hG igX8 hown hK o_c_1 rfl 0 (by decide) (hG _ mw_202) rfl dX8_emit_10 ?_
    refine lv_aload_n hx hb dX8_emit_13 rfl (lv_at hl 0 rfl) ?_
    refine hg_get hx hb hG igX8 hown hK o_c_1 rfl 1 (by decide) (hG _ mw_203) rfl dX8_emit_14 ?_
    refine lv_iload_n hx hb dX8_emit_17 rfl (lv_at hl 1 rfl) ?_
    obtain ⟨_, ⟨f_17, rfl⟩, o_c_16⟩ := hH q_2 _ kq_2
    refine hg_iast hx hb hK hS o_c_16 (AF.of kq_2) (rg_in (n := 40) r_15 (by decide) (by decide)) dX8_emit_18 (fun H locs o_c_16 hz oq hS => ?_)
    generalize hff_18 : upd f_17 _ a0 = f_18 at o_c_16
    have hH : HT g Ty G H := hH.put kq_2 ⟨_, rfl⟩ o_c_16 oq
    have o_c_1 := o_c_1.kept (oq _ (ne_kd k_h0 kq_2 (by decide)))
    clear oq hz
    refine lv_aload_n hx hb dX8_emit_19 rfl (lv_at hl 0 rfl) ?_
    refine lv_dup hx hb dX8_emit_20 rfl ?_
    refine hg_get hx hb hG igX8 hown hK o_c_1 rfl 1 (by decide) (hG _ mw_203) rfl dX8_emit_21 ?_
    refine lv_iconst (v := 1) hx hb dX8_emit_24 (by decide) ?_
    refine lv_iadd hx hb dX8_emit_25 ?_
    refine lv_topi (fun x_19 ex_19 => ?_)
    have rx_19 : rgI (1) (40) x_19 := by rw [ex_19]; exact rg_w (rg_add r_15 rl_1 (by decide) (by decide)) (by decide) (by decide)
    have qx_19 : x_19.toInt = (q_3 : Int32).toInt + 1 := by rw [ex_19]; exact rg_addE r_15 rl_1 (by decide) (by decide)
    refine hg_put (ty := .int) hx hb hG igX8 tyX8 tyX8_ok nmX8 hown hK hS o_c_1 (AF.of k_h0) rfl 1 (by decide) (hG _ mw_203) rfl (by decide +kernel) rfl rfl (Nat.le_of_ble_eq_true rfl) dX8_emit_26 (fun H locs o_c_1 hz oq hS => ?_)
    have o_c_1 : va_at g.1 vwCl (h0, .inr (8, [.ref q_2, .int x_19, .ref (g.2.2 51), .int (G.1 5), .int q_6, .int q_7, .int (G.1 6), .int q_9, .ref q_10, .ref q_11])) H := o_c_1
    have hH : HT g Ty G H := hH.put k_h0 ⟨q_2, x_19, q_6, q_7, q_9, q_10, q_11, rfl, kq_2, kq_4, kq_10, kq_11, (rg_w rx_19 (by decide) (by decide)), rq_6, t_12⟩ o_c_1 oq
    have o_c_16 := o_c_16.kept (oq _ (ne_kd kq_2 k_h0 (by decide)))
    clear oq hz
    exact W.vret hx hb hr (fun t ht hWm => ⟨⟨(Ty, G), rfl, rfl, by show HT g Ty G t.heap; rw [ht]; exact hH⟩, hS.F ht⟩) hS.2.2 dX8_emit_29

set_option maxHeartbeats 4000000 in
set_option maxRecDepth 100000 in
theorem c_X8_hold (l : Launch) (g : Gx) (Ty : TyM) (G : Gh) (sz : Nat) (h0 : Nat) (a0 : Int32) (k_h0 : Ty h0 = some (23, 0)) (hw : rgI 0 40 (G.1 5)) : Met l yX8_hold (wsG yX8_hold cX8_hold 2 none) ({ frames := 0, cells := 0, slots := 0, locals := 0 }) (PcT g Ty G sz [.ref h0, .int a0]) (QwV g Ty sz (fun u => u.1 = Ty ∧ HoldR g G u.2 a0)) 0 0 (AF Ty sz) := by
  refine Met.ofW (cc := cX8_hold) (maxL := 2) (ret := none) (by decide) rfl ?_
  intro p e s m args below meth c s₁ B hml hv
  obtain ⟨rfl, hsz, hK, hH⟩ := hv
  subst hsz
  have hx := B.exec
  have hb := B.bytes
  have hr := B.returns
  have hts := atoms_spec (ws := (wsG yX8_hold cX8_hold 2 none)) B.pre
  have hG : ∀ w ∈ GW, w.before ([.ref h0, .int a0] : List Value).toArray s = true := fun w h => hts w (List.mem_cons_of_mem _ h)
  have hown : s.vm.findClass RX8 = some m.cls := findClass_of_methodNamed B.named
  have hlocks := B.notSynchronized
  have hl := lv_entry [.ref h0, .int a0] (n := 2) (Nat.le_of_ble_eq_true rfl)
  rw [lg_entry_eq]
  generalize (lg_sl [.ref h0, .int a0] ++ List.replicate (2 - (lg_sl [.ref h0, .int a0]).length) Slot.unset).toArray = ls at hl ⊢
  have hl : lv_has ls 2 [(0, .ref h0), (1, .int a0)] := hl
  have hS : va_S (AF Ty s.heap.size) s.heap s.heap [] := va_S.rf
  refine lv_aload_n hx hb dX8_hold_0 rfl (lv_at hl 0 rfl) ?_
  obtain ⟨_, ⟨q_2, q_3, q_6, q_7, q_9, q_10, q_11, rfl, kq_2, kq_4, kq_10, kq_11, rq_3, rq_6, t_12⟩, o_c_1⟩ := hH h0 _ k_h0
  refine hg_get hx hb hG igX8 hown hK o_c_1 rfl 3 (by decide) (hG _ mw_205) rfl dX8_hold_1 ?_
  refine lv_bipush (v := 40) hx hb dX8_hold_4 (by decide) ?_
  refine lv_icmp_ge (tgt := 29) hx hb dX8_hold_6 (by decide) (fun c_13 => ?_) (fun c_13 => ?_)
  · have r_14 : rgI (40) (40) (G.1 5) := rg_w (rg_leR rl_40 hw c_13) (by decide) (by decide)
    exact W.vret hx hb hr (fun t ht hWm => ⟨⟨(Ty, G), rfl, ⟨rfl, Or.inr ⟨c_13, rfl⟩⟩, by show HT g Ty G t.heap; rw [ht]; exact hH⟩, hS.F ht⟩) hS.2.2 dX8_hold_29
  · have r_15 : rgI (0) (39) (G.1 5) := rg_w (rg_ltL hw rl_40 (nle_lt c_13)) (by decide) (by decide)
    refine lv_aload_n hx hb dX8_hold_9 rfl (lv_at hl 0 rfl) ?_
    refine hg_get hx hb hG igX8 hown hK o_c_1 rfl 2 (by decide) (hG _ mw_204) rfl dX8_hold_10 ?_
    refine lv_aload_n hx hb dX8_hold_13 rfl (lv_at hl 0 rfl) ?_
    refine hg_get hx hb hG igX8 hown hK o_c_1 rfl 3 (by decide) (hG _ mw_205) rfl dX8_hold_14 ?_
    refine lv_iload_n hx hb dX8_hold_17 rfl (lv_at hl 1 rfl) ?_
    obtain ⟨_, rfl, o_c_16⟩ := hH (g.2.2 51) _ kq_4
    have o_c_16 : va_at g.1 vwCl ((g.2.2 51), .inl (g.2.1 1, 40, .inl (G.2.1 (g.2.2 51)))) s.heap := o_c_16
    refine hg_iast hx hb hK hS o_c_16 (AF.of kq_4) (rg_in (n := 40) r_15 (by decide) (by decide)) dX8_hold_18 (fun H locs o_c_16 hz oq hS => ?_)
    obtain ⟨G_17, eG_17⟩ : ∃ z : Gh, z = aset G (g.2.2 51) (upd (G.2.1 (g.2.2 51)) ((G.1 5) : Int32).toNatClampNeg a0) := ⟨_, rfl⟩
    have hH : HT g Ty G_17 H := by rw [eG_17]; exact HT.putA (upd (G.2.1 (g.2.2 51)) ((G.1 5) : Int32).toNatClampNeg a0) hH kq_4 cf30 o_c_16 oq
    have u_18 : G_17.1 5 = (G.1 5) := by rw [eG_17]; exact rfl
    clear oq hz
    refine lv_aload_n hx hb dX8_hold_19 rfl (lv_at hl 0 rfl) ?_
    refine lv_dup hx hb dX8_hold_20 rfl ?_
    obtain ⟨_, ⟨q_20, q_21, q_24, q_25, q_27, q_28, q_29, rfl, kq_20, kq_22, kq_28, kq_29, rq_21, rq_24, t_30⟩, o_c_19⟩ := hH h0 _ k_h0
    refine hg_get hx hb hG igX8 hown hK o_c_19 rfl 3 (by decide) (hG _ mw_205) rfl dX8_hold_21 ?_
    rw [u_18]
    refine lv_iconst (v := 1) hx hb dX8_hold_24 (by decide) ?_
    refine lv_iadd hx hb dX8_hold_25 ?_
    refine lv_topi (fun x_31 ex_31 => ?_)
    have rx_31 : rgI (1) (41) x_31 := by rw [ex_31]; exact rg_w (rg_add hw rl_1 (by decide) (by decide)) (by decide) (by decide)
    have qx_31 : x_31.toInt = ((G.1 5) : Int32).toInt + 1 := by rw [ex_31]; exact rg_addE hw rl_1 (by decide) (by decide)
    refine hg_put (ty := .int) hx hb hG igX8 tyX8 tyX8_ok nmX8 hown hK hS o_c_19 (AF.of k_h0) rfl 3 (by decide) (hG _ mw_205) rfl (by decide +kernel) rfl rfl (Nat.le_of_ble_eq_true rfl) dX8_hold_26 (fun H locs o_c_19 hz oq hS => ?_)
    obtain ⟨G_32, eG_32⟩ : ∃ z : Gh, z = gset G_17 5 x_31 := ⟨_, rfl⟩
    have hH : HT g Ty G_32 H := by rw [eG_32]; exact HT.putN 5 x_31 hH k_h0 ⟨q_20, q_21, q_24, q_25, q_27, q_28, q_29, rfl, kq_20, kq_22, kq_28, kq_29, rq_21, rq_24, t_30⟩ o_c_19 oq (Or.inr (Or.inr (Or.inr (Or.inr (Or.inl ⟨Or.inl rfl, t_30⟩)))))
    have u_33 : G_32.1 5 = x_31 := by rw [eG_32]; exact gs_eq
    clear oq hz
    exact W.vret hx hb hr (fun t ht hWm => ⟨⟨(Ty, G_32), rfl, ⟨rfl, Or.inl ⟨(nle_lt c_13), by rw [eG_32, ex_31, eG_17]⟩⟩, by show HT g Ty G_32 t.heap; rw [ht]; exact hH⟩, hS.F ht⟩) hS.2.2 dX8_hold_29

set_option maxHeartbeats 4000000 in
set_option maxRecDepth 100000 in
theorem c_X8_release (l : Launch) (g : Gx) (Ty : TyM) (G : Gh) (sz : Nat) (h0 : Nat) (a0 : Int32) (k_h0 : Ty h0 = some (23, 0)) (hw : rgI 0 40 (G.1 5)) : Met l yX8_release (wsG yX8_release cX8_release 3 none) ({ frames := 1, cells := 0, slots := 0, locals := 21 }) (PcT g Ty G sz [.ref h0, .int a0]) (QwV g Ty sz (fun u => u.1 = Ty ∧ RelR g G u.2 a0)) 0 0 (AF Ty sz) := by
  refine Met.ofW (cc := cX8_release) (maxL := 3) (ret := none) (by decide) rfl ?_
  intro p e s m args below meth c s₁ B hml hv
  obtain ⟨rfl, hsz, hK, hH⟩ := hv
  subst hsz
  have hx := B.exec
  have hb := B.bytes
  have hr := B.returns
  have hts := atoms_spec (ws := (wsG yX8_release cX8_release 3 none)) B.pre
  have hG : ∀ w ∈ GW, w.before ([.ref h0, .int a0] : List Value).toArray s = true := fun w h => hts w (List.mem_cons_of_mem _ h)
  have hown : s.vm.findClass RX8 = some m.cls := findClass_of_methodNamed B.named
  have hlocks := B.notSynchronized
  have hl := lv_entry [.ref h0, .int a0] (n := 3) (Nat.le_of_ble_eq_true rfl)
  rw [lg_entry_eq]
  generalize (lg_sl [.ref h0, .int a0] ++ List.replicate (3 - (lg_sl [.ref h0, .int a0]).length) Slot.unset).toArray = ls at hl ⊢
  have hl : lv_has ls 3 [(0, .ref h0), (1, .int a0)] := hl
  have hS : va_S (AF Ty s.heap.size) s.heap s.heap [] := va_S.rf
  have L_2 : ∀ (n : Nat) (H : Heap) (locs : List Loc) (G_2 : Gh) (y2_2 : Int32) (ls : Array Slot), rgI (0) (40) (G_2.1 5) → rgI (0) (40) y2_2 → RelR g G G_2 a0 → (40 - (y2_2).toInt).toNat < n → lv_has ls 3 [(0, .ref h0), (1, .int a0), (2, .int y2_2)] → HT g Ty G_2 H → va_S (AF Ty s.heap.size) s.heap H locs → Wm p l e (wsG yX8_release cX8_release 3 none) ({ frames := 1, cells := 0, slots := 0, locals := 21 }) s m [.ref h0, .int a0] below meth c H locs (0) (0) (QwV g Ty s.heap.size (fun u => u.1 = Ty ∧ RelR g G u.2 a0)) 0 0 (AF Ty s.heap.size) (F0 m 2 ls []) := by
    intro n
    induction n with
    | zero => intro H locs G_2 y2_2 ls rg5_2 ry2_2 hi0_2 hm; exact absurd hm (Nat.not_lt_zero _)
    | succ n ih_2 =>
      intro H locs G_2 y2_2 ls rg5_2 ry2_2 hi0_2 hm_2 hl hH hS
      refine lv_iload_n hx hb dX8_release_2 rfl (lv_at hl 2 rfl) ?_
      refine lv_bipush (v := 40) hx hb dX8_release_3 (by decide) ?_
      refine lv_icmp_ge (tgt := 66) hx hb dX8_release_5 (by decide) (fun c_1 => ?_) (fun c_1 => ?_)
      · have r_2 : rgI (40) (40) y2_2 := rg_w (rg_leR rl_40 ry2_2 c_1) (by decide) (by decide)
        exact W.vret hx hb hr (fun t ht hWm => ⟨⟨(Ty, G_2), rfl, ⟨rfl, hi0_2⟩, by show HT g Ty G_2 t.heap; rw [ht]; exact hH⟩, hS.F ht⟩) hS.2.2 dX8_release_66
      · have r_3 : rgI (0) (39) y2_2 := rg_w (rg_ltL ry2_2 rl_40 (nle_lt c_1)) (by decide) (by decide)
        refine lv_aload_n hx hb dX8_release_8 rfl (lv_at hl 0 rfl) ?_
        obtain ⟨_, ⟨q_5, q_6, q_9, q_10, q_12, q_13, q_14, rfl, kq_5, kq_7, kq_13, kq_14, rq_6, rq_9, t_15⟩, o_c_4⟩ := hH h0 _ k_h0
        refine hg_get hx hb hG igX8 hown hK o_c_4 rfl 3 (by decide) (hG _ mw_205) rfl dX8_release_9 ?_
        refine lv_if_le (tgt := 66) hx hb dX8_release_12 (by decide) (fun c_16 => ?_) (fun c_16 => ?_)
        · have r_17 : rgI (0) (0) (G_2.1 5) := rg_w (rg_leL rg5_2 rl_0 c_16) (by decide) (by decide)
          exact W.vret hx hb hr (fun t ht hWm => ⟨⟨(Ty, G_2), rfl, ⟨rfl, hi0_2⟩, by show HT g Ty G_2 t.heap; rw [ht]; exact hH⟩, hS.F ht⟩) hS.2.2 dX8_release_66
        · have r_18 : rgI (1) (40) (G_2.1 5) := rg_w (rg_ltR rl_0 rg5_2 (nle_lt c_16)) (by decide) (by decide)
          refine lv_aload_n hx hb dX8_release_15 rfl (lv_at hl 0 rfl) ?_
          refine hg_get hx hb hG igX8 hown hK o_c_4 rfl 2 (by decide) (hG _ mw_204) rfl dX8_release_16 ?_
          refine lv_aload_n hx hb dX8_release_19 rfl (lv_at hl 0 rfl) ?_
          refine hg_get hx hb hG igX8 hown hK o_c_4 rfl 3 (by decide) (hG _ mw_205) rfl dX8_release_20 ?_
          refine lv_iconst (v := 1) hx hb dX8_release_23 (by decide) ?_
          refine lv_isub hx hb dX8_release_24 ?_
          refine lv_topi (fun x_19 ex_19 => ?_)
          have rx_19 : rgI (0) (39) x_19 := by rw [ex_19]; exact rg_w (rg_sub r_18 rl_1 (by decide) (by decide)) (by decide) (by decide)
          obtain ⟨_, rfl, o_c_20⟩ := hH (g.2.2 51) _ kq_7
          have o_c_20 : va_at g.1 vwCl ((g.2.2 51), .inl (g.2.1 1, 40, .inl (G_2.2.1 (g.2.2 51)))) H := o_c_20
          refine hg_iald hx hb hK o_c_20 (rg_in (n := 40) rx_19 (by decide) (by decide)) dX8_release_25 ?_
          refine lv_topi (fun x_21 ex_21 => ?_)
          refine vp_callSi (W.runS (As := [.int x_21]) (rest := []) ⟨hx, hb, hml, hown, hts⟩ (c_X8_rankOf_k l g Ty G_2 x_21 ) (cwSx 1 hts hG (gwC mw_555) mw_81 mw_553 mw_554 rfl rfl rfl hd_X8_rankOf ⟨Nat.le_of_ble_eq_true rfl, Nat.le_of_ble_eq_true rfl⟩) ⟨PcH_blind, PcH_pre hK hH⟩ rfl rfl hl.1 rfl (lv_room (Nat.le_of_ble_eq_true rfl)) dX8_release_26 ⟨Nat.zero_le _, Nat.zero_le _⟩) (fun x_22 hx_22 => ?_)
          have rx_22 : rgI (0) (4) x_22 := hx_22.1
          refine lv_iload_n hx hb dX8_release_29 rfl (lv_at hl 1 rfl) ?_
          refine lv_icmp_lt (tgt := 66) hx hb dX8_release_30 (by decide) (fun c_23 => ?_) (fun c_23 => ?_)
          · have r_24 : rgI (1) (2147483647) a0 := rg_w (rg_ltR rx_22 (rg_top a0) c_23) (by decide) (by decide)
            exact W.vret hx hb hr (fun t ht hWm => ⟨⟨(Ty, G_2), rfl, ⟨rfl, hi0_2⟩, by show HT g Ty G_2 t.heap; rw [ht]; exact hH⟩, hS.F ht⟩) hS.2.2 dX8_release_66
          · have r_25 : rgI (-2147483648) (4) a0 := rg_w (rg_leL (rg_top a0) rx_22 (nlt_le c_23)) (by decide) (by decide)
            refine lv_aload_n hx hb dX8_release_33 rfl (lv_at hl 0 rfl) ?_
            refine lv_dup hx hb dX8_release_34 rfl ?_
            refine hg_get hx hb hG igX8 hown hK o_c_4 rfl 3 (by decide) (hG _ mw_205) rfl dX8_release_35 ?_
            refine lv_iconst (v := 1) hx hb dX8_release_38 (by decide) ?_
            refine lv_isub hx hb dX8_release_39 ?_
            refine lv_topi (fun x_26 ex_26 => ?_)
            have rx_26 : rgI (0) (39) x_26 := by rw [ex_26]; exact rg_w (rg_sub r_18 rl_1 (by decide) (by decide)) (by decide) (by decide)
            refine hg_put (ty := .int) hx hb hG igX8 tyX8 tyX8_ok nmX8 hown hK hS o_c_4 (AF.of k_h0) rfl 3 (by decide) (hG _ mw_205) rfl (by decide +kernel) rfl rfl (Nat.le_of_ble_eq_true rfl) dX8_release_40 (fun H locs o_c_4 hz oq hS => ?_)
            obtain ⟨G_27, eG_27⟩ : ∃ z : Gh, z = gset G_2 5 x_26 := ⟨_, rfl⟩
            have hH : HT g Ty G_27 H := by rw [eG_27]; exact HT.putN 5 x_26 hH k_h0 ⟨q_5, q_6, q_9, q_10, q_12, q_13, q_14, rfl, kq_5, kq_7, kq_13, kq_14, rq_6, rq_9, t_15⟩ o_c_4 oq (Or.inr (Or.inr (Or.inr (Or.inr (Or.inl ⟨Or.inl rfl, t_15⟩)))))
            have u_28 : G_27.1 5 = x_26 := by rw [eG_27]; exact gs_eq
            clear oq hz
            refine lv_aload_n hx hb dX8_release_43 rfl (lv_at hl 0 rfl) ?_
            refine lv_sipush (v := 2000) hx hb dX8_release_44 (by decide) ?_
            refine lv_aload_n hx hb dX8_release_47 rfl (lv_at hl 0 rfl) ?_
            obtain ⟨_, ⟨q_30, q_31, q_34, q_35, q_37, q_38, q_39, rfl, kq_30, kq_32, kq_38, kq_39, rq_31, rq_34, t_40⟩, o_c_29⟩ := hH h0 _ k_h0
            refine hg_get hx hb hG igX8 hown hK o_c_29 rfl 2 (by decide) (hG _ mw_204) rfl dX8_release_48 ?_
            refine lv_aload_n hx hb dX8_release_51 rfl (lv_at hl 0 rfl) ?_
            refine hg_get hx hb hG igX8 hown hK o_c_29 rfl 3 (by decide) (hG _ mw_205) rfl dX8_release_52 ?_
            rw [u_28]
            obtain ⟨_, rfl, o_c_41⟩ := hH (g.2.2 51) _ kq_32
            have o_c_41 : va_at g.1 vwCl ((g.2.2 51), .inl (g.2.1 1, 40, .inl (G_27.2.1 (g.2.2 51)))) H := o_c_41
            refine hg_iald hx hb hK o_c_41 (rg_in (n := 40) rx_26 (by decide) (by decide)) dX8_release_55 ?_
            refine lv_topi (fun x_42 ex_42 => ?_)
            refine lv_iadd hx hb dX8_release_56 ?_
            refine lv_topi (fun x_43 ex_43 => ?_)
            refine va_callv (va_runV (As := [.int x_43]) (rest := []) ⟨hx, hb, hml, hown, hts⟩ (c_X8_emit l g Ty G_27 H.size h0 x_43 k_h0) (cwV 1 hts (gwV mw_533 mw_535 mw_3 mw_81 mw_536) rfl rfl rfl hv_X8_emit ⟨Nat.le_of_ble_eq_true rfl, Nat.le_of_ble_eq_true rfl⟩) ⟨PcT_blind, hg_recv hK o_c_29 rfl, PcT_pre hK hH⟩ rfl rfl hl.1 rfl (lv_room (Nat.le_of_ble_eq_true rfl)) dX8_release_57 ⟨Nat.zero_le _, Nat.zero_le _⟩) hS (fun q _ h => AF.mono hS.1 h) (fun q h => AF.mono hS.1 h) (fun ux_44 t H locs ht hvm hx_44 hB hz hk hS => ?_)
            have hH : HT g Ty G_27 H := by rw [← ht]; rw [hx_44] at hB; exact hB
            obtain ⟨x_45, ex_45⟩ : ∃ y : Int32, y = y2_2 + 1 := ⟨_, rfl⟩
            have rx_45 : rgI (1) (40) x_45 := by rw [ex_45]; exact rg_w (rg_add r_3 rl_1 (by decide) (by decide)) (by decide) (by decide)
            have qx_45 : x_45.toInt = (y2_2 : Int32).toInt + 1 := by rw [ex_45]; exact rg_addE r_3 rl_1 (by decide) (by decide)
            refine lv_iinc (v := x_45) (lv' := [(2, .int x_45), (0, .ref h0), (1, .int a0)]) hx hb dX8_release_60 hl (k := 2) rfl (by rw [ex_45]; rfl) (by decide) rfl (fun ls hl => ?_)
            refine lv_goto (tgt := 2) hx hb dX8_release_63 (by decide) ?_
            exact ih_2 H locs G_27 x_45 ls (by rw [u_28]; exact rg_w rx_26 (by decide) (by decide)) (rg_w rx_45 (by decide) (by decide)) (rel_more hi0_2 (nle_lt c_16) rg5_2.2 ex_26 (by rw [← ex_21]; exact hx_22.2) ex_19 (nlt_le c_23) eG_27) (by have h1 := qx_45; have h2 := r_3.1; have h3 := r_3.2; have h4 := hm_2; omega) (lv_sub hl [1, 2, 0] rfl) hH hS
  refine lv_iconst (v := 0) hx hb dX8_release_0 (by decide) ?_
  refine lv_istore_n (lv' := [(2, .int 0), (0, .ref h0), (1, .int a0)]) hx hb dX8_release_1 rfl hl (by decide) rfl (fun ls hl => ?_)
  exact L_2 _ s.heap [] G 0 ls (rg_w hw (by decide) (by decide)) (rg_w rl_0 (by decide) (by decide)) (RelR.rf hw) (Nat.lt_succ_self _) (lv_sub hl [1, 2, 0] rfl) hH hS

set_option maxHeartbeats 4000000 in
set_option maxRecDepth 100000 in
theorem c_X8_opens (l : Launch) (g : Gx) (Ty : TyM) (G : Gh) (sz : Nat) (h0 : Nat) (k_h0 : Ty h0 = some (23, 0)) (hW : RW g G) (hp : (G.1 5).toInt ≤ 39) : Met l yX8_opens (wsG yX8_opens cX8_opens 1 (some .boolean)) ({ frames := 1, cells := 0, slots := 0, locals := 21 }) (PcT g Ty G sz [.ref h0]) (QwI g Ty sz (fun r u => (rgI (0) (1) r) ∧ u.1 = Ty ∧ STEP g G u.2)) 0 0 (AF Ty sz) := by
  refine Met.ofW (cc := cX8_opens) (maxL := 1) (ret := (some .boolean)) (by decide) rfl ?_
  intro p e s m args below meth c s₁ B hml hv
  obtain ⟨rfl, hsz, hK, hH⟩ := hv
  subst hsz
  have hx := B.exec
  have hb := B.bytes
  have hr := B.returns
  have hts := atoms_spec (ws := (wsG yX8_opens cX8_opens 1 (some .boolean))) B.pre
  have hG : ∀ w ∈ GW, w.before ([.ref h0] : List Value).toArray s = true := fun w h => hts w (List.mem_cons_of_mem _ h)
  have hown : s.vm.findClass RX8 = some m.cls := findClass_of_methodNamed B.named
  have hlocks := B.notSynchronized
  have hl := lv_entry [.ref h0] (n := 1) (Nat.le_of_ble_eq_true rfl)
  rw [lg_entry_eq]
  generalize (lg_sl [.ref h0] ++ List.replicate (1 - (lg_sl [.ref h0]).length) Slot.unset).toArray = ls at hl ⊢
  have hl : lv_has ls 1 [(0, .ref h0)] := hl
  have hS : va_S (AF Ty s.heap.size) s.heap s.heap [] := va_S.rf
  refine lv_aload_n hx hb dX8_opens_0 rfl (lv_at hl 0 rfl) ?_
  obtain ⟨_, ⟨q_2, q_3, q_6, q_7, q_9, q_10, q_11, rfl, kq_2, kq_4, kq_10, kq_11, rq_3, rq_6, t_12⟩, o_c_1⟩ := hH h0 _ k_h0
  refine hg_get hx hb hG igX8 hown hK o_c_1 rfl 6 (by decide) (hG _ mw_208) rfl dX8_opens_1 ?_
  refine lv_iconst (v := 4) hx hb dX8_opens_4 (by decide) ?_
  refine lv_icmp_lt (tgt := 10) hx hb dX8_opens_5 (by decide) (fun c_13 => ?_) (fun c_13 => ?_)
  · have r_14 : rgI (0) (3) (G.1 6) := rg_w (rg_ltL hW.2.1 rl_4 c_13) (by decide) (by decide)
    refine lv_aload_n hx hb dX8_opens_10 rfl (lv_at hl 0 rfl) ?_
    refine lv_dup hx hb dX8_opens_11 rfl ?_
    refine hg_get hx hb hG igX8 hown hK o_c_1 rfl 6 (by decide) (hG _ mw_208) rfl dX8_opens_12 ?_
    refine lv_iconst (v := 1) hx hb dX8_opens_15 (by decide) ?_
    refine lv_iadd hx hb dX8_opens_16 ?_
    refine lv_topi (fun x_15 ex_15 => ?_)
    have rx_15 : rgI (1) (4) x_15 := by rw [ex_15]; exact rg_w (rg_add r_14 rl_1 (by decide) (by decide)) (by decide) (by decide)
    have qx_15 : x_15.toInt = ((G.1 6) : Int32).toInt + 1 := by rw [ex_15]; exact rg_addE r_14 rl_1 (by decide) (by decide)
    refine hg_put (ty := .int) hx hb hG igX8 tyX8 tyX8_ok nmX8 hown hK hS o_c_1 (AF.of k_h0) rfl 6 (by decide) (hG _ mw_208) rfl (by decide +kernel) rfl rfl (Nat.le_of_ble_eq_true rfl) dX8_opens_17 (fun H locs o_c_1 hz oq hS => ?_)
    obtain ⟨G_16, eG_16⟩ : ∃ z : Gh, z = gset G 6 x_15 := ⟨_, rfl⟩
    have hH : HT g Ty G_16 H := by rw [eG_16]; exact HT.putN 6 x_15 hH k_h0 ⟨q_2, q_3, q_6, q_7, q_9, q_10, q_11, rfl, kq_2, kq_4, kq_10, kq_11, rq_3, rq_6, t_12⟩ o_c_1 oq (Or.inr (Or.inr (Or.inr (Or.inr (Or.inl ⟨Or.inr rfl, t_12⟩)))))
    have u_17 : G_16.1 5 = (G.1 5) := by rw [eG_16]; exact gs_ne (by decide)
    have u_18 : G_16.1 6 = x_15 := by rw [eG_16]; exact gs_eq
    clear oq hz
    refine lv_aload_n hx hb dX8_opens_20 rfl (lv_at hl 0 rfl) ?_
    refine lv_dup hx hb dX8_opens_21 rfl ?_
    obtain ⟨_, ⟨q_20, q_21, q_24, q_25, q_27, q_28, q_29, rfl, kq_20, kq_22, kq_28, kq_29, rq_21, rq_24, t_30⟩, o_c_19⟩ := hH h0 _ k_h0
    refine hg_get hx hb hG igX8 hown hK o_c_19 rfl 7 (by decide) (hG _ mw_209) rfl dX8_opens_22 ?_
    refine lv_iconst (v := 1) hx hb dX8_opens_25 (by decide) ?_
    refine lv_aload_n hx hb dX8_opens_26 rfl (lv_at hl 0 rfl) ?_
    refine hg_get hx hb hG igX8 hown hK o_c_19 rfl 6 (by decide) (hG _ mw_208) rfl dX8_opens_27 ?_
    rw [u_18]
    refine lv_ishl hx hb dX8_opens_30 ?_
    refine lv_topi (fun x_31 ex_31 => ?_)
    refine lv_iconst (v := (-1)) hx hb dX8_opens_31 (by decide) ?_
    refine lv_ixor hx hb dX8_opens_32 ?_
    refine lv_topi (fun x_32 ex_32 => ?_)
    refine lv_iand hx hb dX8_opens_33 ?_
    refine lv_topi (fun x_33 ex_33 => ?_)
    refine hg_put (ty := .int) hx hb hG igX8 tyX8 tyX8_ok nmX8 hown hK hS o_c_19 (AF.of k_h0) rfl 7 (by decide) (hG _ mw_209) rfl (by decide +kernel) rfl rfl (Nat.le_of_ble_eq_true rfl) dX8_opens_34 (fun H locs o_c_19 hz oq hS => ?_)
    have o_c_19 : va_at g.1 vwCl (h0, .inr (8, [.ref q_20, .int q_21, .ref (g.2.2 51), .int (G_16.1 5), .int q_24, .int q_25, .int (G_16.1 6), .int x_33, .ref q_28, .ref q_29])) H := o_c_19
    have hH : HT g Ty G_16 H := hH.put k_h0 ⟨q_20, q_21, q_24, q_25, x_33, q_28, q_29, rfl, kq_20, kq_22, kq_28, kq_29, rq_21, rq_24, t_30⟩ o_c_19 oq
    clear oq hz
    refine lv_aload_n hx hb dX8_opens_37 rfl (lv_at hl 0 rfl) ?_
    refine lv_bipush (v := 40) hx hb dX8_opens_38 (by decide) ?_
    refine va_callv (va_runV (As := [.int 40]) (rest := []) ⟨hx, hb, hml, hown, hts⟩ (c_X8_hold l g Ty G_16 H.size h0 40 k_h0 (by rw [u_17]; exact rg_w hW.1 (by decide) (by decide))) (cwV 1 hts (gwV mw_435 mw_437 mw_1 mw_81 mw_438) rfl rfl rfl hv_X8_hold ⟨Nat.le_of_ble_eq_true rfl, Nat.le_of_ble_eq_true rfl⟩) ⟨PcT_blind, hg_recv hK o_c_19 rfl, PcT_pre hK hH⟩ rfl rfl hl.1 rfl (lv_room (Nat.le_of_ble_eq_true rfl)) dX8_opens_40 ⟨Nat.zero_le _, Nat.zero_le _⟩) hS (fun q _ h => AF.mono hS.1 h) (fun q h => AF.mono hS.1 h) (fun ux_34 t H locs ht hvm hx_34 hB hz hk hS => ?_)
    obtain ⟨eTx_34, eGx_34⟩ := hx_34
    obtain ⟨G_35, eG_35⟩ : ∃ z, z = ux_34.2 := ⟨_, rfl⟩
    rw [← eG_35] at eGx_34
    have hH : HT g Ty G_35 H := by rw [← ht, ← eTx_34, eG_35]; exact hB
    refine lv_iconst (v := 1) hx hb dX8_opens_43 (by decide) ?_
    exact W.zret hx hb hr rfl (fun t ht hWm => ⟨⟨1, (Ty, G_35), rfl, ⟨rg_w rl_1 (by decide) (by decide), ⟨rfl, open_step hW hp c_13 eG_16 ex_15 eGx_34⟩⟩, by show HT g Ty G_35 t.heap; rw [ht]; exact hH⟩, hS.F ht⟩) hS.2.2 dX8_opens_44
  · have r_36 : rgI (4) (4) (G.1 6) := rg_w (rg_leR rl_4 hW.2.1 (nlt_le c_13)) (by decide) (by decide)
    refine lv_iconst (v := 0) hx hb dX8_opens_8 (by decide) ?_
    exact W.zret hx hb hr rfl (fun t ht hWm => ⟨⟨0, (Ty, G), rfl, ⟨rg_w rl_0 (by decide) (by decide), ⟨rfl, STEP.rf hW⟩⟩, by show HT g Ty G t.heap; rw [ht]; exact hH⟩, hS.F ht⟩) hS.2.2 dX8_opens_9

set_option maxHeartbeats 4000000 in
set_option maxRecDepth 100000 in
theorem c_X8_addsDigit (l : Launch) (g : Gx) (Ty : TyM) (G : Gh) (sz : Nat) (h0 : Nat) (a0 : Int32) (k_h0 : Ty h0 = some (23, 0)) : Met l yX8_addsDigit (wsG yX8_addsDigit cX8_addsDigit 2 (some .boolean)) ({ frames := 0, cells := 0, slots := 0, locals := 0 }) (PcT g Ty G sz [.ref h0, .int a0]) (QwI g Ty sz (fun r u => (rgI (0) (1) r) ∧ u = (Ty, G))) 0 0 (AF Ty sz) := by
  refine Met.ofW (cc := cX8_addsDigit) (maxL := 2) (ret := (some .boolean)) (by decide) rfl ?_
  intro p e s m args below meth c s₁ B hml hv
  obtain ⟨rfl, hsz, hK, hH⟩ := hv
  subst hsz
  have hx := B.exec
  have hb := B.bytes
  have hr := B.returns
  have hts := atoms_spec (ws := (wsG yX8_addsDigit cX8_addsDigit 2 (some .boolean))) B.pre
  have hG : ∀ w ∈ GW, w.before ([.ref h0, .int a0] : List Value).toArray s = true := fun w h => hts w (List.mem_cons_of_mem _ h)
  have hown : s.vm.findClass RX8 = some m.cls := findClass_of_methodNamed B.named
  have hlocks := B.notSynchronized
  have hl := lv_entry [.ref h0, .int a0] (n := 2) (Nat.le_of_ble_eq_true rfl)
  rw [lg_entry_eq]
  generalize (lg_sl [.ref h0, .int a0] ++ List.replicate (2 - (lg_sl [.ref h0, .int a0]).length) Slot.unset).toArray = ls at hl ⊢
  have hl : lv_has ls 2 [(0, .ref h0), (1, .int a0)] := hl
  have hS : va_S (AF Ty s.heap.size) s.heap s.heap [] := va_S.rf
  have L_22 : ∀ (H : Heap) (locs : List Loc) (ls : Array Slot), lv_has ls 2 [] → HT g Ty G H → va_S (AF Ty s.heap.size) s.heap H locs → Wm p l e (wsG yX8_addsDigit cX8_addsDigit 2 (some .boolean)) ({ frames := 0, cells := 0, slots := 0, locals := 0 }) s m [.ref h0, .int a0] below meth c H locs (0) (0) (QwI g Ty s.heap.size (fun r u => (rgI (0) (1) r) ∧ u = (Ty, G))) 0 0 (AF Ty s.heap.size) (F0 m 22 ls []) := by
    intro H locs ls hl hH hS
    refine lv_iconst (v := 0) hx hb dX8_addsDigit_22 (by decide) ?_
    exact W.zret hx hb hr rfl (fun t ht hWm => ⟨⟨0, (Ty, G), rfl, ⟨rg_w rl_0 (by decide) (by decide), rfl⟩, by show HT g Ty G t.heap; rw [ht]; exact hH⟩, hS.F ht⟩) hS.2.2 dX8_addsDigit_23
  refine lv_aload_n hx hb dX8_addsDigit_0 rfl (lv_at hl 0 rfl) ?_
  obtain ⟨_, ⟨q_2, q_3, q_6, q_7, q_9, q_10, q_11, rfl, kq_2, kq_4, kq_10, kq_11, rq_3, rq_6, t_12⟩, o_c_1⟩ := hH h0 _ k_h0
  refine hg_get hx hb hG igX8 hown hK o_c_1 rfl 5 (by decide) (hG _ mw_207) rfl dX8_addsDigit_1 ?_
  refine lv_if_eq (tgt := 22) hx hb dX8_addsDigit_4 (by decide) (fun c_13 => ?_) (fun c_13 => ?_)
  · have r_14 : rgI (0) (0) q_7 := rg_w (rg_eq rl_0 c_13) (by decide) (by decide)
    exact L_22 s.heap [] ls (lv_sub hl [] rfl) hH hS
  · refine lv_aload_n hx hb dX8_addsDigit_7 rfl (lv_at hl 0 rfl) ?_
    refine hg_get hx hb hG igX8 hown hK o_c_1 rfl 5 (by decide) (hG _ mw_207) rfl dX8_addsDigit_8 ?_
    refine lv_iconst (v := 3) hx hb dX8_addsDigit_11 (by decide) ?_
    refine lv_icmp_ge (tgt := 22) hx hb dX8_addsDigit_12 (by decide) (fun c_15 => ?_) (fun c_15 => ?_)
    · have r_16 : rgI (3) (2147483647) q_7 := rg_w (rg_leR rl_3 (rg_top q_7) c_15) (by decide) (by decide)
      exact L_22 s.heap [] ls (lv_sub hl [] rfl) hH hS
    · have r_17 : rgI (-2147483648) (2) q_7 := rg_w (rg_ltL (rg_top q_7) rl_3 (nle_lt c_15)) (by decide) (by decide)
      refine lv_aload_n hx hb dX8_addsDigit_15 rfl (lv_at hl 0 rfl) ?_
      refine hg_get hx hb hG igX8 hown hK o_c_1 rfl 1 (by decide) (hG _ mw_203) rfl dX8_addsDigit_16 ?_
      refine lv_if_ne (tgt := 24) hx hb dX8_addsDigit_19 (by decide) (fun c_18 => ?_) (fun c_18 => ?_)
      · have r_19 : rgI (1) (40) q_3 := rg_w (rg_neL rq_3 rl_0 c_18) (by decide) (by decide)
        refine lv_aload_n hx hb dX8_addsDigit_24 rfl (lv_at hl 0 rfl) ?_
        refine hg_get hx hb hG igX8 hown hK o_c_1 rfl 0 (by decide) (hG _ mw_202) rfl dX8_addsDigit_25 ?_
        refine lv_aload_n hx hb dX8_addsDigit_28 rfl (lv_at hl 0 rfl) ?_
        refine hg_get hx hb hG igX8 hown hK o_c_1 rfl 1 (by decide) (hG _ mw_203) rfl dX8_addsDigit_29 ?_
        refine lv_iconst (v := 1) hx hb dX8_addsDigit_32 (by decide) ?_
        refine lv_isub hx hb dX8_addsDigit_33 ?_
        refine lv_topi (fun x_20 ex_20 => ?_)
        have rx_20 : rgI (0) (39) x_20 := by rw [ex_20]; exact rg_w (rg_sub r_19 rl_1 (by decide) (by decide)) (by decide) (by decide)
        refine lv_bipush (v := 10) hx hb dX8_addsDigit_34 (by decide) ?_
        refine lv_aload_n hx hb dX8_addsDigit_36 rfl (lv_at hl 0 rfl) ?_
        refine hg_get hx hb hG igX8 hown hK o_c_1 rfl 0 (by decide) (hG _ mw_202) rfl dX8_addsDigit_37 ?_
        refine lv_aload_n hx hb dX8_addsDigit_40 rfl (lv_at hl 0 rfl) ?_
        refine hg_get hx hb hG igX8 hown hK o_c_1 rfl 1 (by decide) (hG _ mw_203) rfl dX8_addsDigit_41 ?_
        refine lv_iconst (v := 1) hx hb dX8_addsDigit_44 (by decide) ?_
        refine lv_isub hx hb dX8_addsDigit_45 ?_
        refine lv_topi (fun x_21 ex_21 => ?_)
        have rx_21 : rgI (0) (39) x_21 := by rw [ex_21]; exact rg_w (rg_sub r_19 rl_1 (by decide) (by decide)) (by decide) (by decide)
        obtain ⟨_, ⟨f_23, rfl⟩, o_c_22⟩ := hH q_2 _ kq_2
        refine hg_iald hx hb hK o_c_22 (rg_in (n := 40) rx_21 (by decide) (by decide)) dX8_addsDigit_46 ?_
        refine lv_topi (fun x_24 ex_24 => ?_)
        refine lv_imul hx hb dX8_addsDigit_47 ?_
        refine lv_topi (fun x_25 ex_25 => ?_)
        refine lv_iload_n hx hb dX8_addsDigit_48 rfl (lv_at hl 1 rfl) ?_
        refine lv_iadd hx hb dX8_addsDigit_49 ?_
        refine lv_topi (fun x_26 ex_26 => ?_)
        refine hg_iast hx hb hK hS o_c_22 (AF.of kq_2) (rg_in (n := 40) rx_20 (by decide) (by decide)) dX8_addsDigit_50 (fun H locs o_c_22 hz oq hS => ?_)
        generalize hff_27 : upd f_23 _ x_26 = f_27 at o_c_22
        have hH : HT g Ty G H := hH.put kq_2 ⟨_, rfl⟩ o_c_22 oq
        have o_c_1 := o_c_1.kept (oq _ (ne_kd k_h0 kq_2 (by decide)))
        clear oq hz
        refine lv_aload_n hx hb dX8_addsDigit_51 rfl (lv_at hl 0 rfl) ?_
        refine lv_dup hx hb dX8_addsDigit_52 rfl ?_
        refine hg_get hx hb hG igX8 hown hK o_c_1 rfl 5 (by decide) (hG _ mw_207) rfl dX8_addsDigit_53 ?_
        refine lv_iconst (v := 1) hx hb dX8_addsDigit_56 (by decide) ?_
        refine lv_iadd hx hb dX8_addsDigit_57 ?_
        refine lv_topi (fun x_28 ex_28 => ?_)
        have rx_28 : rgI (-2147483647) (3) x_28 := by rw [ex_28]; exact rg_w (rg_add r_17 rl_1 (by decide) (by decide)) (by decide) (by decide)
        have qx_28 : x_28.toInt = (q_7 : Int32).toInt + 1 := by rw [ex_28]; exact rg_addE r_17 rl_1 (by decide) (by decide)
        refine hg_put (ty := .int) hx hb hG igX8 tyX8 tyX8_ok nmX8 hown hK hS o_c_1 (AF.of k_h0) rfl 5 (by decide) (hG _ mw_207) rfl (by decide +kernel) rfl rfl (Nat.le_of_ble_eq_true rfl) dX8_addsDigit_58 (fun H locs o_c_1 hz oq hS => ?_)
        have o_c_1 : va_at g.1 vwCl (h0, .inr (8, [.ref q_2, .int q_3, .ref (g.2.2 51), .int (G.1 5), .int q_6, .int x_28, .int (G.1 6), .int q_9, .ref q_10, .ref q_11])) H := o_c_1
        have hH : HT g Ty G H := hH.put k_h0 ⟨q_2, q_3, q_6, x_28, q_9, q_10, q_11, rfl, kq_2, kq_4, kq_10, kq_11, (rg_w r_19 (by decide) (by decide)), rq_6, t_12⟩ o_c_1 oq
        have o_c_22 := o_c_22.kept (oq _ (ne_kd kq_2 k_h0 (by decide)))
        clear oq hz
        refine lv_iconst (v := 1) hx hb dX8_addsDigit_61 (by decide) ?_
        exact W.zret hx hb hr rfl (fun t ht hWm => ⟨⟨1, (Ty, G), rfl, ⟨rg_w rl_1 (by decide) (by decide), rfl⟩, by show HT g Ty G t.heap; rw [ht]; exact hH⟩, hS.F ht⟩) hS.2.2 dX8_addsDigit_62
      · have r_29 : rgI (0) (0) q_3 := rg_w (rg_eq rl_0 c_18) (by decide) (by decide)
        exact L_22 s.heap [] ls (lv_sub hl [] rfl) hH hS

set_option maxHeartbeats 4000000 in
set_option maxRecDepth 100000 in
theorem c_X8_closes (l : Launch) (g : Gx) (Ty : TyM) (G : Gh) (sz : Nat) (h0 : Nat) (k_h0 : Ty h0 = some (23, 0)) (hW : RW g G) (hp : (G.1 5).toInt ≤ 39) : Met l yX8_closes (wsG yX8_closes cX8_closes 1 (some .boolean)) ({ frames := 2, cells := 0, slots := 0, locals := 43 }) (PcT g Ty G sz [.ref h0]) (QwI g Ty sz (fun r u => (rgI (0) (1) r) ∧ u.1 = Ty ∧ STEP g G u.2)) 0 0 (AF Ty sz) := by
  refine Met.ofW (cc := cX8_closes) (maxL := 1) (ret := (some .boolean)) (by decide) rfl ?_
  intro p e s m args below meth c s₁ B hml hv
  obtain ⟨rfl, hsz, hK, hH⟩ := hv
  subst hsz
  have hx := B.exec
  have hb := B.bytes
  have hr := B.returns
  have hts := atoms_spec (ws := (wsG yX8_closes cX8_closes 1 (some .boolean))) B.pre
  have hG : ∀ w ∈ GW, w.before ([.ref h0] : List Value).toArray s = true := fun w h => hts w (List.mem_cons_of_mem _ h)
  have hown : s.vm.findClass RX8 = some m.cls := findClass_of_methodNamed B.named
  have hlocks := B.notSynchronized
  have hl := lv_entry [.ref h0] (n := 1) (Nat.le_of_ble_eq_true rfl)
  rw [lg_entry_eq]
  generalize (lg_sl [.ref h0] ++ List.replicate (1 - (lg_sl [.ref h0]).length) Slot.unset).toArray = ls at hl ⊢
  have hl : lv_has ls 1 [(0, .ref h0)] := hl
  have hS : va_S (AF Ty s.heap.size) s.heap s.heap [] := va_S.rf
  have L_14 : ∀ (H : Heap) (locs : List Loc) (ls : Array Slot), lv_has ls 1 [] → HT g Ty G H → va_S (AF Ty s.heap.size) s.heap H locs → Wm p l e (wsG yX8_closes cX8_closes 1 (some .boolean)) ({ frames := 2, cells := 0, slots := 0, locals := 43 }) s m [.ref h0] below meth c H locs (0) (0) (QwI g Ty s.heap.size (fun r u => (rgI (0) (1) r) ∧ u.1 = Ty ∧ STEP g G u.2)) 0 0 (AF Ty s.heap.size) (F0 m 14 ls []) := by
    intro H locs ls hl hH hS
    refine lv_iconst (v := 0) hx hb dX8_closes_14 (by decide) ?_
    exact W.zret hx hb hr rfl (fun t ht hWm => ⟨⟨0, (Ty, G), rfl, ⟨rg_w rl_0 (by decide) (by decide), ⟨rfl, STEP.rf hW⟩⟩, by show HT g Ty G t.heap; rw [ht]; exact hH⟩, hS.F ht⟩) hS.2.2 dX8_closes_15
  refine lv_aload_n hx hb dX8_closes_0 rfl (lv_at hl 0 rfl) ?_
  obtain ⟨_, ⟨q_2, q_3, q_6, q_7, q_9, q_10, q_11, rfl, kq_2, kq_4, kq_10, kq_11, rq_3, rq_6, t_12⟩, o_c_1⟩ := hH h0 _ k_h0
  refine hg_get hx hb hG igX8 hown hK o_c_1 rfl 6 (by decide) (hG _ mw_208) rfl dX8_closes_1 ?_
  refine lv_if_eq (tgt := 14) hx hb dX8_closes_4 (by decide) (fun c_13 => ?_) (fun c_13 => ?_)
  · have r_14 : rgI (0) (0) (G.1 6) := rg_w (rg_eq rl_0 c_13) (by decide) (by decide)
    exact L_14 s.heap [] ls (lv_sub hl [] rfl) hH hS
  · have r_15 : rgI (1) (4) (G.1 6) := rg_w (rg_neL hW.2.1 rl_0 c_13) (by decide) (by decide)
    refine lv_aload_n hx hb dX8_closes_7 rfl (lv_at hl 0 rfl) ?_
    refine hg_get hx hb hG igX8 hown hK o_c_1 rfl 3 (by decide) (hG _ mw_205) rfl dX8_closes_8 ?_
    refine lv_if_ne (tgt := 16) hx hb dX8_closes_11 (by decide) (fun c_16 => ?_) (fun c_16 => ?_)
    · have r_17 : rgI (1) (40) (G.1 5) := rg_w (rg_neL hW.1 rl_0 c_16) (by decide) (by decide)
      refine lv_aload_n hx hb dX8_closes_16 rfl (lv_at hl 0 rfl) ?_
      refine lv_iconst (v := 1) hx hb dX8_closes_17 (by decide) ?_
      refine va_callv (va_runV (As := [.int 1]) (rest := []) ⟨hx, hb, hml, hown, hts⟩ (c_X8_release l g Ty G s.heap.size h0 1 k_h0 (rg_w hW.1 (by decide) (by decide))) (cwV 1 hts (gwV mw_549 mw_551 mw_7 mw_81 mw_552) rfl rfl rfl hv_X8_release ⟨Nat.le_of_ble_eq_true rfl, Nat.le_of_ble_eq_true rfl⟩) ⟨PcT_blind, hg_recv hK o_c_1 rfl, PcT_pre hK hH⟩ rfl rfl hl.1 rfl (lv_room (Nat.le_of_ble_eq_true rfl)) dX8_closes_18 ⟨Nat.zero_le _, Nat.zero_le _⟩) hS (fun q _ h => AF.mono hS.1 h) (fun q h => AF.mono hS.1 h) (fun ux_18 t H locs ht hvm hx_18 hB hz hk hS => ?_)
      obtain ⟨eTx_18, eGx_18⟩ := hx_18
      obtain ⟨G_19, eG_19⟩ : ∃ z, z = ux_18.2 := ⟨_, rfl⟩
      rw [← eG_19] at eGx_18
      have u_20 : G_19.1 6 = (G.1 6) := (RelR.keep eGx_18 (by decide))
      have w_21 : rgI (0) (40) (G_19.1 5) := RelR.w5 eGx_18 (rg_w hW.1 (by decide) (by decide))
      have hH : HT g Ty G_19 H := by rw [← ht, ← eTx_18, eG_19]; exact hB
      refine lv_aload_n hx hb dX8_closes_21 rfl (lv_at hl 0 rfl) ?_
      refine lv_dup hx hb dX8_closes_22 rfl ?_
      obtain ⟨_, ⟨q_23, q_24, q_27, q_28, q_30, q_31, q_32, rfl, kq_23, kq_25, kq_31, kq_32, rq_24, rq_27, t_33⟩, o_c_22⟩ := hH h0 _ k_h0
      refine hg_get hx hb hG igX8 hown hK o_c_22 rfl 3 (by decide) (hG _ mw_205) rfl dX8_closes_23 ?_
      refine lv_iconst (v := 1) hx hb dX8_closes_26 (by decide) ?_
      refine lv_isub hx hb dX8_closes_27 ?_
      refine lv_topi (fun x_34 ex_34 => ?_)
      have rx_34 : rgI (-1) (39) x_34 := by rw [ex_34]; exact rg_w (rg_sub w_21 rl_1 (by decide) (by decide)) (by decide) (by decide)
      refine hg_put (ty := .int) hx hb hG igX8 tyX8 tyX8_ok nmX8 hown hK hS o_c_22 (AF.of k_h0) rfl 3 (by decide) (hG _ mw_205) rfl (by decide +kernel) rfl rfl (Nat.le_of_ble_eq_true rfl) dX8_closes_28 (fun H locs o_c_22 hz oq hS => ?_)
      obtain ⟨G_35, eG_35⟩ : ∃ z : Gh, z = gset G_19 5 x_34 := ⟨_, rfl⟩
      have hH : HT g Ty G_35 H := by rw [eG_35]; exact HT.putN 5 x_34 hH k_h0 ⟨q_23, q_24, q_27, q_28, q_30, q_31, q_32, rfl, kq_23, kq_25, kq_31, kq_32, rq_24, rq_27, t_33⟩ o_c_22 oq (Or.inr (Or.inr (Or.inr (Or.inr (Or.inl ⟨Or.inl rfl, t_33⟩)))))
      have u_36 : G_35.1 6 = (G.1 6) := by rw [eG_35]; exact (gs_ne (by decide)).trans u_20
      have u_37 : G_35.1 5 = x_34 := by rw [eG_35]; exact gs_eq
      clear oq hz
      refine lv_aload_n hx hb dX8_closes_31 rfl (lv_at hl 0 rfl) ?_
      refine lv_dup hx hb dX8_closes_32 rfl ?_
      obtain ⟨_, ⟨q_39, q_40, q_43, q_44, q_46, q_47, q_48, rfl, kq_39, kq_41, kq_47, kq_48, rq_40, rq_43, t_49⟩, o_c_38⟩ := hH h0 _ k_h0
      refine hg_get hx hb hG igX8 hown hK o_c_38 rfl 6 (by decide) (hG _ mw_208) rfl dX8_closes_33 ?_
      rw [u_36]
      refine lv_iconst (v := 1) hx hb dX8_closes_36 (by decide) ?_
      refine lv_isub hx hb dX8_closes_37 ?_
      refine lv_topi (fun x_50 ex_50 => ?_)
      have rx_50 : rgI (-1) (3) x_50 := by rw [ex_50]; exact rg_w (rg_sub hW.2.1 rl_1 (by decide) (by decide)) (by decide) (by decide)
      refine hg_put (ty := .int) hx hb hG igX8 tyX8 tyX8_ok nmX8 hown hK hS o_c_38 (AF.of k_h0) rfl 6 (by decide) (hG _ mw_208) rfl (by decide +kernel) rfl rfl (Nat.le_of_ble_eq_true rfl) dX8_closes_38 (fun H locs o_c_38 hz oq hS => ?_)
      obtain ⟨G_51, eG_51⟩ : ∃ z : Gh, z = gset G_35 6 x_50 := ⟨_, rfl⟩
      have hH : HT g Ty G_51 H := by rw [eG_51]; exact HT.putN 6 x_50 hH k_h0 ⟨q_39, q_40, q_43, q_44, q_46, q_47, q_48, rfl, kq_39, kq_41, kq_47, kq_48, rq_40, rq_43, t_49⟩ o_c_38 oq (Or.inr (Or.inr (Or.inr (Or.inr (Or.inl ⟨Or.inr rfl, t_49⟩)))))
      have u_52 : G_51.1 5 = x_34 := by rw [eG_51]; exact (gs_ne (by decide)).trans u_37
      have u_53 : G_51.1 6 = x_50 := by rw [eG_51]; exact gs_eq
      clear oq hz
      refine lv_iconst (v := 1) hx hb dX8_closes_41 (by decide) ?_
      exact W.zret hx hb hr rfl (fun t ht hWm => ⟨⟨1, (Ty, G_51), rfl, ⟨rg_w rl_1 (by decide) (by decide), ⟨rfl, close_step hW c_13 eGx_18 eG_35 ex_34 eG_51 ex_50⟩⟩, by show HT g Ty G_51 t.heap; rw [ht]; exact hH⟩, hS.F ht⟩) hS.2.2 dX8_closes_42
    · have r_54 : rgI (0) (0) (G.1 5) := rg_w (rg_eq rl_0 c_16) (by decide) (by decide)
      exact L_14 s.heap [] ls (lv_sub hl [] rfl) hH hS

set_option maxHeartbeats 4000000 in
set_option maxRecDepth 100000 in
theorem c_X8_followsThing (l : Launch) (g : Gx) (Ty : TyM) (G : Gh) (sz : Nat) (h0 : Nat) (a0 : Int32) (k_h0 : Ty h0 = some (23, 0)) (hW : RW g G) (hp : (G.1 5).toInt ≤ 39) : Met l yX8_followsThing (wsG yX8_followsThing cX8_followsThing 3 (some .boolean)) ({ frames := 3, cells := 0, slots := 0, locals := 63 }) (PcT g Ty G sz [.ref h0, .int a0]) (QwI g Ty sz (fun r u => (rgI (0) (1) r) ∧ u.1 = Ty ∧ STEP g G u.2)) 0 0 (AF Ty sz) := by
  refine Met.ofW (cc := cX8_followsThing) (maxL := 3) (ret := (some .boolean)) (by decide) rfl ?_
  intro p e s m args below meth c s₁ B hml hv
  obtain ⟨rfl, hsz, hK, hH⟩ := hv
  subst hsz
  have hx := B.exec
  have hb := B.bytes
  have hr := B.returns
  have hts := atoms_spec (ws := (wsG yX8_followsThing cX8_followsThing 3 (some .boolean))) B.pre
  have hG : ∀ w ∈ GW, w.before ([.ref h0, .int a0] : List Value).toArray s = true := fun w h => hts w (List.mem_cons_of_mem _ h)
  have hown : s.vm.findClass RX8 = some m.cls := findClass_of_methodNamed B.named
  have hlocks := B.notSynchronized
  have hl := lv_entry [.ref h0, .int a0] (n := 3) (Nat.le_of_ble_eq_true rfl)
  rw [lg_entry_eq]
  generalize (lg_sl [.ref h0, .int a0] ++ List.replicate (3 - (lg_sl [.ref h0, .int a0]).length) Slot.unset).toArray = ls at hl ⊢
  have hl : lv_has ls 3 [(0, .ref h0), (1, .int a0)] := hl
  have hS : va_S (AF Ty s.heap.size) s.heap s.heap [] := va_S.rf
  have L_82 : ∀ (H : Heap) (locs : List Loc) (y2_82 : Int32) (ls : Array Slot), rgI (1) (4) y2_82 → lv_has ls 3 [(0, .ref h0), (1, .int a0), (2, .int y2_82)] → HT g Ty G H → va_S (AF Ty s.heap.size) s.heap H locs → Wm p l e (wsG yX8_followsThing cX8_followsThing 3 (some .boolean)) ({ frames := 3, cells := 0, slots := 0, locals := 63 }) s m [.ref h0, .int a0] below meth c H locs (0) (0) (QwI g Ty s.heap.size (fun r u => (rgI (0) (1) r) ∧ u.1 = Ty ∧ STEP g G u.2)) 0 0 (AF Ty s.heap.size) (F0 m 82 ls []) := by
    intro H locs y2_82 ls ry2_82 hl hH hS
    refine lv_aload_n hx hb dX8_followsThing_82 rfl (lv_at hl 0 rfl) ?_
    refine lv_iload_n hx hb dX8_followsThing_83 rfl (lv_at hl 2 rfl) ?_
    obtain ⟨_, ⟨q_2, q_3, q_6, q_7, q_9, q_10, q_11, rfl, kq_2, kq_4, kq_10, kq_11, rq_3, rq_6, t_12⟩, o_c_1⟩ := hH h0 _ k_h0
    refine va_callv (va_runV (As := [.int y2_82]) (rest := []) ⟨hx, hb, hml, hown, hts⟩ (c_X8_release l g Ty G H.size h0 y2_82 k_h0 (rg_w hW.1 (by decide) (by decide))) (cwV 1 hts (gwV mw_549 mw_551 mw_7 mw_81 mw_552) rfl rfl rfl hv_X8_release ⟨Nat.le_of_ble_eq_true rfl, Nat.le_of_ble_eq_true rfl⟩) ⟨PcT_blind, hg_recv hK o_c_1 rfl, PcT_pre hK hH⟩ rfl rfl hl.1 rfl (lv_room (Nat.le_of_ble_eq_true rfl)) dX8_followsThing_84 ⟨Nat.zero_le _, Nat.zero_le _⟩) hS (fun q _ h => AF.mono hS.1 h) (fun q h => AF.mono hS.1 h) (fun ux_13 t H locs ht hvm hx_13 hB hz hk hS => ?_)
    obtain ⟨eTx_13, eGx_13⟩ := hx_13
    obtain ⟨G_14, eG_14⟩ : ∃ z, z = ux_13.2 := ⟨_, rfl⟩
    rw [← eG_14] at eGx_13
    have u_15 : G_14.1 6 = (G.1 6) := (RelR.keep eGx_13 (by decide))
    have w_16 : rgI (0) (40) (G_14.1 5) := RelR.w5 eGx_13 (rg_w hW.1 (by decide) (by decide))
    have hH : HT g Ty G_14 H := by rw [← ht, ← eTx_13, eG_14]; exact hB
    refine lv_aload_n hx hb dX8_followsThing_87 rfl (lv_at hl 0 rfl) ?_
    refine lv_iload_n hx hb dX8_followsThing_88 rfl (lv_at hl 1 rfl) ?_
    obtain ⟨_, ⟨q_18, q_19, q_22, q_23, q_25, q_26, q_27, rfl, kq_18, kq_20, kq_26, kq_27, rq_19, rq_22, t_28⟩, o_c_17⟩ := hH h0 _ k_h0
    refine va_callv (va_runV (As := [.int a0]) (rest := []) ⟨hx, hb, hml, hown, hts⟩ (c_X8_hold l g Ty G_14 H.size h0 a0 k_h0 (rg_w w_16 (by decide) (by decide))) (cwV 1 hts (gwV mw_435 mw_437 mw_1 mw_81 mw_438) rfl rfl rfl hv_X8_hold ⟨Nat.le_of_ble_eq_true rfl, Nat.le_of_ble_eq_true rfl⟩) ⟨PcT_blind, hg_recv hK o_c_17 rfl, PcT_pre hK hH⟩ rfl rfl hl.1 rfl (lv_room (Nat.le_of_ble_eq_true rfl)) dX8_followsThing_89 ⟨Nat.zero_le _, Nat.zero_le _⟩) hS (fun q _ h => AF.mono hS.1 h) (fun q h => AF.mono hS.1 h) (fun ux_29 t H locs ht hvm hx_29 hB hz hk hS => ?_)
    obtain ⟨eTx_29, eGx_29⟩ := hx_29
    obtain ⟨G_30, eG_30⟩ : ∃ z, z = ux_29.2 := ⟨_, rfl⟩
    rw [← eG_30] at eGx_29
    have hH : HT g Ty G_30 H := by rw [← ht, ← eTx_29, eG_30]; exact hB
    refine lv_aload_n hx hb dX8_followsThing_92 rfl (lv_at hl 0 rfl) ?_
    refine lv_iconst (v := 1) hx hb dX8_followsThing_93 (by decide) ?_
    obtain ⟨_, ⟨q_32, q_33, q_36, q_37, q_39, q_40, q_41, rfl, kq_32, kq_34, kq_40, kq_41, rq_33, rq_36, t_42⟩, o_c_31⟩ := hH h0 _ k_h0
    refine hg_put (ty := .boolean) hx hb hG igX8 tyX8 tyX8_ok nmX8 hown hK hS o_c_31 (AF.of k_h0) rfl 4 (by decide) (hG _ mw_206) rfl (by decide +kernel) (by rfl) (by rfl) (Nat.le_of_ble_eq_true rfl) dX8_followsThing_94 (fun H locs o_c_31 hz oq hS => ?_)
    have o_c_31 : va_at g.1 vwCl (h0, .inr (8, [.ref q_32, .int q_33, .ref (g.2.2 51), .int (G_30.1 5), .int 1, .int q_37, .int (G_30.1 6), .int q_39, .ref q_40, .ref q_41])) H := o_c_31
    have hH : HT g Ty G_30 H := hH.put k_h0 ⟨q_32, q_33, 1, q_37, q_39, q_40, q_41, rfl, kq_32, kq_34, kq_40, kq_41, rq_33, (rg_w rl_1 (by decide) (by decide)), t_42⟩ o_c_31 oq
    clear oq hz
    refine lv_iconst (v := 1) hx hb dX8_followsThing_97 (by decide) ?_
    exact W.zret hx hb hr rfl (fun t ht hWm => ⟨⟨1, (Ty, G_30), rfl, ⟨rg_w rl_1 (by decide) (by decide), ⟨rfl, follow_step hW hp ry2_82.1 eGx_13 eGx_29⟩⟩, by show HT g Ty G_30 t.heap; rw [ht]; exact hH⟩, hS.F ht⟩) hS.2.2 dX8_followsThing_98
  have L_62 : ∀ (H : Heap) (locs : List Loc) (y2_62 : Int32) (ls : Array Slot), rgI (1) (4) y2_62 → lv_has ls 3 [(0, .ref h0), (1, .int a0), (2, .int y2_62)] → HT g Ty G H → va_S (AF Ty s.heap.size) s.heap H locs → Wm p l e (wsG yX8_followsThing cX8_followsThing 3 (some .boolean)) ({ frames := 3, cells := 0, slots := 0, locals := 63 }) s m [.ref h0, .int a0] below meth c H locs (0) (0) (QwI g Ty s.heap.size (fun r u => (rgI (0) (1) r) ∧ u.1 = Ty ∧ STEP g G u.2)) 0 0 (AF Ty s.heap.size) (F0 m 62 ls []) := by
    intro H locs y2_62 ls ry2_62 hl hH hS
    refine lv_iload_n hx hb dX8_followsThing_62 rfl (lv_at hl 2 rfl) ?_
    refine lv_iconst (v := 1) hx hb dX8_followsThing_63 (by decide) ?_
    refine lv_icmp_ne (tgt := 82) hx hb dX8_followsThing_64 (by decide) (fun c_43 => ?_) (fun c_43 => ?_)
    · have r_44 : rgI (2) (4) y2_62 := rg_w (rg_neL ry2_62 rl_1 c_43) (by decide) (by decide)
      exact L_82 H locs y2_62 ls (rg_w r_44 (by decide) (by decide)) (lv_sub hl [0, 1, 2] rfl) hH hS
    · have r_45 : rgI (1) (1) y2_62 := rg_w (rg_eq rl_1 c_43) (by decide) (by decide)
      refine lv_aload_n hx hb dX8_followsThing_67 rfl (lv_at hl 0 rfl) ?_
      refine lv_dup hx hb dX8_followsThing_68 rfl ?_
      obtain ⟨_, ⟨q_47, q_48, q_51, q_52, q_54, q_55, q_56, rfl, kq_47, kq_49, kq_55, kq_56, rq_48, rq_51, t_57⟩, o_c_46⟩ := hH h0 _ k_h0
      refine hg_get hx hb hG igX8 hown hK o_c_46 rfl 7 (by decide) (hG _ mw_209) rfl dX8_followsThing_69 ?_
      refine lv_iconst (v := 1) hx hb dX8_followsThing_72 (by decide) ?_
      refine lv_aload_n hx hb dX8_followsThing_73 rfl (lv_at hl 0 rfl) ?_
      refine hg_get hx hb hG igX8 hown hK o_c_46 rfl 6 (by decide) (hG _ mw_208) rfl dX8_followsThing_74 ?_
      refine lv_ishl hx hb dX8_followsThing_77 ?_
      refine lv_topi (fun x_58 ex_58 => ?_)
      refine lv_ior hx hb dX8_followsThing_78 ?_
      refine lv_topi (fun x_59 ex_59 => ?_)
      refine hg_put (ty := .int) hx hb hG igX8 tyX8 tyX8_ok nmX8 hown hK hS o_c_46 (AF.of k_h0) rfl 7 (by decide) (hG _ mw_209) rfl (by decide +kernel) rfl rfl (Nat.le_of_ble_eq_true rfl) dX8_followsThing_79 (fun H locs o_c_46 hz oq hS => ?_)
      have o_c_46 : va_at g.1 vwCl (h0, .inr (8, [.ref q_47, .int q_48, .ref (g.2.2 51), .int (G.1 5), .int q_51, .int q_52, .int (G.1 6), .int x_59, .ref q_55, .ref q_56])) H := o_c_46
      have hH : HT g Ty G H := hH.put k_h0 ⟨q_47, q_48, q_51, q_52, x_59, q_55, q_56, rfl, kq_47, kq_49, kq_55, kq_56, rq_48, rq_51, t_57⟩ o_c_46 oq
      clear oq hz
      exact L_82 H locs y2_62 ls (rg_w r_45 (by decide) (by decide)) (lv_sub hl [0, 1, 2] rfl) hH hS
  have L_60 : ∀ (H : Heap) (locs : List Loc) (ls : Array Slot), lv_has ls 3 [] → HT g Ty G H → va_S (AF Ty s.heap.size) s.heap H locs → Wm p l e (wsG yX8_followsThing cX8_followsThing 3 (some .boolean)) ({ frames := 3, cells := 0, slots := 0, locals := 63 }) s m [.ref h0, .int a0] below meth c H locs (0) (0) (QwI g Ty s.heap.size (fun r u => (rgI (0) (1) r) ∧ u.1 = Ty ∧ STEP g G u.2)) 0 0 (AF Ty s.heap.size) (F0 m 60 ls []) := by
    intro H locs ls hl hH hS
    refine lv_iconst (v := 0) hx hb dX8_followsThing_60 (by decide) ?_
    exact W.zret hx hb hr rfl (fun t ht hWm => ⟨⟨0, (Ty, G), rfl, ⟨rg_w rl_0 (by decide) (by decide), ⟨rfl, STEP.rf hW⟩⟩, by show HT g Ty G t.heap; rw [ht]; exact hH⟩, hS.F ht⟩) hS.2.2 dX8_followsThing_61
  refine lv_iload_n hx hb dX8_followsThing_0 rfl (lv_at hl 1 rfl) ?_
  refine vp_callSi (W.runS (As := [.int a0]) (rest := []) ⟨hx, hb, hml, hown, hts⟩ (c_X8_isDigit l g Ty G a0 ) (cwSx 1 hts hG (gwC mw_532) mw_81 mw_530 mw_531 rfl rfl rfl hd_X8_isDigit ⟨Nat.le_of_ble_eq_true rfl, Nat.le_of_ble_eq_true rfl⟩) ⟨PcH_blind, PcH_pre hK hH⟩ rfl rfl hl.1 rfl (lv_room (Nat.le_of_ble_eq_true rfl)) dX8_followsThing_1 ⟨Nat.zero_le _, Nat.zero_le _⟩) (fun x_60 hx_60 => ?_)
  have rx_60 : rgI (0) (1) x_60 := hx_60
  refine lv_if_eq (tgt := 16) hx hb dX8_followsThing_4 (by decide) (fun c_61 => ?_) (fun c_61 => ?_)
  · have r_62 : rgI (0) (0) x_60 := rg_w (rg_eq rl_0 c_61) (by decide) (by decide)
    refine lv_aload_n hx hb dX8_followsThing_16 rfl (lv_at hl 0 rfl) ?_
    refine lv_iconst (v := 0) hx hb dX8_followsThing_17 (by decide) ?_
    obtain ⟨_, ⟨q_64, q_65, q_68, q_69, q_71, q_72, q_73, rfl, kq_64, kq_66, kq_72, kq_73, rq_65, rq_68, t_74⟩, o_c_63⟩ := hH h0 _ k_h0
    refine hg_put (ty := .int) hx hb hG igX8 tyX8 tyX8_ok nmX8 hown hK hS o_c_63 (AF.of k_h0) rfl 5 (by decide) (hG _ mw_207) rfl (by decide +kernel) rfl rfl (Nat.le_of_ble_eq_true rfl) dX8_followsThing_18 (fun H locs o_c_63 hz oq hS => ?_)
    have o_c_63 : va_at g.1 vwCl (h0, .inr (8, [.ref q_64, .int q_65, .ref (g.2.2 51), .int (G.1 5), .int q_68, .int 0, .int (G.1 6), .int q_71, .ref q_72, .ref q_73])) H := o_c_63
    have hH : HT g Ty G H := hH.put k_h0 ⟨q_64, q_65, q_68, 0, q_71, q_72, q_73, rfl, kq_64, kq_66, kq_72, kq_73, rq_65, rq_68, t_74⟩ o_c_63 oq
    clear oq hz
    refine lv_iload_n hx hb dX8_followsThing_21 rfl (lv_at hl 1 rfl) ?_
    refine lv_bipush (v := 41) hx hb dX8_followsThing_22 (by decide) ?_
    refine lv_icmp_ne (tgt := 32) hx hb dX8_followsThing_24 (by decide) (fun c_75 => ?_) (fun c_75 => ?_)
    · refine lv_iload_n hx hb dX8_followsThing_32 rfl (lv_at hl 1 rfl) ?_
      refine vp_callSi (W.runS (As := [.int a0]) (rest := []) ⟨hx, hb, hml, hown, hts⟩ (c_X8_rankOf_k l g Ty G a0 ) (cwSx 1 hts hG (gwC mw_555) mw_81 mw_553 mw_554 rfl rfl rfl hd_X8_rankOf ⟨Nat.le_of_ble_eq_true rfl, Nat.le_of_ble_eq_true rfl⟩) ⟨PcH_blind, PcH_pre hK hH⟩ rfl rfl hl.1 rfl (lv_room (Nat.le_of_ble_eq_true rfl)) dX8_followsThing_33 ⟨Nat.zero_le _, Nat.zero_le _⟩) (fun x_76 hx_76 => ?_)
      have rx_76 : rgI (0) (4) x_76 := hx_76.1
      refine lv_istore_n (lv' := [(2, .int x_76), (0, .ref h0), (1, .int a0)]) hx hb dX8_followsThing_36 rfl hl (by decide) rfl (fun ls hl => ?_)
      refine lv_iload_n hx hb dX8_followsThing_37 rfl (lv_at hl 0 rfl) ?_
      refine lv_if_eq (tgt := 60) hx hb dX8_followsThing_38 (by decide) (fun c_77 => ?_) (fun c_77 => ?_)
      · have r_78 : rgI (0) (0) x_76 := rg_w (rg_eq rl_0 c_77) (by decide) (by decide)
        exact L_60 H locs ls (lv_sub hl [] rfl) hH hS
      · have r_79 : rgI (1) (4) x_76 := rg_w (rg_neL rx_76 rl_0 c_77) (by decide) (by decide)
        refine lv_iload_n hx hb dX8_followsThing_41 rfl (lv_at hl 0 rfl) ?_
        refine lv_iconst (v := 1) hx hb dX8_followsThing_42 (by decide) ?_
        refine lv_icmp_ne (tgt := 62) hx hb dX8_followsThing_43 (by decide) (fun c_80 => ?_) (fun c_80 => ?_)
        · have r_81 : rgI (2) (4) x_76 := rg_w (rg_neL r_79 rl_1 c_80) (by decide) (by decide)
          exact L_62 H locs x_76 ls (rg_w r_81 (by decide) (by decide)) (lv_sub hl [1, 2, 0] rfl) hH hS
        · have r_82 : rgI (1) (1) x_76 := rg_w (rg_eq rl_1 c_80) (by decide) (by decide)
          refine lv_aload_n hx hb dX8_followsThing_46 rfl (lv_at hl 1 rfl) ?_
          refine hg_get hx hb hG igX8 hown hK o_c_63 rfl 7 (by decide) (hG _ mw_209) rfl dX8_followsThing_47 ?_
          refine lv_iconst (v := 1) hx hb dX8_followsThing_50 (by decide) ?_
          refine lv_aload_n hx hb dX8_followsThing_51 rfl (lv_at hl 1 rfl) ?_
          refine hg_get hx hb hG igX8 hown hK o_c_63 rfl 6 (by decide) (hG _ mw_208) rfl dX8_followsThing_52 ?_
          refine lv_ishl hx hb dX8_followsThing_55 ?_
          refine lv_topi (fun x_83 ex_83 => ?_)
          refine lv_iand hx hb dX8_followsThing_56 ?_
          refine lv_topi (fun x_84 ex_84 => ?_)
          refine lv_if_eq (tgt := 62) hx hb dX8_followsThing_57 (by decide) (fun c_85 => ?_) (fun c_85 => ?_)
          · have r_86 : rgI (0) (0) x_84 := rg_w (rg_eq rl_0 c_85) (by decide) (by decide)
            exact L_62 H locs x_76 ls (rg_w r_82 (by decide) (by decide)) (lv_sub hl [1, 2, 0] rfl) hH hS
          · exact L_60 H locs ls (lv_sub hl [] rfl) hH hS
    · have r_87 : rgI (41) (41) a0 := rg_w (rg_eq rl_41 c_75) (by decide) (by decide)
      refine lv_aload_n hx hb dX8_followsThing_27 rfl (lv_at hl 0 rfl) ?_
      refine va_calli (va_runV (As := []) (rest := []) ⟨hx, hb, hml, hown, hts⟩ (c_X8_closes l g Ty G H.size h0 k_h0 hW hp) (cwV 0 hts (gwV mw_545 mw_547 mw_6 mw_81 mw_548) rfl rfl rfl hv_X8_closes ⟨Nat.le_of_ble_eq_true rfl, Nat.le_of_ble_eq_true rfl⟩) ⟨PcT_blind, hg_recv hK o_c_63 rfl, PcT_pre hK hH⟩ rfl rfl hl.1 rfl (lv_room (Nat.le_of_ble_eq_true rfl)) dX8_followsThing_28 ⟨Nat.zero_le _, Nat.zero_le _⟩) hS (fun q _ h => AF.mono hS.1 h) (fun q h => AF.mono hS.1 h) (fun x_88 ux_88 t H locs ht hvm hx_88 hB hz hk hS => ?_)
      obtain ⟨hx_88, fx_88⟩ := hx_88
      obtain ⟨eTx_88, eGx_88⟩ := fx_88
      obtain ⟨G_89, eG_89⟩ : ∃ z, z = ux_88.2 := ⟨_, rfl⟩
      rw [← eG_89] at eGx_88
      have hH : HT g Ty G_89 H := by rw [← ht, ← eTx_88, eG_89]; exact hB
      have rx_88 : rgI (0) (1) x_88 := hx_88
      exact W.zret hx hb hr (nz01 rx_88) (fun t ht hWm => ⟨⟨x_88, (Ty, G_89), rfl, ⟨rg_w rx_88 (by decide) (by decide), ⟨rfl, eGx_88⟩⟩, by show HT g Ty G_89 t.heap; rw [ht]; exact hH⟩, hS.F ht⟩) hS.2.2 dX8_followsThing_31
  · have r_90 : rgI (1) (1) x_60 := rg_w (rg_neL rx_60 rl_0 c_61) (by decide) (by decide)
    refine lv_aload_n hx hb dX8_followsThing_7 rfl (lv_at hl 0 rfl) ?_
    refine lv_iload_n hx hb dX8_followsThing_8 rfl (lv_at hl 1 rfl) ?_
    refine lv_bipush (v := 48) hx hb dX8_followsThing_9 (by decide) ?_
    refine lv_isub hx hb dX8_followsThing_11 ?_
    refine lv_topi (fun x_91 ex_91 => ?_)
    obtain ⟨_, ⟨q_93, q_94, q_97, q_98, q_100, q_101, q_102, rfl, kq_93, kq_95, kq_101, kq_102, rq_94, rq_97, t_103⟩, o_c_92⟩ := hH h0 _ k_h0
    refine va_calli (va_runV (As := [.int x_91]) (rest := []) ⟨hx, hb, hml, hown, hts⟩ (c_X8_addsDigit l g Ty G s.heap.size h0 x_91 k_h0) (cwV 1 hts (gwV mw_541 mw_543 mw_5 mw_81 mw_544) rfl rfl rfl hv_X8_addsDigit ⟨Nat.le_of_ble_eq_true rfl, Nat.le_of_ble_eq_true rfl⟩) ⟨PcT_blind, hg_recv hK o_c_92 rfl, PcT_pre hK hH⟩ rfl rfl hl.1 rfl (lv_room (Nat.le_of_ble_eq_true rfl)) dX8_followsThing_12 ⟨Nat.zero_le _, Nat.zero_le _⟩) hS (fun q _ h => AF.mono hS.1 h) (fun q h => AF.mono hS.1 h) (fun x_104 ux_104 t H locs ht hvm hx_104 hB hz hk hS => ?_)
    obtain ⟨hx_104, fx_104⟩ := hx_104
    have hH : HT g Ty G H := by rw [← ht]; rw [fx_104] at hB; exact hB
    have rx_104 : rgI (0) (1) x_104 := hx_104
    exact W.zret hx hb hr (nz01 rx_104) (fun t ht hWm => ⟨⟨x_104, (Ty, G), rfl, ⟨rg_w rx_104 (by decide) (by decide), ⟨rfl, STEP.rf hW⟩⟩, by show HT g Ty G t.heap; rw [ht]; exact hH⟩, hS.F ht⟩) hS.2.2 dX8_followsThing_15
