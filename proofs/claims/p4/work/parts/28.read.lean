set_option maxHeartbeats 4000000 in
set_option maxRecDepth 100000 in
theorem c_X8_rankOf_k (l : Launch) (g : Gx) (Ty : TyM) (G : Gh) (a0 : Int32) : Met l yX8_rankOf (wsG yX8_rankOf cX8_rankOf 1 (some .int)) ({ frames := 0, cells := 0, slots := 0, locals := 0 }) (PcH g Ty G [.int a0]) (vp_Si (fun r => rgI (0) (4) r ∧ (rk0 a0 = true → r = 0) ∧ (RK a0 r))) 0 0 (fun _ => False) := by
  refine Met.ofW (cc := cX8_rankOf) (maxL := 1) (ret := (some .int)) (by decide) rfl ?_
  intro p e s m args below meth c s₁ B hml hv
  obtain ⟨rfl, hK, hH⟩ := hv
  have hx := B.exec
  have hb := B.bytes
  have hr := B.returns
  have hts := atoms_spec (ws := (wsG yX8_rankOf cX8_rankOf 1 (some .int))) B.pre
  have hG : ∀ w ∈ GW, w.before ([.int a0] : List Value).toArray s = true := fun w h => hts w (List.mem_cons_of_mem _ h)
  have hown : s.vm.findClass RX8 = some m.cls := findClass_of_methodNamed B.named
  have hlocks := B.notSynchronized
  have hl := lv_entry [.int a0] (n := 1) (Nat.le_of_ble_eq_true rfl)
  rw [lg_entry_eq]
  generalize (lg_sl [.int a0] ++ List.replicate (1 - (lg_sl [.int a0]).length) Slot.unset).toArray = ls at hl ⊢
  have hl : lv_has ls 1 [(0, .int a0)] := hl
  refine lv_iload_n hx hb dX8_rankOf_0 rfl (lv_at hl 0 rfl) ?_
  by_cases c_1 : a0 = 42
  · refine lv_lookup (tgt := 80) (off := 79) hx hb dX8_rankOf_1 (by decide) (by rw [c_1]; rfl) (by decide) ?_
    have r_2 : rgI (42) (42) a0 := rg_w (rg_eq rl_42 c_1) (by decide) (by decide)
    refine lv_iconst (v := 3) hx hb dX8_rankOf_80 (by decide) ?_
    exact W.iret hx hb hr (fun t ht hW => ⟨3, rfl, ⟨rg_w rl_3 (by decide) (by decide), (fun q => absurd q (by rw [c_1]; decide)), (Or.inr (Or.inl ⟨by rw [c_1]; decide, Or.inr rfl⟩))⟩, ht⟩) (fun q h => by cases h) dX8_rankOf_81
  by_cases c_3 : a0 = 43
  · refine lv_lookup (tgt := 78) (off := 77) hx hb dX8_rankOf_1 (by decide) (by rw [c_3]; rfl) (by decide) ?_
    have r_4 : rgI (43) (43) a0 := rg_w (rg_eq rl_43 c_3) (by decide) (by decide)
    refine lv_iconst (v := 2) hx hb dX8_rankOf_78 (by decide) ?_
    exact W.iret hx hb hr (fun t ht hW => ⟨2, rfl, ⟨rg_w rl_2 (by decide) (by decide), (fun q => absurd q (by rw [c_3]; decide)), (Or.inr (Or.inl ⟨by rw [c_3]; decide, Or.inl rfl⟩))⟩, ht⟩) (fun q h => by cases h) dX8_rankOf_79
  by_cases c_5 : a0 = 45
  · refine lv_lookup (tgt := 78) (off := 77) hx hb dX8_rankOf_1 (by decide) (by rw [c_5]; rfl) (by decide) ?_
    have r_6 : rgI (45) (45) a0 := rg_w (rg_eq rl_45 c_5) (by decide) (by decide)
    refine lv_iconst (v := 2) hx hb dX8_rankOf_78 (by decide) ?_
    exact W.iret hx hb hr (fun t ht hW => ⟨2, rfl, ⟨rg_w rl_2 (by decide) (by decide), (fun q => absurd q (by rw [c_5]; decide)), (Or.inr (Or.inl ⟨by rw [c_5]; decide, Or.inl rfl⟩))⟩, ht⟩) (fun q h => by cases h) dX8_rankOf_79
  by_cases c_7 : a0 = 47
  · refine lv_lookup (tgt := 80) (off := 79) hx hb dX8_rankOf_1 (by decide) (by rw [c_7]; rfl) (by decide) ?_
    have r_8 : rgI (47) (47) a0 := rg_w (rg_eq rl_47 c_7) (by decide) (by decide)
    refine lv_iconst (v := 3) hx hb dX8_rankOf_80 (by decide) ?_
    exact W.iret hx hb hr (fun t ht hW => ⟨3, rfl, ⟨rg_w rl_3 (by decide) (by decide), (fun q => absurd q (by rw [c_7]; decide)), (Or.inr (Or.inl ⟨by rw [c_7]; decide, Or.inr rfl⟩))⟩, ht⟩) (fun q h => by cases h) dX8_rankOf_81
  by_cases c_9 : a0 = 60
  · refine lv_lookup (tgt := 76) (off := 75) hx hb dX8_rankOf_1 (by decide) (by rw [c_9]; rfl) (by decide) ?_
    have r_10 : rgI (60) (60) a0 := rg_w (rg_eq rl_60 c_9) (by decide) (by decide)
    refine lv_iconst (v := 1) hx hb dX8_rankOf_76 (by decide) ?_
    exact W.iret hx hb hr (fun t ht hW => ⟨1, rfl, ⟨rg_w rl_1 (by decide) (by decide), (fun q => absurd q (by rw [c_9]; decide)), (Or.inl ⟨by rw [c_9]; decide, rfl⟩)⟩, ht⟩) (fun q h => by cases h) dX8_rankOf_77
  by_cases c_11 : a0 = 61
  · refine lv_lookup (tgt := 76) (off := 75) hx hb dX8_rankOf_1 (by decide) (by rw [c_11]; rfl) (by decide) ?_
    have r_12 : rgI (61) (61) a0 := rg_w (rg_eq rl_61 c_11) (by decide) (by decide)
    refine lv_iconst (v := 1) hx hb dX8_rankOf_76 (by decide) ?_
    exact W.iret hx hb hr (fun t ht hW => ⟨1, rfl, ⟨rg_w rl_1 (by decide) (by decide), (fun q => absurd q (by rw [c_11]; decide)), (Or.inl ⟨by rw [c_11]; decide, rfl⟩)⟩, ht⟩) (fun q h => by cases h) dX8_rankOf_77
  by_cases c_13 : a0 = 62
  · refine lv_lookup (tgt := 76) (off := 75) hx hb dX8_rankOf_1 (by decide) (by rw [c_13]; rfl) (by decide) ?_
    have r_14 : rgI (62) (62) a0 := rg_w (rg_eq rl_62 c_13) (by decide) (by decide)
    refine lv_iconst (v := 1) hx hb dX8_rankOf_76 (by decide) ?_
    exact W.iret hx hb hr (fun t ht hW => ⟨1, rfl, ⟨rg_w rl_1 (by decide) (by decide), (fun q => absurd q (by rw [c_13]; decide)), (Or.inl ⟨by rw [c_13]; decide, rfl⟩)⟩, ht⟩) (fun q h => by cases h) dX8_rankOf_77
  by_cases c_15 : a0 = 256
  · refine lv_lookup (tgt := 82) (off := 81) hx hb dX8_rankOf_1 (by decide) (by rw [c_15]; rfl) (by decide) ?_
    have r_16 : rgI (256) (256) a0 := rg_w (rg_eq rl_256 c_15) (by decide) (by decide)
    refine lv_iconst (v := 4) hx hb dX8_rankOf_82 (by decide) ?_
    exact W.iret hx hb hr (fun t ht hW => ⟨4, rfl, ⟨rg_w rl_4 (by decide) (by decide), (fun q => absurd q (by rw [c_15]; decide)), (Or.inr (Or.inr (Or.inl ⟨c_15, rfl⟩)))⟩, ht⟩) (fun q h => by cases h) dX8_rankOf_83
  refine lv_lookup (tgt := 84) (off := 83) hx hb dX8_rankOf_1 (by decide) ((lv_osw c_1 rfl).trans ((lv_osw c_3 rfl).trans ((lv_osw c_5 rfl).trans ((lv_osw c_7 rfl).trans ((lv_osw c_9 rfl).trans ((lv_osw c_11 rfl).trans ((lv_osw c_13 rfl).trans ((lv_osw c_15 rfl).trans (rfl))))))))) (by decide) ?_
  refine lv_iconst (v := 0) hx hb dX8_rankOf_84 (by decide) ?_
  exact W.iret hx hb hr (fun t ht hW => ⟨0, rfl, ⟨rg_w rl_0 (by decide) (by decide), (fun _ => rfl), (Or.inr (Or.inr (Or.inr ⟨by rintro (q | q | q) <;> contradiction, by rintro (q | q | q | q) <;> contradiction, rfl⟩)))⟩, ht⟩) (fun q h => by cases h) dX8_rankOf_85

set_option maxHeartbeats 4000000 in
set_option maxRecDepth 100000 in
theorem c_X8_emit (l : Launch) (g : Gx) (Ty : TyM) (G : Gh) (sz : Nat) (h0 : Nat) (a0 : Int32) (k_h0 : Ty h0 = some (23, 0)) : Met l yX8_emit (wsG yX8_emit cX8_emit 2 none) ({ frames := 0, cells := 0, slots := 0, locals := 0 }) (PcT g Ty G sz [.ref h0, .int a0]) (QwV g Ty sz (fun u => u.1 = Ty ∧ EmitR G u.2)) 0 0 (AF Ty sz) := by
  refine Met.ofW (cc := cX8_emit) (maxL := 2) (ret := none) (by decide) rfl ?_
  intro p e s m args below meth c s₁ B hml hv
  obtain ⟨rfl, hsz, hK, hH⟩ := hv
  subst hsz
  have hx := B.exec
  have hb := B.bytes
  have hr := B.returns
  have hts := atoms_spec (ws := (wsG yX8_emit cX8_emit 2 none)) B.pre
  have hG : ∀ w ∈ GW, w.before ([.ref h0, .int a0] : List Value).toArray s = true := fun w h => hts w (List.mem_cons_of_mem _ h)
  have hown : s.vm.findClass RX8 = some m.cls := findClass_of_methodNamed B.named
  have hlocks := B.notSynchronized
  have hl := lv_entry [.ref h0, .int a0] (n := 2) (Nat.le_of_ble_eq_true rfl)
  rw [lg_entry_eq]
  generalize (lg_sl [.ref h0, .int a0] ++ List.replicate (2 - (lg_sl [.ref h0, .int a0]).length) Slot.unset).toArray = ls at hl ⊢
  have hl : lv_has ls 2 [(0, .ref h0), (1, .int a0)] := hl
  have hS : va_S (AF Ty s.heap.size) s.heap s.heap [] := va_S.rf
  refine lv_aload_n hx hb dX8_emit_0 rfl (lv_at hl 0 rfl) ?_
  obtain ⟨_, ⟨q_2, q_10, q_11, rfl, kq_2, kq_4, kq_10, kq_11, rq_3, rq_6, t_12⟩, o_c_1⟩ := hH h0 _ k_h0
  refine hg_get hx hb hG igX8 hown hK o_c_1 rfl 1 (by decide) (hG _ mw_203) rfl dX8_emit_1 ?_
  refine lv_bipush (v := 40) hx hb dX8_emit_4 (by decide) ?_
  refine lv_icmp_ge (tgt := 29) hx hb dX8_emit_6 (by decide) (fun c_13 => ?_) (fun c_13 => ?_)
  · have r_14 : rgI (40) (40) (G.1 7) := rg_w (rg_leR rl_40 rq_3 c_13) (by decide) (by decide)
    exact W.vret hx hb hr (fun t ht hWm => ⟨⟨(Ty, G), rfl, ⟨rfl, Or.inr ⟨c_13, rfl⟩⟩, by show HT g Ty G t.heap; rw [ht]; exact hH⟩, hS.F ht⟩) hS.2.2 dX8_emit_29
  · have r_15 : rgI (0) (39) (G.1 7) := rg_w (rg_ltL rq_3 rl_40 (nle_lt c_13)) (by decide) (by decide)
    refine lv_aload_n hx hb dX8_emit_9 rfl (lv_at hl 0 rfl) ?_
    refine hg_get hx hb hG igX8 hown hK o_c_1 rfl 0 (by decide) (hG _ mw_202) rfl dX8_emit_10 ?_
    refine lv_aload_n hx hb dX8_emit_13 rfl (lv_at hl 0 rfl) ?_
    refine hg_get hx hb hG igX8 hown hK o_c_1 rfl 1 (by decide) (hG _ mw_203) rfl dX8_emit_14 ?_
    refine lv_iload_n hx hb dX8_emit_17 rfl (lv_at hl 1 rfl) ?_
    obtain ⟨_, ⟨f_17, rfl⟩, o_c_16⟩ := hH q_2 _ kq_2
    refine hg_iast hx hb hK hS o_c_16 (AF.of kq_2) (rg_in (n := 40) r_15 (by decide) (by decide)) dX8_emit_18 (fun H locs o_c_16 hz oq hS => ?_)
    generalize hff_18 : upd f_17 _ a0 = f_18 at o_c_16
    have hH : HT g Ty G H := hH.put kq_2 ⟨_, rfl⟩ o_c_16 oq
    have o_c_1 := o_c_1.kept (oq _ (ne_kd k_h0 kq_2 (by decide)))
    clear oq hz
    refine lv_aload_n hx hb dX8_emit_19 rfl (lv_at hl 0 rfl) ?_
    refine lv_dup hx hb dX8_emit_20 rfl ?_
    refine hg_get hx hb hG igX8 hown hK o_c_1 rfl 1 (by decide) (hG _ mw_203) rfl dX8_emit_21 ?_
    refine lv_iconst (v := 1) hx hb dX8_emit_24 (by decide) ?_
    refine lv_iadd hx hb dX8_emit_25 ?_
    refine lv_topi (fun x_19 ex_19 => ?_)
    have rx_19 : rgI (1) (40) x_19 := by rw [ex_19]; exact rg_w (rg_add r_15 rl_1 (by decide) (by decide)) (by decide) (by decide)
    have qx_19 : x_19.toInt = ((G.1 7) : Int32).toInt + 1 := by rw [ex_19]; exact rg_addE r_15 rl_1 (by decide) (by decide)
    refine hg_put (ty := .int) hx hb hG igX8 tyX8 tyX8_ok nmX8 hown hK hS o_c_1 (AF.of k_h0) rfl 1 (by decide) (hG _ mw_203) rfl (by decide +kernel) rfl rfl (Nat.le_of_ble_eq_true rfl) dX8_emit_26 (fun H locs o_c_1 hz oq hS => ?_)
    obtain ⟨G_20, eG_20⟩ : ∃ z : Gh, z = gset G 7 x_19 := ⟨_, rfl⟩
    have hH : HT g Ty G_20 H := by rw [eG_20]; exact HT.putN 7 x_19 hH k_h0 ⟨q_2, q_10, q_11, rfl, kq_2, kq_4, kq_10, kq_11, (rgu (rg_w rx_19 (by decide) (by decide))), rq_6, t_12⟩ o_c_1 oq (Or.inr (Or.inr (Or.inr (Or.inr (Or.inl ⟨by decide, t_12⟩)))))
    have u_21 : G_20.1 7 = x_19 := by rw [eG_20]; exact gs_eq
    have o_c_16 := o_c_16.kept (oq _ (ne_kd kq_2 k_h0 (by decide)))
    clear oq hz
    exact W.vret hx hb hr (fun t ht hWm => ⟨⟨(Ty, G_20), rfl, ⟨rfl, Or.inl ⟨(nle_lt c_13), by rw [eG_20, ex_19]⟩⟩, by show HT g Ty G_20 t.heap; rw [ht]; exact hH⟩, hS.F ht⟩) hS.2.2 dX8_emit_29

set_option maxHeartbeats 4000000 in
set_option maxRecDepth 100000 in
theorem c_X8_hold (l : Launch) (g : Gx) (Ty : TyM) (G : Gh) (sz : Nat) (h0 : Nat) (a0 : Int32) (k_h0 : Ty h0 = some (23, 0)) (hw : rgI 0 40 (G.1 5)) : Met l yX8_hold (wsG yX8_hold cX8_hold 2 none) ({ frames := 0, cells := 0, slots := 0, locals := 0 }) (PcT g Ty G sz [.ref h0, .int a0]) (QwV g Ty sz (fun u => u.1 = Ty ∧ HoldR g G u.2 a0)) 0 0 (AF Ty sz) := by
  refine Met.ofW (cc := cX8_hold) (maxL := 2) (ret := none) (by decide) rfl ?_
  intro p e s m args below meth c s₁ B hml hv
  obtain ⟨rfl, hsz, hK, hH⟩ := hv
  subst hsz
  have hx := B.exec
  have hb := B.bytes
  have hr := B.returns
  have hts := atoms_spec (ws := (wsG yX8_hold cX8_hold 2 none)) B.pre
  have hG : ∀ w ∈ GW, w.before ([.ref h0, .int a0] : List Value).toArray s = true := fun w h => hts w (List.mem_cons_of_mem _ h)
  have hown : s.vm.findClass RX8 = some m.cls := findClass_of_methodNamed B.named
  have hlocks := B.notSynchronized
  have hl := lv_entry [.ref h0, .int a0] (n := 2) (Nat.le_of_ble_eq_true rfl)
  rw [lg_entry_eq]
  generalize (lg_sl [.ref h0, .int a0] ++ List.replicate (2 - (lg_sl [.ref h0, .int a0]).length) Slot.unset).toArray = ls at hl ⊢
  have hl : lv_has ls 2 [(0, .ref h0), (1, .int a0)] := hl
  have hS : va_S (AF Ty s.heap.size) s.heap s.heap [] := va_S.rf
  refine lv_aload_n hx hb dX8_hold_0 rfl (lv_at hl 0 rfl) ?_
  obtain ⟨_, ⟨q_2, q_10, q_11, rfl, kq_2, kq_4, kq_10, kq_11, rq_3, rq_6, t_12⟩, o_c_1⟩ := hH h0 _ k_h0
  refine hg_get hx hb hG igX8 hown hK o_c_1 rfl 3 (by decide) (hG _ mw_205) rfl dX8_hold_1 ?_
  refine lv_bipush (v := 40) hx hb dX8_hold_4 (by decide) ?_
  refine lv_icmp_ge (tgt := 29) hx hb dX8_hold_6 (by decide) (fun c_13 => ?_) (fun c_13 => ?_)
  · have r_14 : rgI (40) (40) (G.1 5) := rg_w (rg_leR rl_40 hw c_13) (by decide) (by decide)
    exact W.vret hx hb hr (fun t ht hWm => ⟨⟨(Ty, G), rfl, ⟨rfl, Or.inr ⟨c_13, rfl⟩⟩, by show HT g Ty G t.heap; rw [ht]; exact hH⟩, hS.F ht⟩) hS.2.2 dX8_hold_29
  · have r_15 : rgI (0) (39) (G.1 5) := rg_w (rg_ltL hw rl_40 (nle_lt c_13)) (by decide) (by decide)
    refine lv_aload_n hx hb dX8_hold_9 rfl (lv_at hl 0 rfl) ?_
    refine hg_get hx hb hG igX8 hown hK o_c_1 rfl 2 (by decide) (hG _ mw_204) rfl dX8_hold_10 ?_
    refine lv_aload_n hx hb dX8_hold_13 rfl (lv_at hl 0 rfl) ?_
    refine hg_get hx hb hG igX8 hown hK o_c_1 rfl 3 (by decide) (hG _ mw_205) rfl dX8_hold_14 ?_
    refine lv_iload_n hx hb dX8_hold_17 rfl (lv_at hl 1 rfl) ?_
    obtain ⟨_, rfl, o_c_16⟩ := hH (g.2.2 51) _ kq_4
    have o_c_16 : va_at g.1 vwCl ((g.2.2 51), .inl (g.2.1 1, 40, .inl (G.2.1 (g.2.2 51)))) s.heap := o_c_16
    refine hg_iast hx hb hK hS o_c_16 (AF.of kq_4) (rg_in (n := 40) r_15 (by decide) (by decide)) dX8_hold_18 (fun H locs o_c_16 hz oq hS => ?_)
    obtain ⟨G_17, eG_17⟩ : ∃ z : Gh, z = aset G (g.2.2 51) (upd (G.2.1 (g.2.2 51)) ((G.1 5) : Int32).toNatClampNeg a0) := ⟨_, rfl⟩
    have hH : HT g Ty G_17 H := by rw [eG_17]; exact HT.putA (upd (G.2.1 (g.2.2 51)) ((G.1 5) : Int32).toNatClampNeg a0) hH kq_4 cf30 o_c_16 oq
    have u_18 : G_17.1 5 = (G.1 5) := by rw [eG_17]; exact rfl
    clear oq hz
    refine lv_aload_n hx hb dX8_hold_19 rfl (lv_at hl 0 rfl) ?_
    refine lv_dup hx hb dX8_hold_20 rfl ?_
    obtain ⟨_, ⟨q_20, q_28, q_29, rfl, kq_20, kq_22, kq_28, kq_29, rq_21, rq_24, t_30⟩, o_c_19⟩ := hH h0 _ k_h0
    refine hg_get hx hb hG igX8 hown hK o_c_19 rfl 3 (by decide) (hG _ mw_205) rfl dX8_hold_21 ?_
    rw [u_18]
    refine lv_iconst (v := 1) hx hb dX8_hold_24 (by decide) ?_
    refine lv_iadd hx hb dX8_hold_25 ?_
    refine lv_topi (fun x_31 ex_31 => ?_)
    have rx_31 : rgI (1) (41) x_31 := by rw [ex_31]; exact rg_w (rg_add hw rl_1 (by decide) (by decide)) (by decide) (by decide)
    have qx_31 : x_31.toInt = ((G.1 5) : Int32).toInt + 1 := by rw [ex_31]; exact rg_addE hw rl_1 (by decide) (by decide)
    refine hg_put (ty := .int) hx hb hG igX8 tyX8 tyX8_ok nmX8 hown hK hS o_c_19 (AF.of k_h0) rfl 3 (by decide) (hG _ mw_205) rfl (by decide +kernel) rfl rfl (Nat.le_of_ble_eq_true rfl) dX8_hold_26 (fun H locs o_c_19 hz oq hS => ?_)
    obtain ⟨G_32, eG_32⟩ : ∃ z : Gh, z = gset G_17 5 x_31 := ⟨_, rfl⟩
    have hH : HT g Ty G_32 H := by rw [eG_32]; exact HT.putN 5 x_31 hH k_h0 ⟨q_20, q_28, q_29, rfl, kq_20, kq_22, kq_28, kq_29, rq_21, rq_24, t_30⟩ o_c_19 oq (Or.inr (Or.inr (Or.inr (Or.inr (Or.inl ⟨by decide, t_30⟩)))))
    have u_33 : G_32.1 5 = x_31 := by rw [eG_32]; exact gs_eq
    clear oq hz
    exact W.vret hx hb hr (fun t ht hWm => ⟨⟨(Ty, G_32), rfl, ⟨rfl, Or.inl ⟨(nle_lt c_13), by rw [eG_32, ex_31, eG_17]⟩⟩, by show HT g Ty G_32 t.heap; rw [ht]; exact hH⟩, hS.F ht⟩) hS.2.2 dX8_hold_29

set_option maxHeartbeats 4000000 in
set_option maxRecDepth 100000 in
theorem c_X8_release (l : Launch) (g : Gx) (Ty : TyM) (G : Gh) (sz : Nat) (h0 : Nat) (a0 : Int32) (k_h0 : Ty h0 = some (23, 0)) (hw : rgI 0 40 (G.1 5)) : Met l yX8_release (wsG yX8_release cX8_release 3 none) ({ frames := 1, cells := 0, slots := 0, locals := 21 }) (PcT g Ty G sz [.ref h0, .int a0]) (QwV g Ty sz (fun u => u.1 = Ty ∧ RelR g G u.2 a0)) 0 0 (AF Ty sz) := by
  refine Met.ofW (cc := cX8_release) (maxL := 3) (ret := none) (by decide) rfl ?_
  intro p e s m args below meth c s₁ B hml hv
  obtain ⟨rfl, hsz, hK, hH⟩ := hv
  subst hsz
  have hx := B.exec
  have hb := B.bytes
  have hr := B.returns
  have hts := atoms_spec (ws := (wsG yX8_release cX8_release 3 none)) B.pre
  have hG : ∀ w ∈ GW, w.before ([.ref h0, .int a0] : List Value).toArray s = true := fun w h => hts w (List.mem_cons_of_mem _ h)
  have hown : s.vm.findClass RX8 = some m.cls := findClass_of_methodNamed B.named
  have hlocks := B.notSynchronized
  have hl := lv_entry [.ref h0, .int a0] (n := 3) (Nat.le_of_ble_eq_true rfl)
  rw [lg_entry_eq]
  generalize (lg_sl [.ref h0, .int a0] ++ List.replicate (3 - (lg_sl [.ref h0, .int a0]).length) Slot.unset).toArray = ls at hl ⊢
  have hl : lv_has ls 3 [(0, .ref h0), (1, .int a0)] := hl
  have hS : va_S (AF Ty s.heap.size) s.heap s.heap [] := va_S.rf
  have L_2 : ∀ (n : Nat) (H : Heap) (locs : List Loc) (G_2 : Gh) (y2_2 : Int32) (ls : Array Slot), rgI (0) (40) (G_2.1 5) → rgI (0) (40) y2_2 → RelR g G G_2 a0 → (40 - (y2_2).toInt).toNat < n → lv_has ls 3 [(0, .ref h0), (1, .int a0), (2, .int y2_2)] → HT g Ty G_2 H → va_S (AF Ty s.heap.size) s.heap H locs → Wm p l e (wsG yX8_release cX8_release 3 none) ({ frames := 1, cells := 0, slots := 0, locals := 21 }) s m [.ref h0, .int a0] below meth c H locs (0) (0) (QwV g Ty s.heap.size (fun u => u.1 = Ty ∧ RelR g G u.2 a0)) 0 0 (AF Ty s.heap.size) (F0 m 2 ls []) := by
    intro n
    induction n with
    | zero => intro H locs G_2 y2_2 ls rg5_2 ry2_2 hi0_2 hm; exact absurd hm (Nat.not_lt_zero _)
    | succ n ih_2 =>
      intro H locs G_2 y2_2 ls rg5_2 ry2_2 hi0_2 hm_2 hl hH hS
      refine lv_iload_n hx hb dX8_release_2 rfl (lv_at hl 2 rfl) ?_
      refine lv_bipush (v := 40) hx hb dX8_release_3 (by decide) ?_
      refine lv_icmp_ge (tgt := 66) hx hb dX8_release_5 (by decide) (fun c_1 => ?_) (fun c_1 => ?_)
      · have r_2 : rgI (40) (40) y2_2 := rg_w (rg_leR rl_40 ry2_2 c_1) (by decide) (by decide)
        exact W.vret hx hb hr (fun t ht hWm => ⟨⟨(Ty, G_2), rfl, ⟨rfl, hi0_2⟩, by show HT g Ty G_2 t.heap; rw [ht]; exact hH⟩, hS.F ht⟩) hS.2.2 dX8_release_66
      · have r_3 : rgI (0) (39) y2_2 := rg_w (rg_ltL ry2_2 rl_40 (nle_lt c_1)) (by decide) (by decide)
        refine lv_aload_n hx hb dX8_release_8 rfl (lv_at hl 0 rfl) ?_
        obtain ⟨_, ⟨q_5, q_13, q_14, rfl, kq_5, kq_7, kq_13, kq_14, rq_6, rq_9, t_15⟩, o_c_4⟩ := hH h0 _ k_h0
        refine hg_get hx hb hG igX8 hown hK o_c_4 rfl 3 (by decide) (hG _ mw_205) rfl dX8_release_9 ?_
        refine lv_if_le (tgt := 66) hx hb dX8_release_12 (by decide) (fun c_16 => ?_) (fun c_16 => ?_)
        · have r_17 : rgI (0) (0) (G_2.1 5) := rg_w (rg_leL rg5_2 rl_0 c_16) (by decide) (by decide)
          exact W.vret hx hb hr (fun t ht hWm => ⟨⟨(Ty, G_2), rfl, ⟨rfl, hi0_2⟩, by show HT g Ty G_2 t.heap; rw [ht]; exact hH⟩, hS.F ht⟩) hS.2.2 dX8_release_66
        · have r_18 : rgI (1) (40) (G_2.1 5) := rg_w (rg_ltR rl_0 rg5_2 (nle_lt c_16)) (by decide) (by decide)
          refine lv_aload_n hx hb dX8_release_15 rfl (lv_at hl 0 rfl) ?_
          refine hg_get hx hb hG igX8 hown hK o_c_4 rfl 2 (by decide) (hG _ mw_204) rfl dX8_release_16 ?_
          refine lv_aload_n hx hb dX8_release_19 rfl (lv_at hl 0 rfl) ?_
          refine hg_get hx hb hG igX8 hown hK o_c_4 rfl 3 (by decide) (hG _ mw_205) rfl dX8_release_20 ?_
          refine lv_iconst (v := 1) hx hb dX8_release_23 (by decide) ?_
          refine lv_isub hx hb dX8_release_24 ?_
          refine lv_topi (fun x_19 ex_19 => ?_)
          have rx_19 : rgI (0) (39) x_19 := by rw [ex_19]; exact rg_w (rg_sub r_18 rl_1 (by decide) (by decide)) (by decide) (by decide)
          obtain ⟨_, rfl, o_c_20⟩ := hH (g.2.2 51) _ kq_7
          have o_c_20 : va_at g.1 vwCl ((g.2.2 51), .inl (g.2.1 1, 40, .inl (G_2.2.1 (g.2.2 51)))) H := o_c_20
          refine hg_iald hx hb hK o_c_20 (rg_in (n := 40) rx_19 (by decide) (by decide)) dX8_release_25 ?_
          refine lv_topi (fun x_21 ex_21 => ?_)
          refine vp_callSi (W.runS (As := [.int x_21]) (rest := []) ⟨hx, hb, hml, hown, hts⟩ (c_X8_rankOf_k l g Ty G_2 x_21 ) (cwSx 1 hts hG (gwC mw_555) mw_81 mw_553 mw_554 rfl rfl rfl hd_X8_rankOf ⟨Nat.le_of_ble_eq_true rfl, Nat.le_of_ble_eq_true rfl⟩) ⟨PcH_blind, PcH_pre hK hH⟩ rfl rfl hl.1 rfl (lv_room (Nat.le_of_ble_eq_true rfl)) dX8_release_26 ⟨Nat.zero_le _, Nat.zero_le _⟩) (fun x_22 hx_22 => ?_)
          have rx_22 : rgI (0) (4) x_22 := hx_22.1
          refine lv_iload_n hx hb dX8_release_29 rfl (lv_at hl 1 rfl) ?_
          refine lv_icmp_lt (tgt := 66) hx hb dX8_release_30 (by decide) (fun c_23 => ?_) (fun c_23 => ?_)
          · have r_24 : rgI (1) (2147483647) a0 := rg_w (rg_ltR rx_22 (rg_top a0) c_23) (by decide) (by decide)
            exact W.vret hx hb hr (fun t ht hWm => ⟨⟨(Ty, G_2), rfl, ⟨rfl, hi0_2⟩, by show HT g Ty G_2 t.heap; rw [ht]; exact hH⟩, hS.F ht⟩) hS.2.2 dX8_release_66
          · have r_25 : rgI (-2147483648) (4) a0 := rg_w (rg_leL (rg_top a0) rx_22 (nlt_le c_23)) (by decide) (by decide)
            refine lv_aload_n hx hb dX8_release_33 rfl (lv_at hl 0 rfl) ?_
            refine lv_dup hx hb dX8_release_34 rfl ?_
            refine hg_get hx hb hG igX8 hown hK o_c_4 rfl 3 (by decide) (hG _ mw_205) rfl dX8_release_35 ?_
            refine lv_iconst (v := 1) hx hb dX8_release_38 (by decide) ?_
            refine lv_isub hx hb dX8_release_39 ?_
            refine lv_topi (fun x_26 ex_26 => ?_)
            have rx_26 : rgI (0) (39) x_26 := by rw [ex_26]; exact rg_w (rg_sub r_18 rl_1 (by decide) (by decide)) (by decide) (by decide)
            refine hg_put (ty := .int) hx hb hG igX8 tyX8 tyX8_ok nmX8 hown hK hS o_c_4 (AF.of k_h0) rfl 3 (by decide) (hG _ mw_205) rfl (by decide +kernel) rfl rfl (Nat.le_of_ble_eq_true rfl) dX8_release_40 (fun H locs o_c_4 hz oq hS => ?_)
            obtain ⟨G_27, eG_27⟩ : ∃ z : Gh, z = gset G_2 5 x_26 := ⟨_, rfl⟩
            have hH : HT g Ty G_27 H := by rw [eG_27]; exact HT.putN 5 x_26 hH k_h0 ⟨q_5, q_13, q_14, rfl, kq_5, kq_7, kq_13, kq_14, rq_6, rq_9, t_15⟩ o_c_4 oq (Or.inr (Or.inr (Or.inr (Or.inr (Or.inl ⟨by decide, t_15⟩)))))
            have u_28 : G_27.1 5 = x_26 := by rw [eG_27]; exact gs_eq
            clear oq hz
            refine lv_aload_n hx hb dX8_release_43 rfl (lv_at hl 0 rfl) ?_
            refine lv_sipush (v := 2000) hx hb dX8_release_44 (by decide) ?_
            refine lv_aload_n hx hb dX8_release_47 rfl (lv_at hl 0 rfl) ?_
            obtain ⟨_, ⟨q_30, q_38, q_39, rfl, kq_30, kq_32, kq_38, kq_39, rq_31, rq_34, t_40⟩, o_c_29⟩ := hH h0 _ k_h0
            refine hg_get hx hb hG igX8 hown hK o_c_29 rfl 2 (by decide) (hG _ mw_204) rfl dX8_release_48 ?_
            refine lv_aload_n hx hb dX8_release_51 rfl (lv_at hl 0 rfl) ?_
            refine hg_get hx hb hG igX8 hown hK o_c_29 rfl 3 (by decide) (hG _ mw_205) rfl dX8_release_52 ?_
            rw [u_28]
            obtain ⟨_, rfl, o_c_41⟩ := hH (g.2.2 51) _ kq_32
            have o_c_41 : va_at g.1 vwCl ((g.2.2 51), .inl (g.2.1 1, 40, .inl (G_27.2.1 (g.2.2 51)))) H := o_c_41
            refine hg_iald hx hb hK o_c_41 (rg_in (n := 40) rx_26 (by decide) (by decide)) dX8_release_55 ?_
            refine lv_topi (fun x_42 ex_42 => ?_)
            refine lv_iadd hx hb dX8_release_56 ?_
            refine lv_topi (fun x_43 ex_43 => ?_)
            refine va_callv (va_runV (As := [.int x_43]) (rest := []) ⟨hx, hb, hml, hown, hts⟩ (c_X8_emit l g Ty G_27 H.size h0 x_43 k_h0) (cwV 1 hts (gwV mw_533 mw_535 mw_3 mw_81 mw_536) rfl rfl rfl hv_X8_emit ⟨Nat.le_of_ble_eq_true rfl, Nat.le_of_ble_eq_true rfl⟩) ⟨PcT_blind, hg_recv hK o_c_29 rfl, PcT_pre hK hH⟩ rfl rfl hl.1 rfl (lv_room (Nat.le_of_ble_eq_true rfl)) dX8_release_57 ⟨Nat.zero_le _, Nat.zero_le _⟩) hS (fun q _ h => AF.mono hS.1 h) (fun q h => AF.mono hS.1 h) (fun ux_44 t H locs ht hvm hx_44 hB hz hk hS => ?_)
            obtain ⟨eTx_44, eGx_44⟩ := hx_44
            obtain ⟨G_45, eG_45⟩ : ∃ z, z = ux_44.2 := ⟨_, rfl⟩
            rw [← eG_45] at eGx_44
            have u_46 : G_45.1 5 = x_26 := ((EmitR.keep eGx_44 (by decide))).trans u_28
            have hH : HT g Ty G_45 H := by rw [← ht, ← eTx_44, eG_45]; exact hB
            obtain ⟨x_47, ex_47⟩ : ∃ y : Int32, y = y2_2 + 1 := ⟨_, rfl⟩
            have rx_47 : rgI (1) (40) x_47 := by rw [ex_47]; exact rg_w (rg_add r_3 rl_1 (by decide) (by decide)) (by decide) (by decide)
            have qx_47 : x_47.toInt = (y2_2 : Int32).toInt + 1 := by rw [ex_47]; exact rg_addE r_3 rl_1 (by decide) (by decide)
            refine lv_iinc (v := x_47) (lv' := [(2, .int x_47), (0, .ref h0), (1, .int a0)]) hx hb dX8_release_60 hl (k := 2) rfl (by rw [ex_47]; rfl) (by decide) rfl (fun ls hl => ?_)
            refine lv_goto (tgt := 2) hx hb dX8_release_63 (by decide) ?_
            exact ih_2 H locs G_45 x_47 ls (by rw [u_46]; exact rg_w rx_26 (by decide) (by decide)) (rg_w rx_47 (by decide) (by decide)) (rel_more hi0_2 (nle_lt c_16) rg5_2.2 ex_26 (by rw [← ex_21]; exact hx_22.2.1) ex_19 (nlt_le c_23) eG_27 eGx_44) (by have h1 := qx_47; have h2 := r_3.1; have h3 := r_3.2; have h4 := hm_2; omega) (lv_sub hl [1, 2, 0] rfl) hH hS
  refine lv_iconst (v := 0) hx hb dX8_release_0 (by decide) ?_
  refine lv_istore_n (lv' := [(2, .int 0), (0, .ref h0), (1, .int a0)]) hx hb dX8_release_1 rfl hl (by decide) rfl (fun ls hl => ?_)
  exact L_2 _ s.heap [] G 0 ls (rg_w hw (by decide) (by decide)) (rg_w rl_0 (by decide) (by decide)) (RelR.rf hw) (Nat.lt_succ_self _) (lv_sub hl [1, 2, 0] rfl) hH hS

set_option maxHeartbeats 4000000 in
set_option maxRecDepth 100000 in
theorem c_X8_opens (l : Launch) (g : Gx) (Ty : TyM) (G : Gh) (sz : Nat) (h0 : Nat) (k_h0 : Ty h0 = some (23, 0)) (hW : RW g G) (hp : (G.1 5).toInt ≤ 39) : Met l yX8_opens (wsG yX8_opens cX8_opens 1 (some .boolean)) ({ frames := 1, cells := 0, slots := 0, locals := 21 }) (PcT g Ty G sz [.ref h0]) (QwI g Ty sz (fun r u => (rgI (0) (1) r) ∧ u.1 = Ty ∧ STEP g G u.2 ∧ STA g G u.2 1 r 40)) 0 0 (AF Ty sz) := by
  refine Met.ofW (cc := cX8_opens) (maxL := 1) (ret := (some .boolean)) (by decide) rfl ?_
  intro p e s m args below meth c s₁ B hml hv
  obtain ⟨rfl, hsz, hK, hH⟩ := hv
  subst hsz
  have hx := B.exec
  have hb := B.bytes
  have hr := B.returns
  have hts := atoms_spec (ws := (wsG yX8_opens cX8_opens 1 (some .boolean))) B.pre
  have hG : ∀ w ∈ GW, w.before ([.ref h0] : List Value).toArray s = true := fun w h => hts w (List.mem_cons_of_mem _ h)
  have hown : s.vm.findClass RX8 = some m.cls := findClass_of_methodNamed B.named
  have hlocks := B.notSynchronized
  have hl := lv_entry [.ref h0] (n := 1) (Nat.le_of_ble_eq_true rfl)
  rw [lg_entry_eq]
  generalize (lg_sl [.ref h0] ++ List.replicate (1 - (lg_sl [.ref h0]).length) Slot.unset).toArray = ls at hl ⊢
  have hl : lv_has ls 1 [(0, .ref h0)] := hl
  have hS : va_S (AF Ty s.heap.size) s.heap s.heap [] := va_S.rf
  refine lv_aload_n hx hb dX8_opens_0 rfl (lv_at hl 0 rfl) ?_
  obtain ⟨_, ⟨q_2, q_10, q_11, rfl, kq_2, kq_4, kq_10, kq_11, rq_3, rq_6, t_12⟩, o_c_1⟩ := hH h0 _ k_h0
  refine hg_get hx hb hG igX8 hown hK o_c_1 rfl 6 (by decide) (hG _ mw_208) rfl dX8_opens_1 ?_
  refine lv_iconst (v := 4) hx hb dX8_opens_4 (by decide) ?_
  refine lv_icmp_lt (tgt := 10) hx hb dX8_opens_5 (by decide) (fun c_13 => ?_) (fun c_13 => ?_)
  · have r_14 : rgI (0) (3) (G.1 6) := rg_w (rg_ltL hW.2.1 rl_4 c_13) (by decide) (by decide)
    refine lv_aload_n hx hb dX8_opens_10 rfl (lv_at hl 0 rfl) ?_
    refine lv_dup hx hb dX8_opens_11 rfl ?_
    refine hg_get hx hb hG igX8 hown hK o_c_1 rfl 6 (by decide) (hG _ mw_208) rfl dX8_opens_12 ?_
    refine lv_iconst (v := 1) hx hb dX8_opens_15 (by decide) ?_
    refine lv_iadd hx hb dX8_opens_16 ?_
    refine lv_topi (fun x_15 ex_15 => ?_)
    have rx_15 : rgI (1) (4) x_15 := by rw [ex_15]; exact rg_w (rg_add r_14 rl_1 (by decide) (by decide)) (by decide) (by decide)
    have qx_15 : x_15.toInt = ((G.1 6) : Int32).toInt + 1 := by rw [ex_15]; exact rg_addE r_14 rl_1 (by decide) (by decide)
    refine hg_put (ty := .int) hx hb hG igX8 tyX8 tyX8_ok nmX8 hown hK hS o_c_1 (AF.of k_h0) rfl 6 (by decide) (hG _ mw_208) rfl (by decide +kernel) rfl rfl (Nat.le_of_ble_eq_true rfl) dX8_opens_17 (fun H locs o_c_1 hz oq hS => ?_)
    obtain ⟨G_16, eG_16⟩ : ∃ z : Gh, z = gset G 6 x_15 := ⟨_, rfl⟩
    have hH : HT g Ty G_16 H := by rw [eG_16]; exact HT.putN 6 x_15 hH k_h0 ⟨q_2, q_10, q_11, rfl, kq_2, kq_4, kq_10, kq_11, rq_3, rq_6, t_12⟩ o_c_1 oq (Or.inr (Or.inr (Or.inr (Or.inr (Or.inl ⟨by decide, t_12⟩)))))
    have u_17 : G_16.1 5 = (G.1 5) := by rw [eG_16]; exact gs_ne (by decide)
    have u_18 : G_16.1 9 = (G.1 9) := by rw [eG_16]; exact gs_ne (by decide)
    have u_19 : G_16.1 10 = (G.1 10) := by rw [eG_16]; exact gs_ne (by decide)
    have u_20 : G_16.1 6 = x_15 := by rw [eG_16]; exact gs_eq
    clear oq hz
    refine lv_aload_n hx hb dX8_opens_20 rfl (lv_at hl 0 rfl) ?_
    refine lv_dup hx hb dX8_opens_21 rfl ?_
    obtain ⟨_, ⟨q_22, q_30, q_31, rfl, kq_22, kq_24, kq_30, kq_31, rq_23, rq_26, t_32⟩, o_c_21⟩ := hH h0 _ k_h0
    refine hg_get hx hb hG igX8 hown hK o_c_21 rfl 7 (by decide) (hG _ mw_209) rfl dX8_opens_22 ?_
    rw [u_19]
    refine lv_iconst (v := 1) hx hb dX8_opens_25 (by decide) ?_
    refine lv_aload_n hx hb dX8_opens_26 rfl (lv_at hl 0 rfl) ?_
    refine hg_get hx hb hG igX8 hown hK o_c_21 rfl 6 (by decide) (hG _ mw_208) rfl dX8_opens_27 ?_
    rw [u_20]
    refine lv_ishl hx hb dX8_opens_30 ?_
    refine lv_topi (fun x_33 ex_33 => ?_)
    refine lv_iconst (v := (-1)) hx hb dX8_opens_31 (by decide) ?_
    refine lv_ixor hx hb dX8_opens_32 ?_
    refine lv_topi (fun x_34 ex_34 => ?_)
    refine lv_iand hx hb dX8_opens_33 ?_
    refine lv_topi (fun x_35 ex_35 => ?_)
    refine hg_put (ty := .int) hx hb hG igX8 tyX8 tyX8_ok nmX8 hown hK hS o_c_21 (AF.of k_h0) rfl 7 (by decide) (hG _ mw_209) rfl (by decide +kernel) rfl rfl (Nat.le_of_ble_eq_true rfl) dX8_opens_34 (fun H locs o_c_21 hz oq hS => ?_)
    obtain ⟨G_36, eG_36⟩ : ∃ z : Gh, z = gset G_16 10 x_35 := ⟨_, rfl⟩
    have hH : HT g Ty G_36 H := by rw [eG_36]; exact HT.putN 10 x_35 hH k_h0 ⟨q_22, q_30, q_31, rfl, kq_22, kq_24, kq_30, kq_31, rq_23, rq_26, t_32⟩ o_c_21 oq (Or.inr (Or.inr (Or.inr (Or.inr (Or.inl ⟨by decide, t_32⟩)))))
    have u_37 : G_36.1 5 = (G.1 5) := by rw [eG_36]; exact (gs_ne (by decide)).trans u_17
    have u_38 : G_36.1 9 = (G.1 9) := by rw [eG_36]; exact (gs_ne (by decide)).trans u_18
    have u_39 : G_36.1 6 = x_15 := by rw [eG_36]; exact (gs_ne (by decide)).trans u_20
    have u_40 : G_36.1 10 = x_35 := by rw [eG_36]; exact gs_eq
    clear oq hz
    refine lv_aload_n hx hb dX8_opens_37 rfl (lv_at hl 0 rfl) ?_
    refine lv_bipush (v := 40) hx hb dX8_opens_38 (by decide) ?_
    obtain ⟨_, ⟨q_42, q_50, q_51, rfl, kq_42, kq_44, kq_50, kq_51, rq_43, rq_46, t_52⟩, o_c_41⟩ := hH h0 _ k_h0
    refine va_callv (va_runV (As := [.int 40]) (rest := []) ⟨hx, hb, hml, hown, hts⟩ (c_X8_hold l g Ty G_36 H.size h0 40 k_h0 (by rw [u_37]; exact rg_w hW.1 (by decide) (by decide))) (cwV 1 hts (gwV mw_435 mw_437 mw_1 mw_81 mw_438) rfl rfl rfl hv_X8_hold ⟨Nat.le_of_ble_eq_true rfl, Nat.le_of_ble_eq_true rfl⟩) ⟨PcT_blind, hg_recv hK o_c_41 rfl, PcT_pre hK hH⟩ rfl rfl hl.1 rfl (lv_room (Nat.le_of_ble_eq_true rfl)) dX8_opens_40 ⟨Nat.zero_le _, Nat.zero_le _⟩) hS (fun q _ h => AF.mono hS.1 h) (fun q h => AF.mono hS.1 h) (fun ux_53 t H locs ht hvm hx_53 hB hz hk hS => ?_)
    obtain ⟨eTx_53, eGx_53⟩ := hx_53
    obtain ⟨G_54, eG_54⟩ : ∃ z, z = ux_53.2 := ⟨_, rfl⟩
    rw [← eG_54] at eGx_53
    have u_55 : G_54.1 9 = (G.1 9) := ((HoldR.keep eGx_53 (by decide))).trans u_38
    have u_56 : G_54.1 6 = x_15 := ((HoldR.keep eGx_53 (by decide))).trans u_39
    have u_57 : G_54.1 10 = x_35 := ((HoldR.keep eGx_53 (by decide))).trans u_40
    have hH : HT g Ty G_54 H := by rw [← ht, ← eTx_53, eG_54]; exact hB
    refine lv_iconst (v := 1) hx hb dX8_opens_43 (by decide) ?_
    exact W.zret hx hb hr rfl (fun t ht hWm => ⟨⟨1, (Ty, G_54), rfl, ⟨rg_w rl_1 (by decide) (by decide), ⟨rfl, open_go hW hp c_13 eG_16 ex_15 ex_33 ex_34 ex_35 eG_36 eGx_53⟩⟩, by show HT g Ty G_54 t.heap; rw [ht]; exact hH⟩, hS.F ht⟩) hS.2.2 dX8_opens_44
  · have r_58 : rgI (4) (4) (G.1 6) := rg_w (rg_leR rl_4 hW.2.1 (nlt_le c_13)) (by decide) (by decide)
    refine lv_iconst (v := 0) hx hb dX8_opens_8 (by decide) ?_
    exact W.zret hx hb hr rfl (fun t ht hWm => ⟨⟨0, (Ty, G), rfl, ⟨rg_w rl_0 (by decide) (by decide), ⟨rfl, open_no hW (nlt_le c_13)⟩⟩, by show HT g Ty G t.heap; rw [ht]; exact hH⟩, hS.F ht⟩) hS.2.2 dX8_opens_9

set_option maxHeartbeats 4000000 in
set_option maxRecDepth 100000 in
theorem c_X8_addsDigit (l : Launch) (g : Gx) (Ty : TyM) (G : Gh) (sz : Nat) (h0 : Nat) (a0 : Int32) (k_h0 : Ty h0 = some (23, 0)) : Met l yX8_addsDigit (wsG yX8_addsDigit cX8_addsDigit 2 (some .boolean)) ({ frames := 0, cells := 0, slots := 0, locals := 0 }) (PcT g Ty G sz [.ref h0, .int a0]) (QwI g Ty sz (fun r u => (rgI (0) (1) r) ∧ u.1 = Ty ∧ ADR G u.2 r)) 0 0 (AF Ty sz) := by
  refine Met.ofW (cc := cX8_addsDigit) (maxL := 2) (ret := (some .boolean)) (by decide) rfl ?_
  intro p e s m args below meth c s₁ B hml hv
  obtain ⟨rfl, hsz, hK, hH⟩ := hv
  subst hsz
  have hx := B.exec
  have hb := B.bytes
  have hr := B.returns
  have hts := atoms_spec (ws := (wsG yX8_addsDigit cX8_addsDigit 2 (some .boolean))) B.pre
  have hG : ∀ w ∈ GW, w.before ([.ref h0, .int a0] : List Value).toArray s = true := fun w h => hts w (List.mem_cons_of_mem _ h)
  have hown : s.vm.findClass RX8 = some m.cls := findClass_of_methodNamed B.named
  have hlocks := B.notSynchronized
  have hl := lv_entry [.ref h0, .int a0] (n := 2) (Nat.le_of_ble_eq_true rfl)
  rw [lg_entry_eq]
  generalize (lg_sl [.ref h0, .int a0] ++ List.replicate (2 - (lg_sl [.ref h0, .int a0]).length) Slot.unset).toArray = ls at hl ⊢
  have hl : lv_has ls 2 [(0, .ref h0), (1, .int a0)] := hl
  have hS : va_S (AF Ty s.heap.size) s.heap s.heap [] := va_S.rf
  have h40 : rgI (0) (40) (G.1 7) := (ht23 hH k_h0).1
  refine lv_aload_n hx hb dX8_addsDigit_0 rfl (lv_at hl 0 rfl) ?_
  obtain ⟨_, ⟨q_2, q_10, q_11, rfl, kq_2, kq_4, kq_10, kq_11, rq_3, rq_6, t_12⟩, o_c_1⟩ := hH h0 _ k_h0
  refine hg_get hx hb hG igX8 hown hK o_c_1 rfl 5 (by decide) (hG _ mw_207) rfl dX8_addsDigit_1 ?_
  refine lv_if_eq (tgt := 22) hx hb dX8_addsDigit_4 (by decide) (fun c_13 => ?_) (fun c_13 => ?_)
  · have r_14 : rgI (0) (0) (G.1 9) := rg_w (rg_eq rl_0 c_13) (by decide) (by decide)
    refine lv_iconst (v := 0) hx hb dX8_addsDigit_22 (by decide) ?_
    exact W.zret hx hb hr rfl (fun t ht hWm => ⟨⟨0, (Ty, G), rfl, ⟨rg_w rl_0 (by decide) (by decide), ⟨rfl, Or.inl ⟨rfl, Or.inl c_13, rfl⟩⟩⟩, by show HT g Ty G t.heap; rw [ht]; exact hH⟩, hS.F ht⟩) hS.2.2 dX8_addsDigit_23
  · refine lv_aload_n hx hb dX8_addsDigit_7 rfl (lv_at hl 0 rfl) ?_
    refine hg_get hx hb hG igX8 hown hK o_c_1 rfl 5 (by decide) (hG _ mw_207) rfl dX8_addsDigit_8 ?_
    refine lv_iconst (v := 3) hx hb dX8_addsDigit_11 (by decide) ?_
    refine lv_icmp_ge (tgt := 22) hx hb dX8_addsDigit_12 (by decide) (fun c_15 => ?_) (fun c_15 => ?_)
    · have r_16 : rgI (3) (2147483647) (G.1 9) := rg_w (rg_leR rl_3 (rg_top (G.1 9)) c_15) (by decide) (by decide)
      refine lv_iconst (v := 0) hx hb dX8_addsDigit_22 (by decide) ?_
      exact W.zret hx hb hr rfl (fun t ht hWm => ⟨⟨0, (Ty, G), rfl, ⟨rg_w rl_0 (by decide) (by decide), ⟨rfl, Or.inl ⟨rfl, Or.inr (Or.inl c_15), rfl⟩⟩⟩, by show HT g Ty G t.heap; rw [ht]; exact hH⟩, hS.F ht⟩) hS.2.2 dX8_addsDigit_23
    · have r_17 : rgI (-2147483648) (2) (G.1 9) := rg_w (rg_ltL (rg_top (G.1 9)) rl_3 (nle_lt c_15)) (by decide) (by decide)
      refine lv_aload_n hx hb dX8_addsDigit_15 rfl (lv_at hl 0 rfl) ?_
      refine hg_get hx hb hG igX8 hown hK o_c_1 rfl 1 (by decide) (hG _ mw_203) rfl dX8_addsDigit_16 ?_
      refine lv_if_ne (tgt := 24) hx hb dX8_addsDigit_19 (by decide) (fun c_18 => ?_) (fun c_18 => ?_)
      · have r_19 : rgI (1) (40) (G.1 7) := rg_w (rg_neL h40 rl_0 c_18) (by decide) (by decide)
        refine lv_aload_n hx hb dX8_addsDigit_24 rfl (lv_at hl 0 rfl) ?_
        refine hg_get hx hb hG igX8 hown hK o_c_1 rfl 0 (by decide) (hG _ mw_202) rfl dX8_addsDigit_25 ?_
        refine lv_aload_n hx hb dX8_addsDigit_28 rfl (lv_at hl 0 rfl) ?_
        refine hg_get hx hb hG igX8 hown hK o_c_1 rfl 1 (by decide) (hG _ mw_203) rfl dX8_addsDigit_29 ?_
        refine lv_iconst (v := 1) hx hb dX8_addsDigit_32 (by decide) ?_
        refine lv_isub hx hb dX8_addsDigit_33 ?_
        refine lv_topi (fun x_20 ex_20 => ?_)
        have rx_20 : rgI (0) (39) x_20 := by rw [ex_20]; exact rg_w (rg_sub r_19 rl_1 (by decide) (by decide)) (by decide) (by decide)
        refine lv_bipush (v := 10) hx hb dX8_addsDigit_34 (by decide) ?_
        refine lv_aload_n hx hb dX8_addsDigit_36 rfl (lv_at hl 0 rfl) ?_
        refine hg_get hx hb hG igX8 hown hK o_c_1 rfl 0 (by decide) (hG _ mw_202) rfl dX8_addsDigit_37 ?_
        refine lv_aload_n hx hb dX8_addsDigit_40 rfl (lv_at hl 0 rfl) ?_
        refine hg_get hx hb hG igX8 hown hK o_c_1 rfl 1 (by decide) (hG _ mw_203) rfl dX8_addsDigit_41 ?_
        refine lv_iconst (v := 1) hx hb dX8_addsDigit_44 (by decide) ?_
        refine lv_isub hx hb dX8_addsDigit_45 ?_
        refine lv_topi (fun x_21 ex_21 => ?_)
        have rx_21 : rgI (0) (39) x_21 := by rw [ex_21]; exact rg_w (rg_sub r_19 rl_1 (by decide) (by decide)) (by decide) (by decide)
        obtain ⟨_, ⟨f_23, rfl⟩, o_c_22⟩ := hH q_2 _ kq_2
        refine hg_iald hx hb hK o_c_22 (rg_in (n := 40) rx_21 (by decide) (by decide)) dX8_addsDigit_46 ?_
        refine lv_topi (fun x_24 ex_24 => ?_)
        refine lv_imul hx hb dX8_addsDigit_47 ?_
        refine lv_topi (fun x_25 ex_25 => ?_)
        refine lv_iload_n hx hb dX8_addsDigit_48 rfl (lv_at hl 1 rfl) ?_
        refine lv_iadd hx hb dX8_addsDigit_49 ?_
        refine lv_topi (fun x_26 ex_26 => ?_)
        refine hg_iast hx hb hK hS o_c_22 (AF.of kq_2) (rg_in (n := 40) rx_20 (by decide) (by decide)) dX8_addsDigit_50 (fun H locs o_c_22 hz oq hS => ?_)
        generalize hff_27 : upd f_23 _ x_26 = f_27 at o_c_22
        have hH : HT g Ty G H := hH.put kq_2 ⟨_, rfl⟩ o_c_22 oq
        have o_c_1 := o_c_1.kept (oq _ (ne_kd k_h0 kq_2 (by decide)))
        clear oq hz
        refine lv_aload_n hx hb dX8_addsDigit_51 rfl (lv_at hl 0 rfl) ?_
        refine lv_dup hx hb dX8_addsDigit_52 rfl ?_
        refine hg_get hx hb hG igX8 hown hK o_c_1 rfl 5 (by decide) (hG _ mw_207) rfl dX8_addsDigit_53 ?_
        refine lv_iconst (v := 1) hx hb dX8_addsDigit_56 (by decide) ?_
        refine lv_iadd hx hb dX8_addsDigit_57 ?_
        refine lv_topi (fun x_28 ex_28 => ?_)
        have rx_28 : rgI (-2147483647) (3) x_28 := by rw [ex_28]; exact rg_w (rg_add r_17 rl_1 (by decide) (by decide)) (by decide) (by decide)
        have qx_28 : x_28.toInt = ((G.1 9) : Int32).toInt + 1 := by rw [ex_28]; exact rg_addE r_17 rl_1 (by decide) (by decide)
        refine hg_put (ty := .int) hx hb hG igX8 tyX8 tyX8_ok nmX8 hown hK hS o_c_1 (AF.of k_h0) rfl 5 (by decide) (hG _ mw_207) rfl (by decide +kernel) rfl rfl (Nat.le_of_ble_eq_true rfl) dX8_addsDigit_58 (fun H locs o_c_1 hz oq hS => ?_)
        obtain ⟨G_29, eG_29⟩ : ∃ z : Gh, z = gset G 9 x_28 := ⟨_, rfl⟩
        have hH : HT g Ty G_29 H := by rw [eG_29]; exact HT.putN 9 x_28 hH k_h0 ⟨q_2, q_10, q_11, rfl, kq_2, kq_4, kq_10, kq_11, rq_3, rq_6, t_12⟩ o_c_1 oq (Or.inr (Or.inr (Or.inr (Or.inr (Or.inl ⟨by decide, t_12⟩)))))
        have u_30 : G_29.1 7 = (G.1 7) := by rw [eG_29]; exact gs_ne (by decide)
        have u_31 : G_29.1 9 = x_28 := by rw [eG_29]; exact gs_eq
        have o_c_22 := o_c_22.kept (oq _ (ne_kd kq_2 k_h0 (by decide)))
        clear oq hz
        refine lv_iconst (v := 1) hx hb dX8_addsDigit_61 (by decide) ?_
        exact W.zret hx hb hr rfl (fun t ht hWm => ⟨⟨1, (Ty, G_29), rfl, ⟨rg_w rl_1 (by decide) (by decide), ⟨rfl, Or.inr ⟨rfl, c_13, (nle_lt c_15), c_18, by rw [eG_29, ex_28]⟩⟩⟩, by show HT g Ty G_29 t.heap; rw [ht]; exact hH⟩, hS.F ht⟩) hS.2.2 dX8_addsDigit_62
      · have r_32 : rgI (0) (0) (G.1 7) := rg_w (rg_eq rl_0 c_18) (by decide) (by decide)
        refine lv_iconst (v := 0) hx hb dX8_addsDigit_22 (by decide) ?_
        exact W.zret hx hb hr rfl (fun t ht hWm => ⟨⟨0, (Ty, G), rfl, ⟨rg_w rl_0 (by decide) (by decide), ⟨rfl, Or.inl ⟨rfl, Or.inr (Or.inr c_18), rfl⟩⟩⟩, by show HT g Ty G t.heap; rw [ht]; exact hH⟩, hS.F ht⟩) hS.2.2 dX8_addsDigit_23

set_option maxHeartbeats 4000000 in
set_option maxRecDepth 100000 in
theorem c_X8_closes (l : Launch) (g : Gx) (Ty : TyM) (G : Gh) (sz : Nat) (h0 : Nat) (k_h0 : Ty h0 = some (23, 0)) (hW : RW g G) (hp : (G.1 5).toInt ≤ 39) (h9 : G.1 9 = 0) : Met l yX8_closes (wsG yX8_closes cX8_closes 1 (some .boolean)) ({ frames := 2, cells := 0, slots := 0, locals := 43 }) (PcT g Ty G sz [.ref h0]) (QwI g Ty sz (fun r u => (rgI (0) (1) r) ∧ u.1 = Ty ∧ STEP g G u.2 ∧ STA g G u.2 0 r 41)) 0 0 (AF Ty sz) := by
  refine Met.ofW (cc := cX8_closes) (maxL := 1) (ret := (some .boolean)) (by decide) rfl ?_
  intro p e s m args below meth c s₁ B hml hv
  obtain ⟨rfl, hsz, hK, hH⟩ := hv
  subst hsz
  have hx := B.exec
  have hb := B.bytes
  have hr := B.returns
  have hts := atoms_spec (ws := (wsG yX8_closes cX8_closes 1 (some .boolean))) B.pre
  have hG : ∀ w ∈ GW, w.before ([.ref h0] : List Value).toArray s = true := fun w h => hts w (List.mem_cons_of_mem _ h)
  have hown : s.vm.findClass RX8 = some m.cls := findClass_of_methodNamed B.named
  have hlocks := B.notSynchronized
  have hl := lv_entry [.ref h0] (n := 1) (Nat.le_of_ble_eq_true rfl)
  rw [lg_entry_eq]
  generalize (lg_sl [.ref h0] ++ List.replicate (1 - (lg_sl [.ref h0]).length) Slot.unset).toArray = ls at hl ⊢
  have hl : lv_has ls 1 [(0, .ref h0)] := hl
  have hS : va_S (AF Ty s.heap.size) s.heap s.heap [] := va_S.rf
  refine lv_aload_n hx hb dX8_closes_0 rfl (lv_at hl 0 rfl) ?_
  obtain ⟨_, ⟨q_2, q_10, q_11, rfl, kq_2, kq_4, kq_10, kq_11, rq_3, rq_6, t_12⟩, o_c_1⟩ := hH h0 _ k_h0
  refine hg_get hx hb hG igX8 hown hK o_c_1 rfl 6 (by decide) (hG _ mw_208) rfl dX8_closes_1 ?_
  refine lv_if_eq (tgt := 14) hx hb dX8_closes_4 (by decide) (fun c_13 => ?_) (fun c_13 => ?_)
  · have r_14 : rgI (0) (0) (G.1 6) := rg_w (rg_eq rl_0 c_13) (by decide) (by decide)
    refine lv_iconst (v := 0) hx hb dX8_closes_14 (by decide) ?_
    exact W.zret hx hb hr rfl (fun t ht hWm => ⟨⟨0, (Ty, G), rfl, ⟨rg_w rl_0 (by decide) (by decide), ⟨rfl, close_no hW (Or.inl c_13)⟩⟩, by show HT g Ty G t.heap; rw [ht]; exact hH⟩, hS.F ht⟩) hS.2.2 dX8_closes_15
  · have r_15 : rgI (1) (4) (G.1 6) := rg_w (rg_neL hW.2.1 rl_0 c_13) (by decide) (by decide)
    refine lv_aload_n hx hb dX8_closes_7 rfl (lv_at hl 0 rfl) ?_
    refine hg_get hx hb hG igX8 hown hK o_c_1 rfl 3 (by decide) (hG _ mw_205) rfl dX8_closes_8 ?_
    refine lv_if_ne (tgt := 16) hx hb dX8_closes_11 (by decide) (fun c_16 => ?_) (fun c_16 => ?_)
    · have r_17 : rgI (1) (40) (G.1 5) := rg_w (rg_neL hW.1 rl_0 c_16) (by decide) (by decide)
      refine lv_aload_n hx hb dX8_closes_16 rfl (lv_at hl 0 rfl) ?_
      refine lv_iconst (v := 1) hx hb dX8_closes_17 (by decide) ?_
      refine va_callv (va_runV (As := [.int 1]) (rest := []) ⟨hx, hb, hml, hown, hts⟩ (c_X8_release l g Ty G s.heap.size h0 1 k_h0 (rg_w hW.1 (by decide) (by decide))) (cwV 1 hts (gwV mw_549 mw_551 mw_7 mw_81 mw_552) rfl rfl rfl hv_X8_release ⟨Nat.le_of_ble_eq_true rfl, Nat.le_of_ble_eq_true rfl⟩) ⟨PcT_blind, hg_recv hK o_c_1 rfl, PcT_pre hK hH⟩ rfl rfl hl.1 rfl (lv_room (Nat.le_of_ble_eq_true rfl)) dX8_closes_18 ⟨Nat.zero_le _, Nat.zero_le _⟩) hS (fun q _ h => AF.mono hS.1 h) (fun q h => AF.mono hS.1 h) (fun ux_18 t H locs ht hvm hx_18 hB hz hk hS => ?_)
      obtain ⟨eTx_18, eGx_18⟩ := hx_18
      obtain ⟨G_19, eG_19⟩ : ∃ z, z = ux_18.2 := ⟨_, rfl⟩
      rw [← eG_19] at eGx_18
      have u_20 : G_19.1 6 = (G.1 6) := (RelR.keep eGx_18 (by decide) (by decide))
      have u_21 : G_19.1 9 = (G.1 9) := (RelR.keep eGx_18 (by decide) (by decide))
      have u_22 : G_19.1 10 = (G.1 10) := (RelR.keep eGx_18 (by decide) (by decide))
      have w_23 : rgI (0) (40) (G_19.1 5) := RelR.w5 eGx_18 (rg_w hW.1 (by decide) (by decide))
      have hH : HT g Ty G_19 H := by rw [← ht, ← eTx_18, eG_19]; exact hB
      refine lv_aload_n hx hb dX8_closes_21 rfl (lv_at hl 0 rfl) ?_
      refine lv_dup hx hb dX8_closes_22 rfl ?_
      obtain ⟨_, ⟨q_25, q_33, q_34, rfl, kq_25, kq_27, kq_33, kq_34, rq_26, rq_29, t_35⟩, o_c_24⟩ := hH h0 _ k_h0
      refine hg_get hx hb hG igX8 hown hK o_c_24 rfl 3 (by decide) (hG _ mw_205) rfl dX8_closes_23 ?_
      refine lv_iconst (v := 1) hx hb dX8_closes_26 (by decide) ?_
      refine lv_isub hx hb dX8_closes_27 ?_
      refine lv_topi (fun x_36 ex_36 => ?_)
      have rx_36 : rgI (-1) (39) x_36 := by rw [ex_36]; exact rg_w (rg_sub w_23 rl_1 (by decide) (by decide)) (by decide) (by decide)
      refine hg_put (ty := .int) hx hb hG igX8 tyX8 tyX8_ok nmX8 hown hK hS o_c_24 (AF.of k_h0) rfl 3 (by decide) (hG _ mw_205) rfl (by decide +kernel) rfl rfl (Nat.le_of_ble_eq_true rfl) dX8_closes_28 (fun H locs o_c_24 hz oq hS => ?_)
      obtain ⟨G_37, eG_37⟩ : ∃ z : Gh, z = gset G_19 5 x_36 := ⟨_, rfl⟩
      have hH : HT g Ty G_37 H := by rw [eG_37]; exact HT.putN 5 x_36 hH k_h0 ⟨q_25, q_33, q_34, rfl, kq_25, kq_27, kq_33, kq_34, rq_26, rq_29, t_35⟩ o_c_24 oq (Or.inr (Or.inr (Or.inr (Or.inr (Or.inl ⟨by decide, t_35⟩)))))
      have u_38 : G_37.1 6 = (G.1 6) := by rw [eG_37]; exact (gs_ne (by decide)).trans u_20
      have u_39 : G_37.1 9 = (G.1 9) := by rw [eG_37]; exact (gs_ne (by decide)).trans u_21
      have u_40 : G_37.1 10 = (G.1 10) := by rw [eG_37]; exact (gs_ne (by decide)).trans u_22
      have u_41 : G_37.1 5 = x_36 := by rw [eG_37]; exact gs_eq
      clear oq hz
      refine lv_aload_n hx hb dX8_closes_31 rfl (lv_at hl 0 rfl) ?_
      refine lv_dup hx hb dX8_closes_32 rfl ?_
      obtain ⟨_, ⟨q_43, q_51, q_52, rfl, kq_43, kq_45, kq_51, kq_52, rq_44, rq_47, t_53⟩, o_c_42⟩ := hH h0 _ k_h0
      refine hg_get hx hb hG igX8 hown hK o_c_42 rfl 6 (by decide) (hG _ mw_208) rfl dX8_closes_33 ?_
      rw [u_38]
      refine lv_iconst (v := 1) hx hb dX8_closes_36 (by decide) ?_
      refine lv_isub hx hb dX8_closes_37 ?_
      refine lv_topi (fun x_54 ex_54 => ?_)
      have rx_54 : rgI (-1) (3) x_54 := by rw [ex_54]; exact rg_w (rg_sub hW.2.1 rl_1 (by decide) (by decide)) (by decide) (by decide)
      refine hg_put (ty := .int) hx hb hG igX8 tyX8 tyX8_ok nmX8 hown hK hS o_c_42 (AF.of k_h0) rfl 6 (by decide) (hG _ mw_208) rfl (by decide +kernel) rfl rfl (Nat.le_of_ble_eq_true rfl) dX8_closes_38 (fun H locs o_c_42 hz oq hS => ?_)
      obtain ⟨G_55, eG_55⟩ : ∃ z : Gh, z = gset G_37 6 x_54 := ⟨_, rfl⟩
      have hH : HT g Ty G_55 H := by rw [eG_55]; exact HT.putN 6 x_54 hH k_h0 ⟨q_43, q_51, q_52, rfl, kq_43, kq_45, kq_51, kq_52, rq_44, rq_47, t_53⟩ o_c_42 oq (Or.inr (Or.inr (Or.inr (Or.inr (Or.inl ⟨by decide, t_53⟩)))))
      have u_56 : G_55.1 9 = (G.1 9) := by rw [eG_55]; exact (gs_ne (by decide)).trans u_39
      have u_57 : G_55.1 10 = (G.1 10) := by rw [eG_55]; exact (gs_ne (by decide)).trans u_40
      have u_58 : G_55.1 5 = x_36 := by rw [eG_55]; exact (gs_ne (by decide)).trans u_41
      have u_59 : G_55.1 6 = x_54 := by rw [eG_55]; exact gs_eq
      clear oq hz
      refine lv_iconst (v := 1) hx hb dX8_closes_41 (by decide) ?_
      exact W.zret hx hb hr rfl (fun t ht hWm => ⟨⟨1, (Ty, G_55), rfl, ⟨rg_w rl_1 (by decide) (by decide), ⟨rfl, close_go hW c_13 eGx_18 eG_37 ex_36 eG_55 ex_54 h9⟩⟩, by show HT g Ty G_55 t.heap; rw [ht]; exact hH⟩, hS.F ht⟩) hS.2.2 dX8_closes_42
    · have r_60 : rgI (0) (0) (G.1 5) := rg_w (rg_eq rl_0 c_16) (by decide) (by decide)
      refine lv_iconst (v := 0) hx hb dX8_closes_14 (by decide) ?_
      exact W.zret hx hb hr rfl (fun t ht hWm => ⟨⟨0, (Ty, G), rfl, ⟨rg_w rl_0 (by decide) (by decide), ⟨rfl, close_no hW (Or.inr c_16)⟩⟩, by show HT g Ty G t.heap; rw [ht]; exact hH⟩, hS.F ht⟩) hS.2.2 dX8_closes_15

set_option maxHeartbeats 4000000 in
set_option maxRecDepth 100000 in
theorem c_X8_followsThing (l : Launch) (g : Gx) (Ty : TyM) (G : Gh) (sz : Nat) (h0 : Nat) (a0 : Int32) (k_h0 : Ty h0 = some (23, 0)) (hW : RW g G) (hp : (G.1 5).toInt ≤ 39) : Met l yX8_followsThing (wsG yX8_followsThing cX8_followsThing 3 (some .boolean)) ({ frames := 3, cells := 0, slots := 0, locals := 63 }) (PcT g Ty G sz [.ref h0, .int a0]) (QwI g Ty sz (fun r u => (rgI (0) (1) r) ∧ u.1 = Ty ∧ STEP g G u.2 ∧ STA g G u.2 0 r a0)) 0 0 (AF Ty sz) := by
  refine Met.ofW (cc := cX8_followsThing) (maxL := 3) (ret := (some .boolean)) (by decide) rfl ?_
  intro p e s m args below meth c s₁ B hml hv
  obtain ⟨rfl, hsz, hK, hH⟩ := hv
  subst hsz
  have hx := B.exec
  have hb := B.bytes
  have hr := B.returns
  have hts := atoms_spec (ws := (wsG yX8_followsThing cX8_followsThing 3 (some .boolean))) B.pre
  have hG : ∀ w ∈ GW, w.before ([.ref h0, .int a0] : List Value).toArray s = true := fun w h => hts w (List.mem_cons_of_mem _ h)
  have hown : s.vm.findClass RX8 = some m.cls := findClass_of_methodNamed B.named
  have hlocks := B.notSynchronized
  have hl := lv_entry [.ref h0, .int a0] (n := 3) (Nat.le_of_ble_eq_true rfl)
  rw [lg_entry_eq]
  generalize (lg_sl [.ref h0, .int a0] ++ List.replicate (3 - (lg_sl [.ref h0, .int a0]).length) Slot.unset).toArray = ls at hl ⊢
  have hl : lv_has ls 3 [(0, .ref h0), (1, .int a0)] := hl
  have hS : va_S (AF Ty s.heap.size) s.heap s.heap [] := va_S.rf
  refine lv_iload_n hx hb dX8_followsThing_0 rfl (lv_at hl 1 rfl) ?_
  refine vp_callSi (W.runS (As := [.int a0]) (rest := []) ⟨hx, hb, hml, hown, hts⟩ (c_X8_isDigit l g Ty G a0 ) (cwSx 1 hts hG (gwC mw_532) mw_81 mw_530 mw_531 rfl rfl rfl hd_X8_isDigit ⟨Nat.le_of_ble_eq_true rfl, Nat.le_of_ble_eq_true rfl⟩) ⟨PcH_blind, PcH_pre hK hH⟩ rfl rfl hl.1 rfl (lv_room (Nat.le_of_ble_eq_true rfl)) dX8_followsThing_1 ⟨Nat.zero_le _, Nat.zero_le _⟩) (fun x_1 hx_1 => ?_)
  have rx_1 : rgI (0) (1) x_1 := hx_1.1
  refine lv_if_eq (tgt := 16) hx hb dX8_followsThing_4 (by decide) (fun c_2 => ?_) (fun c_2 => ?_)
  · have r_3 : rgI (0) (0) x_1 := rg_w (rg_eq rl_0 c_2) (by decide) (by decide)
    refine lv_aload_n hx hb dX8_followsThing_16 rfl (lv_at hl 0 rfl) ?_
    refine lv_iconst (v := 0) hx hb dX8_followsThing_17 (by decide) ?_
    obtain ⟨_, ⟨q_5, q_13, q_14, rfl, kq_5, kq_7, kq_13, kq_14, rq_6, rq_9, t_15⟩, o_c_4⟩ := hH h0 _ k_h0
    refine hg_put (ty := .int) hx hb hG igX8 tyX8 tyX8_ok nmX8 hown hK hS o_c_4 (AF.of k_h0) rfl 5 (by decide) (hG _ mw_207) rfl (by decide +kernel) rfl rfl (Nat.le_of_ble_eq_true rfl) dX8_followsThing_18 (fun H locs o_c_4 hz oq hS => ?_)
    obtain ⟨G_16, eG_16⟩ : ∃ z : Gh, z = gset G 9 0 := ⟨_, rfl⟩
    have hH : HT g Ty G_16 H := by rw [eG_16]; exact HT.putN 9 0 hH k_h0 ⟨q_5, q_13, q_14, rfl, kq_5, kq_7, kq_13, kq_14, rq_6, rq_9, t_15⟩ o_c_4 oq (Or.inr (Or.inr (Or.inr (Or.inr (Or.inl ⟨by decide, t_15⟩)))))
    have u_17 : G_16.1 5 = (G.1 5) := by rw [eG_16]; exact gs_ne (by decide)
    have u_18 : G_16.1 6 = (G.1 6) := by rw [eG_16]; exact gs_ne (by decide)
    have u_19 : G_16.1 10 = (G.1 10) := by rw [eG_16]; exact gs_ne (by decide)
    have u_20 : G_16.1 9 = 0 := by rw [eG_16]; exact gs_eq
    clear oq hz
    refine lv_iload_n hx hb dX8_followsThing_21 rfl (lv_at hl 1 rfl) ?_
    refine lv_bipush (v := 41) hx hb dX8_followsThing_22 (by decide) ?_
    refine lv_icmp_ne (tgt := 32) hx hb dX8_followsThing_24 (by decide) (fun c_21 => ?_) (fun c_21 => ?_)
    · refine lv_iload_n hx hb dX8_followsThing_32 rfl (lv_at hl 1 rfl) ?_
      refine vp_callSi (W.runS (As := [.int a0]) (rest := []) ⟨hx, hb, hml, hown, hts⟩ (c_X8_rankOf_k l g Ty G_16 a0 ) (cwSx 1 hts hG (gwC mw_555) mw_81 mw_553 mw_554 rfl rfl rfl hd_X8_rankOf ⟨Nat.le_of_ble_eq_true rfl, Nat.le_of_ble_eq_true rfl⟩) ⟨PcH_blind, PcH_pre hK hH⟩ rfl rfl hl.1 rfl (lv_room (Nat.le_of_ble_eq_true rfl)) dX8_followsThing_33 ⟨Nat.zero_le _, Nat.zero_le _⟩) (fun x_22 hx_22 => ?_)
      have rx_22 : rgI (0) (4) x_22 := hx_22.1
      refine lv_istore_n (lv' := [(2, .int x_22), (0, .ref h0), (1, .int a0)]) hx hb dX8_followsThing_36 rfl hl (by decide) rfl (fun ls hl => ?_)
      refine lv_iload_n hx hb dX8_followsThing_37 rfl (lv_at hl 0 rfl) ?_
      refine lv_if_eq (tgt := 60) hx hb dX8_followsThing_38 (by decide) (fun c_23 => ?_) (fun c_23 => ?_)
      · have r_24 : rgI (0) (0) x_22 := rg_w (rg_eq rl_0 c_23) (by decide) (by decide)
        refine lv_iconst (v := 0) hx hb dX8_followsThing_60 (by decide) ?_
        exact W.zret hx hb hr rfl (fun t ht hWm => ⟨⟨0, (Ty, G_16), rfl, ⟨rg_w rl_0 (by decide) (by decide), ⟨rfl, fo_no0 hW eG_16 (dg_n hx_1.2 c_2) c_21 hx_22.2.2 c_23⟩⟩, by show HT g Ty G_16 t.heap; rw [ht]; exact hH⟩, hS.F ht⟩) hS.2.2 dX8_followsThing_61
      · have r_25 : rgI (1) (4) x_22 := rg_w (rg_neL rx_22 rl_0 c_23) (by decide) (by decide)
        refine lv_iload_n hx hb dX8_followsThing_41 rfl (lv_at hl 0 rfl) ?_
        refine lv_iconst (v := 1) hx hb dX8_followsThing_42 (by decide) ?_
        refine lv_icmp_ne (tgt := 62) hx hb dX8_followsThing_43 (by decide) (fun c_26 => ?_) (fun c_26 => ?_)
        · have r_27 : rgI (2) (4) x_22 := rg_w (rg_neL r_25 rl_1 c_26) (by decide) (by decide)
          refine lv_iload_n hx hb dX8_followsThing_62 rfl (lv_at hl 0 rfl) ?_
          refine lv_iconst (v := 1) hx hb dX8_followsThing_63 (by decide) ?_
          refine lv_icmp_ne (tgt := 82) hx hb dX8_followsThing_64 (by decide) (fun c_28 => ?_) (fun c_28 => ?_)
          · refine lv_aload_n hx hb dX8_followsThing_82 rfl (lv_at hl 1 rfl) ?_
            refine lv_iload_n hx hb dX8_followsThing_83 rfl (lv_at hl 0 rfl) ?_
            obtain ⟨_, ⟨q_30, q_38, q_39, rfl, kq_30, kq_32, kq_38, kq_39, rq_31, rq_34, t_40⟩, o_c_29⟩ := hH h0 _ k_h0
            refine va_callv (va_runV (As := [.int x_22]) (rest := []) ⟨hx, hb, hml, hown, hts⟩ (c_X8_release l g Ty G_16 H.size h0 x_22 k_h0 (by rw [u_17]; exact rg_w hW.1 (by decide) (by decide))) (cwV 1 hts (gwV mw_549 mw_551 mw_7 mw_81 mw_552) rfl rfl rfl hv_X8_release ⟨Nat.le_of_ble_eq_true rfl, Nat.le_of_ble_eq_true rfl⟩) ⟨PcT_blind, hg_recv hK o_c_29 rfl, PcT_pre hK hH⟩ rfl rfl hl.1 rfl (lv_room (Nat.le_of_ble_eq_true rfl)) dX8_followsThing_84 ⟨Nat.zero_le _, Nat.zero_le _⟩) hS (fun q _ h => AF.mono hS.1 h) (fun q h => AF.mono hS.1 h) (fun ux_41 t H locs ht hvm hx_41 hB hz hk hS => ?_)
            obtain ⟨eTx_41, eGx_41⟩ := hx_41
            obtain ⟨G_42, eG_42⟩ : ∃ z, z = ux_41.2 := ⟨_, rfl⟩
            rw [← eG_42] at eGx_41
            have u_43 : G_42.1 6 = (G.1 6) := ((RelR.keep eGx_41 (by decide) (by decide))).trans u_18
            have u_44 : G_42.1 10 = (G.1 10) := ((RelR.keep eGx_41 (by decide) (by decide))).trans u_19
            have u_45 : G_42.1 9 = 0 := ((RelR.keep eGx_41 (by decide) (by decide))).trans u_20
            have w_46 : rgI (0) (40) (G_42.1 5) := RelR.w5 eGx_41 (by rw [u_17]; exact rg_w hW.1 (by decide) (by decide))
            have hH : HT g Ty G_42 H := by rw [← ht, ← eTx_41, eG_42]; exact hB
            refine lv_aload_n hx hb dX8_followsThing_87 rfl (lv_at hl 1 rfl) ?_
            refine lv_iload_n hx hb dX8_followsThing_88 rfl (lv_at hl 2 rfl) ?_
            obtain ⟨_, ⟨q_48, q_56, q_57, rfl, kq_48, kq_50, kq_56, kq_57, rq_49, rq_52, t_58⟩, o_c_47⟩ := hH h0 _ k_h0
            refine va_callv (va_runV (As := [.int a0]) (rest := []) ⟨hx, hb, hml, hown, hts⟩ (c_X8_hold l g Ty G_42 H.size h0 a0 k_h0 (rg_w w_46 (by decide) (by decide))) (cwV 1 hts (gwV mw_435 mw_437 mw_1 mw_81 mw_438) rfl rfl rfl hv_X8_hold ⟨Nat.le_of_ble_eq_true rfl, Nat.le_of_ble_eq_true rfl⟩) ⟨PcT_blind, hg_recv hK o_c_47 rfl, PcT_pre hK hH⟩ rfl rfl hl.1 rfl (lv_room (Nat.le_of_ble_eq_true rfl)) dX8_followsThing_89 ⟨Nat.zero_le _, Nat.zero_le _⟩) hS (fun q _ h => AF.mono hS.1 h) (fun q h => AF.mono hS.1 h) (fun ux_59 t H locs ht hvm hx_59 hB hz hk hS => ?_)
            obtain ⟨eTx_59, eGx_59⟩ := hx_59
            obtain ⟨G_60, eG_60⟩ : ∃ z, z = ux_59.2 := ⟨_, rfl⟩
            rw [← eG_60] at eGx_59
            have u_61 : G_60.1 6 = (G.1 6) := ((HoldR.keep eGx_59 (by decide))).trans u_43
            have u_62 : G_60.1 10 = (G.1 10) := ((HoldR.keep eGx_59 (by decide))).trans u_44
            have u_63 : G_60.1 9 = 0 := ((HoldR.keep eGx_59 (by decide))).trans u_45
            have hH : HT g Ty G_60 H := by rw [← ht, ← eTx_59, eG_60]; exact hB
            refine lv_aload_n hx hb dX8_followsThing_92 rfl (lv_at hl 1 rfl) ?_
            refine lv_iconst (v := 1) hx hb dX8_followsThing_93 (by decide) ?_
            obtain ⟨_, ⟨q_65, q_73, q_74, rfl, kq_65, kq_67, kq_73, kq_74, rq_66, rq_69, t_75⟩, o_c_64⟩ := hH h0 _ k_h0
            refine hg_put (ty := .boolean) hx hb hG igX8 tyX8 tyX8_ok nmX8 hown hK hS o_c_64 (AF.of k_h0) rfl 4 (by decide) (hG _ mw_206) rfl (by decide +kernel) (by rfl) (by rfl) (Nat.le_of_ble_eq_true rfl) dX8_followsThing_94 (fun H locs o_c_64 hz oq hS => ?_)
            obtain ⟨G_76, eG_76⟩ : ∃ z : Gh, z = gset G_60 8 1 := ⟨_, rfl⟩
            have hH : HT g Ty G_76 H := by rw [eG_76]; exact HT.putN 8 1 hH k_h0 ⟨q_65, q_73, q_74, rfl, kq_65, kq_67, kq_73, kq_74, rq_66, (rgu (rg_w rl_1 (by decide) (by decide))), t_75⟩ o_c_64 oq (Or.inr (Or.inr (Or.inr (Or.inr (Or.inl ⟨by decide, t_75⟩)))))
            have u_77 : G_76.1 6 = (G.1 6) := by rw [eG_76]; exact (gs_ne (by decide)).trans u_61
            have u_78 : G_76.1 10 = (G.1 10) := by rw [eG_76]; exact (gs_ne (by decide)).trans u_62
            have u_79 : G_76.1 9 = 0 := by rw [eG_76]; exact (gs_ne (by decide)).trans u_63
            have u_80 : G_76.1 8 = 1 := by rw [eG_76]; exact gs_eq
            clear oq hz
            refine lv_iconst (v := 1) hx hb dX8_followsThing_97 (by decide) ?_
            exact W.zret hx hb hr rfl (fun t ht hWm => ⟨⟨1, (Ty, G_76), rfl, ⟨rg_w rl_1 (by decide) (by decide), ⟨rfl, fo_op hW hp eG_16 hx_22.2.2 c_23 c_28 eGx_41 eGx_59 eG_76⟩⟩, by show HT g Ty G_76 t.heap; rw [ht]; exact hH⟩, hS.F ht⟩) hS.2.2 dX8_followsThing_98
          · exact rg_noE r_27 rl_1 c_28 (by decide)
        · have r_81 : rgI (1) (1) x_22 := rg_w (rg_eq rl_1 c_26) (by decide) (by decide)
          refine lv_aload_n hx hb dX8_followsThing_46 rfl (lv_at hl 1 rfl) ?_
          obtain ⟨_, ⟨q_83, q_91, q_92, rfl, kq_83, kq_85, kq_91, kq_92, rq_84, rq_87, t_93⟩, o_c_82⟩ := hH h0 _ k_h0
          refine hg_get hx hb hG igX8 hown hK o_c_82 rfl 7 (by decide) (hG _ mw_209) rfl dX8_followsThing_47 ?_
          rw [u_19]
          refine lv_iconst (v := 1) hx hb dX8_followsThing_50 (by decide) ?_
          refine lv_aload_n hx hb dX8_followsThing_51 rfl (lv_at hl 1 rfl) ?_
          refine hg_get hx hb hG igX8 hown hK o_c_82 rfl 6 (by decide) (hG _ mw_208) rfl dX8_followsThing_52 ?_
          rw [u_18]
          refine lv_ishl hx hb dX8_followsThing_55 ?_
          refine lv_topi (fun x_94 ex_94 => ?_)
          refine lv_iand hx hb dX8_followsThing_56 ?_
          refine lv_topi (fun x_95 ex_95 => ?_)
          refine lv_if_eq (tgt := 62) hx hb dX8_followsThing_57 (by decide) (fun c_96 => ?_) (fun c_96 => ?_)
          · have r_97 : rgI (0) (0) x_95 := rg_w (rg_eq rl_0 c_96) (by decide) (by decide)
            refine lv_iload_n hx hb dX8_followsThing_62 rfl (lv_at hl 0 rfl) ?_
            refine lv_iconst (v := 1) hx hb dX8_followsThing_63 (by decide) ?_
            refine lv_icmp_ne (tgt := 82) hx hb dX8_followsThing_64 (by decide) (fun c_98 => ?_) (fun c_98 => ?_)
            · have r_99 : rgI (2) (1) x_22 := rg_w (rg_neL r_81 rl_1 c_98) (by decide) (by decide)
              refine lv_aload_n hx hb dX8_followsThing_82 rfl (lv_at hl 1 rfl) ?_
              refine lv_iload_n hx hb dX8_followsThing_83 rfl (lv_at hl 0 rfl) ?_
              refine va_callv (va_runV (As := [.int x_22]) (rest := []) ⟨hx, hb, hml, hown, hts⟩ (c_X8_release l g Ty G_16 H.size h0 x_22 k_h0 (by rw [u_17]; exact rg_w hW.1 (by decide) (by decide))) (cwV 1 hts (gwV mw_549 mw_551 mw_7 mw_81 mw_552) rfl rfl rfl hv_X8_release ⟨Nat.le_of_ble_eq_true rfl, Nat.le_of_ble_eq_true rfl⟩) ⟨PcT_blind, hg_recv hK o_c_82 rfl, PcT_pre hK hH⟩ rfl rfl hl.1 rfl (lv_room (Nat.le_of_ble_eq_true rfl)) dX8_followsThing_84 ⟨Nat.zero_le _, Nat.zero_le _⟩) hS (fun q _ h => AF.mono hS.1 h) (fun q h => AF.mono hS.1 h) (fun ux_100 t H locs ht hvm hx_100 hB hz hk hS => ?_)
              obtain ⟨eTx_100, eGx_100⟩ := hx_100
              obtain ⟨G_101, eG_101⟩ : ∃ z, z = ux_100.2 := ⟨_, rfl⟩
              rw [← eG_101] at eGx_100
              have u_102 : G_101.1 6 = (G.1 6) := ((RelR.keep eGx_100 (by decide) (by decide))).trans u_18
              have u_103 : G_101.1 10 = (G.1 10) := ((RelR.keep eGx_100 (by decide) (by decide))).trans u_19
              have u_104 : G_101.1 9 = 0 := ((RelR.keep eGx_100 (by decide) (by decide))).trans u_20
              have w_105 : rgI (0) (40) (G_101.1 5) := RelR.w5 eGx_100 (by rw [u_17]; exact rg_w hW.1 (by decide) (by decide))
              have hH : HT g Ty G_101 H := by rw [← ht, ← eTx_100, eG_101]; exact hB
              refine lv_aload_n hx hb dX8_followsThing_87 rfl (lv_at hl 1 rfl) ?_
              refine lv_iload_n hx hb dX8_followsThing_88 rfl (lv_at hl 2 rfl) ?_
              obtain ⟨_, ⟨q_107, q_115, q_116, rfl, kq_107, kq_109, kq_115, kq_116, rq_108, rq_111, t_117⟩, o_c_106⟩ := hH h0 _ k_h0
              refine va_callv (va_runV (As := [.int a0]) (rest := []) ⟨hx, hb, hml, hown, hts⟩ (c_X8_hold l g Ty G_101 H.size h0 a0 k_h0 (rg_w w_105 (by decide) (by decide))) (cwV 1 hts (gwV mw_435 mw_437 mw_1 mw_81 mw_438) rfl rfl rfl hv_X8_hold ⟨Nat.le_of_ble_eq_true rfl, Nat.le_of_ble_eq_true rfl⟩) ⟨PcT_blind, hg_recv hK o_c_106 rfl, PcT_pre hK hH⟩ rfl rfl hl.1 rfl (lv_room (Nat.le_of_ble_eq_true rfl)) dX8_followsThing_89 ⟨Nat.zero_le _, Nat.zero_le _⟩) hS (fun q _ h => AF.mono hS.1 h) (fun q h => AF.mono hS.1 h) (fun ux_118 t H locs ht hvm hx_118 hB hz hk hS => ?_)
              obtain ⟨eTx_118, eGx_118⟩ := hx_118
              obtain ⟨G_119, eG_119⟩ : ∃ z, z = ux_118.2 := ⟨_, rfl⟩
              rw [← eG_119] at eGx_118
              have u_120 : G_119.1 6 = (G.1 6) := ((HoldR.keep eGx_118 (by decide))).trans u_102
              have u_121 : G_119.1 10 = (G.1 10) := ((HoldR.keep eGx_118 (by decide))).trans u_103
              have u_122 : G_119.1 9 = 0 := ((HoldR.keep eGx_118 (by decide))).trans u_104
              have hH : HT g Ty G_119 H := by rw [← ht, ← eTx_118, eG_119]; exact hB
              refine lv_aload_n hx hb dX8_followsThing_92 rfl (lv_at hl 1 rfl) ?_
              refine lv_iconst (v := 1) hx hb dX8_followsThing_93 (by decide) ?_
              obtain ⟨_, ⟨q_124, q_132, q_133, rfl, kq_124, kq_126, kq_132, kq_133, rq_125, rq_128, t_134⟩, o_c_123⟩ := hH h0 _ k_h0
              refine hg_put (ty := .boolean) hx hb hG igX8 tyX8 tyX8_ok nmX8 hown hK hS o_c_123 (AF.of k_h0) rfl 4 (by decide) (hG _ mw_206) rfl (by decide +kernel) (by rfl) (by rfl) (Nat.le_of_ble_eq_true rfl) dX8_followsThing_94 (fun H locs o_c_123 hz oq hS => ?_)
              obtain ⟨G_135, eG_135⟩ : ∃ z : Gh, z = gset G_119 8 1 := ⟨_, rfl⟩
              have hH : HT g Ty G_135 H := by rw [eG_135]; exact HT.putN 8 1 hH k_h0 ⟨q_124, q_132, q_133, rfl, kq_124, kq_126, kq_132, kq_133, rq_125, (rgu (rg_w rl_1 (by decide) (by decide))), t_134⟩ o_c_123 oq (Or.inr (Or.inr (Or.inr (Or.inr (Or.inl ⟨by decide, t_134⟩)))))
              have u_136 : G_135.1 6 = (G.1 6) := by rw [eG_135]; exact (gs_ne (by decide)).trans u_120
              have u_137 : G_135.1 10 = (G.1 10) := by rw [eG_135]; exact (gs_ne (by decide)).trans u_121
              have u_138 : G_135.1 9 = 0 := by rw [eG_135]; exact (gs_ne (by decide)).trans u_122
              have u_139 : G_135.1 8 = 1 := by rw [eG_135]; exact gs_eq
              clear oq hz
              refine lv_iconst (v := 1) hx hb dX8_followsThing_97 (by decide) ?_
              exact W.zret hx hb hr rfl (fun t ht hWm => ⟨⟨1, (Ty, G_135), rfl, ⟨rg_w rl_1 (by decide) (by decide), ⟨rfl, (absurd c_26 c_98)⟩⟩, by show HT g Ty G_135 t.heap; rw [ht]; exact hH⟩, hS.F ht⟩) hS.2.2 dX8_followsThing_98
            · refine lv_aload_n hx hb dX8_followsThing_67 rfl (lv_at hl 1 rfl) ?_
              refine lv_dup hx hb dX8_followsThing_68 rfl ?_
              refine hg_get hx hb hG igX8 hown hK o_c_82 rfl 7 (by decide) (hG _ mw_209) rfl dX8_followsThing_69 ?_
              rw [u_19]
              refine lv_iconst (v := 1) hx hb dX8_followsThing_72 (by decide) ?_
              refine lv_aload_n hx hb dX8_followsThing_73 rfl (lv_at hl 1 rfl) ?_
              refine hg_get hx hb hG igX8 hown hK o_c_82 rfl 6 (by decide) (hG _ mw_208) rfl dX8_followsThing_74 ?_
              rw [u_18]
              refine lv_ishl hx hb dX8_followsThing_77 ?_
              refine lv_topi (fun x_140 ex_140 => ?_)
              refine lv_ior hx hb dX8_followsThing_78 ?_
              refine lv_topi (fun x_141 ex_141 => ?_)
              refine hg_put (ty := .int) hx hb hG igX8 tyX8 tyX8_ok nmX8 hown hK hS o_c_82 (AF.of k_h0) rfl 7 (by decide) (hG _ mw_209) rfl (by decide +kernel) rfl rfl (Nat.le_of_ble_eq_true rfl) dX8_followsThing_79 (fun H locs o_c_82 hz oq hS => ?_)
              obtain ⟨G_142, eG_142⟩ : ∃ z : Gh, z = gset G_16 10 x_141 := ⟨_, rfl⟩
              have hH : HT g Ty G_142 H := by rw [eG_142]; exact HT.putN 10 x_141 hH k_h0 ⟨q_83, q_91, q_92, rfl, kq_83, kq_85, kq_91, kq_92, rq_84, rq_87, t_93⟩ o_c_82 oq (Or.inr (Or.inr (Or.inr (Or.inr (Or.inl ⟨by decide, t_93⟩)))))
              have u_143 : G_142.1 5 = (G.1 5) := by rw [eG_142]; exact (gs_ne (by decide)).trans u_17
              have u_144 : G_142.1 6 = (G.1 6) := by rw [eG_142]; exact (gs_ne (by decide)).trans u_18
              have u_145 : G_142.1 9 = 0 := by rw [eG_142]; exact (gs_ne (by decide)).trans u_20
              have u_146 : G_142.1 10 = x_141 := by rw [eG_142]; exact gs_eq
              clear oq hz
              refine lv_aload_n hx hb dX8_followsThing_82 rfl (lv_at hl 1 rfl) ?_
              refine lv_iload_n hx hb dX8_followsThing_83 rfl (lv_at hl 0 rfl) ?_
              obtain ⟨_, ⟨q_148, q_156, q_157, rfl, kq_148, kq_150, kq_156, kq_157, rq_149, rq_152, t_158⟩, o_c_147⟩ := hH h0 _ k_h0
              refine va_callv (va_runV (As := [.int x_22]) (rest := []) ⟨hx, hb, hml, hown, hts⟩ (c_X8_release l g Ty G_142 H.size h0 x_22 k_h0 (by rw [u_143]; exact rg_w hW.1 (by decide) (by decide))) (cwV 1 hts (gwV mw_549 mw_551 mw_7 mw_81 mw_552) rfl rfl rfl hv_X8_release ⟨Nat.le_of_ble_eq_true rfl, Nat.le_of_ble_eq_true rfl⟩) ⟨PcT_blind, hg_recv hK o_c_147 rfl, PcT_pre hK hH⟩ rfl rfl hl.1 rfl (lv_room (Nat.le_of_ble_eq_true rfl)) dX8_followsThing_84 ⟨Nat.zero_le _, Nat.zero_le _⟩) hS (fun q _ h => AF.mono hS.1 h) (fun q h => AF.mono hS.1 h) (fun ux_159 t H locs ht hvm hx_159 hB hz hk hS => ?_)
              obtain ⟨eTx_159, eGx_159⟩ := hx_159
              obtain ⟨G_160, eG_160⟩ : ∃ z, z = ux_159.2 := ⟨_, rfl⟩
              rw [← eG_160] at eGx_159
              have u_161 : G_160.1 6 = (G.1 6) := ((RelR.keep eGx_159 (by decide) (by decide))).trans u_144
              have u_162 : G_160.1 9 = 0 := ((RelR.keep eGx_159 (by decide) (by decide))).trans u_145
              have u_163 : G_160.1 10 = x_141 := ((RelR.keep eGx_159 (by decide) (by decide))).trans u_146
              have w_164 : rgI (0) (40) (G_160.1 5) := RelR.w5 eGx_159 (by rw [u_143]; exact rg_w hW.1 (by decide) (by decide))
              have hH : HT g Ty G_160 H := by rw [← ht, ← eTx_159, eG_160]; exact hB
              refine lv_aload_n hx hb dX8_followsThing_87 rfl (lv_at hl 1 rfl) ?_
              refine lv_iload_n hx hb dX8_followsThing_88 rfl (lv_at hl 2 rfl) ?_
              obtain ⟨_, ⟨q_166, q_174, q_175, rfl, kq_166, kq_168, kq_174, kq_175, rq_167, rq_170, t_176⟩, o_c_165⟩ := hH h0 _ k_h0
              refine va_callv (va_runV (As := [.int a0]) (rest := []) ⟨hx, hb, hml, hown, hts⟩ (c_X8_hold l g Ty G_160 H.size h0 a0 k_h0 (rg_w w_164 (by decide) (by decide))) (cwV 1 hts (gwV mw_435 mw_437 mw_1 mw_81 mw_438) rfl rfl rfl hv_X8_hold ⟨Nat.le_of_ble_eq_true rfl, Nat.le_of_ble_eq_true rfl⟩) ⟨PcT_blind, hg_recv hK o_c_165 rfl, PcT_pre hK hH⟩ rfl rfl hl.1 rfl (lv_room (Nat.le_of_ble_eq_true rfl)) dX8_followsThing_89 ⟨Nat.zero_le _, Nat.zero_le _⟩) hS (fun q _ h => AF.mono hS.1 h) (fun q h => AF.mono hS.1 h) (fun ux_177 t H locs ht hvm hx_177 hB hz hk hS => ?_)
              obtain ⟨eTx_177, eGx_177⟩ := hx_177
              obtain ⟨G_178, eG_178⟩ : ∃ z, z = ux_177.2 := ⟨_, rfl⟩
              rw [← eG_178] at eGx_177
              have u_179 : G_178.1 6 = (G.1 6) := ((HoldR.keep eGx_177 (by decide))).trans u_161
              have u_180 : G_178.1 9 = 0 := ((HoldR.keep eGx_177 (by decide))).trans u_162
              have u_181 : G_178.1 10 = x_141 := ((HoldR.keep eGx_177 (by decide))).trans u_163
              have hH : HT g Ty G_178 H := by rw [← ht, ← eTx_177, eG_178]; exact hB
              refine lv_aload_n hx hb dX8_followsThing_92 rfl (lv_at hl 1 rfl) ?_
              refine lv_iconst (v := 1) hx hb dX8_followsThing_93 (by decide) ?_
              obtain ⟨_, ⟨q_183, q_191, q_192, rfl, kq_183, kq_185, kq_191, kq_192, rq_184, rq_187, t_193⟩, o_c_182⟩ := hH h0 _ k_h0
              refine hg_put (ty := .boolean) hx hb hG igX8 tyX8 tyX8_ok nmX8 hown hK hS o_c_182 (AF.of k_h0) rfl 4 (by decide) (hG _ mw_206) rfl (by decide +kernel) (by rfl) (by rfl) (Nat.le_of_ble_eq_true rfl) dX8_followsThing_94 (fun H locs o_c_182 hz oq hS => ?_)
              obtain ⟨G_194, eG_194⟩ : ∃ z : Gh, z = gset G_178 8 1 := ⟨_, rfl⟩
              have hH : HT g Ty G_194 H := by rw [eG_194]; exact HT.putN 8 1 hH k_h0 ⟨q_183, q_191, q_192, rfl, kq_183, kq_185, kq_191, kq_192, rq_184, (rgu (rg_w rl_1 (by decide) (by decide))), t_193⟩ o_c_182 oq (Or.inr (Or.inr (Or.inr (Or.inr (Or.inl ⟨by decide, t_193⟩)))))
              have u_195 : G_194.1 6 = (G.1 6) := by rw [eG_194]; exact (gs_ne (by decide)).trans u_179
              have u_196 : G_194.1 9 = 0 := by rw [eG_194]; exact (gs_ne (by decide)).trans u_180
              have u_197 : G_194.1 10 = x_141 := by rw [eG_194]; exact (gs_ne (by decide)).trans u_181
              have u_198 : G_194.1 8 = 1 := by rw [eG_194]; exact gs_eq
              clear oq hz
              refine lv_iconst (v := 1) hx hb dX8_followsThing_97 (by decide) ?_
              exact W.zret hx hb hr rfl (fun t ht hWm => ⟨⟨1, (Ty, G_194), rfl, ⟨rg_w rl_1 (by decide) (by decide), ⟨rfl, fo_cmp hW hp eG_16 hx_22.2.2 c_98 ex_94 ex_95 c_96 ex_140 ex_141 eG_142 eGx_159 eGx_177 eG_194⟩⟩, by show HT g Ty G_194 t.heap; rw [ht]; exact hH⟩, hS.F ht⟩) hS.2.2 dX8_followsThing_98
          · refine lv_iconst (v := 0) hx hb dX8_followsThing_60 (by decide) ?_
            exact W.zret hx hb hr rfl (fun t ht hWm => ⟨⟨0, (Ty, G_16), rfl, ⟨rg_w rl_0 (by decide) (by decide), ⟨rfl, fo_no1 hW eG_16 hx_22.2.2 c_26 ex_94 ex_95 c_96⟩⟩, by show HT g Ty G_16 t.heap; rw [ht]; exact hH⟩, hS.F ht⟩) hS.2.2 dX8_followsThing_61
    · have r_199 : rgI (41) (41) a0 := rg_w (rg_eq rl_41 c_21) (by decide) (by decide)
      refine lv_aload_n hx hb dX8_followsThing_27 rfl (lv_at hl 0 rfl) ?_
      obtain ⟨_, ⟨q_201, q_209, q_210, rfl, kq_201, kq_203, kq_209, kq_210, rq_202, rq_205, t_211⟩, o_c_200⟩ := hH h0 _ k_h0
      refine va_calli (va_runV (As := []) (rest := []) ⟨hx, hb, hml, hown, hts⟩ (c_X8_closes l g Ty G_16 H.size h0 k_h0 (RW.n hW eG_16 (by decide) (by decide)) (by rw [eG_16, gs_ne (by decide)]; exact hp) (by rw [eG_16]; exact gs_eq)) (cwV 0 hts (gwV mw_545 mw_547 mw_6 mw_81 mw_548) rfl rfl rfl hv_X8_closes ⟨Nat.le_of_ble_eq_true rfl, Nat.le_of_ble_eq_true rfl⟩) ⟨PcT_blind, hg_recv hK o_c_200 rfl, PcT_pre hK hH⟩ rfl rfl hl.1 rfl (lv_room (Nat.le_of_ble_eq_true rfl)) dX8_followsThing_28 ⟨Nat.zero_le _, Nat.zero_le _⟩) hS (fun q _ h => AF.mono hS.1 h) (fun q h => AF.mono hS.1 h) (fun x_212 ux_212 t H locs ht hvm hx_212 hB hz hk hS => ?_)
      obtain ⟨hx_212, fx_212⟩ := hx_212
      obtain ⟨eTx_212, eGx_212⟩ := fx_212
      obtain ⟨G_213, eG_213⟩ : ∃ z, z = ux_212.2 := ⟨_, rfl⟩
      rw [← eG_213] at eGx_212
      have hH : HT g Ty G_213 H := by rw [← ht, ← eTx_212, eG_213]; exact hB
      have rx_212 : rgI (0) (1) x_212 := hx_212
      exact W.zret hx hb hr (nz01 rx_212) (fun t ht hWm => ⟨⟨x_212, (Ty, G_213), rfl, ⟨rg_w rx_212 (by decide) (by decide), ⟨rfl, fo_close eG_16 eGx_212 c_21⟩⟩, by show HT g Ty G_213 t.heap; rw [ht]; exact hH⟩, hS.F ht⟩) hS.2.2 dX8_followsThing_31
  · have r_214 : rgI (1) (1) x_1 := rg_w (rg_neL rx_1 rl_0 c_2) (by decide) (by decide)
    refine lv_aload_n hx hb dX8_followsThing_7 rfl (lv_at hl 0 rfl) ?_
    refine lv_iload_n hx hb dX8_followsThing_8 rfl (lv_at hl 1 rfl) ?_
    refine lv_bipush (v := 48) hx hb dX8_followsThing_9 (by decide) ?_
    refine lv_isub hx hb dX8_followsThing_11 ?_
    refine lv_topi (fun x_215 ex_215 => ?_)
    obtain ⟨_, ⟨q_217, q_225, q_226, rfl, kq_217, kq_219, kq_225, kq_226, rq_218, rq_221, t_227⟩, o_c_216⟩ := hH h0 _ k_h0
    refine va_calli (va_runV (As := [.int x_215]) (rest := []) ⟨hx, hb, hml, hown, hts⟩ (c_X8_addsDigit l g Ty G s.heap.size h0 x_215 k_h0) (cwV 1 hts (gwV mw_541 mw_543 mw_5 mw_81 mw_544) rfl rfl rfl hv_X8_addsDigit ⟨Nat.le_of_ble_eq_true rfl, Nat.le_of_ble_eq_true rfl⟩) ⟨PcT_blind, hg_recv hK o_c_216 rfl, PcT_pre hK hH⟩ rfl rfl hl.1 rfl (lv_room (Nat.le_of_ble_eq_true rfl)) dX8_followsThing_12 ⟨Nat.zero_le _, Nat.zero_le _⟩) hS (fun q _ h => AF.mono hS.1 h) (fun q h => AF.mono hS.1 h) (fun x_228 ux_228 t H locs ht hvm hx_228 hB hz hk hS => ?_)
    obtain ⟨hx_228, fx_228⟩ := hx_228
    obtain ⟨eTx_228, eGx_228⟩ := fx_228
    obtain ⟨G_229, eG_229⟩ : ∃ z, z = ux_228.2 := ⟨_, rfl⟩
    rw [← eG_229] at eGx_228
    have hH : HT g Ty G_229 H := by rw [← ht, ← eTx_228, eG_229]; exact hB
    have rx_228 : rgI (0) (1) x_228 := hx_228
    exact W.zret hx hb hr (nz01 rx_228) (fun t ht hWm => ⟨⟨x_228, (Ty, G_229), rfl, ⟨rg_w rx_228 (by decide) (by decide), ⟨rfl, fo_dig hW (dg_y hx_1.2 c_2) eGx_228⟩⟩, by show HT g Ty G_229 t.heap; rw [ht]; exact hH⟩, hS.F ht⟩) hS.2.2 dX8_followsThing_15
