set_option maxHeartbeats 4000000 in
set_option maxRecDepth 100000 in
theorem c_X10_newGroup_o (l : Launch) (g : Gx) (Ty : TyM) (G : Gh) (sz : Nat) (h0 : Nat) (k_h0 : Ty h0 = some (20, 0)) : Met l yX10_newGroup (wsG yX10_newGroup cX10_newGroup 1 (some .int)) ({ frames := 0, cells := 0, slots := 0, locals := 0 }) (PcT g Ty G sz [.ref h0]) (QwI g Ty sz (fun r u => u = (Ty, G))) 0 0 (AF Ty sz) := by
  refine Met.ofW (cc := cX10_newGroup) (maxL := 1) (ret := (some .int)) (by decide) rfl ?_
  intro p e s m args below meth c s₁ B hml hv
  obtain ⟨rfl, hsz, hK, hH⟩ := hv
  subst hsz
  have hx := B.exec
  have hb := B.bytes
  have hr := B.returns
  have hts := atoms_spec (ws := (wsG yX10_newGroup cX10_newGroup 1 (some .int))) B.pre
  have hG : ∀ w ∈ GW, w.before ([.ref h0] : List Value).toArray s = true := fun w h => hts w (List.mem_cons_of_mem _ h)
  have hown : s.vm.findClass RX10 = some m.cls := findClass_of_methodNamed B.named
  have hlocks := B.notSynchronized
  have hl := lv_entry [.ref h0] (n := 1) (Nat.le_of_ble_eq_true rfl)
  rw [lg_entry_eq]
  generalize (lg_sl [.ref h0] ++ List.replicate (1 - (lg_sl [.ref h0]).length) Slot.unset).toArray = ls at hl ⊢
  have hl : lv_has ls 1 [(0, .ref h0)] := hl
  have hS : va_S (AF Ty s.heap.size) s.heap s.heap [] := va_S.rf
  refine lv_aload_n hx hb dX10_newGroup_0 rfl (lv_at hl 0 rfl) ?_
  refine lv_dup hx hb dX10_newGroup_1 rfl ?_
  obtain ⟨_, ⟨q_2, q_3, q_4, q_5, q_6, q_7, q_8, rfl, kq_2, kq_3, kq_4⟩, o_c_1⟩ := hH h0 _ k_h0
  refine hg_get hx hb hG igX10 hown hK o_c_1 rfl 6 (by decide) (hG _ mw_128) rfl dX10_newGroup_2 ?_
  refine lv_iconst (v := 1) hx hb dX10_newGroup_5 (by decide) ?_
  refine lv_iadd hx hb dX10_newGroup_6 ?_
  refine lv_topi (fun x_9 ex_9 => ?_)
  refine hg_put (ty := .int) hx hb hG igX10 tyX10 tyX10_ok nmX10 hown hK hS o_c_1 (AF.of k_h0) rfl 6 (by decide) (hG _ mw_128) rfl (by decide +kernel) rfl rfl (Nat.le_of_ble_eq_true rfl) dX10_newGroup_7 (fun H locs o_c_1 hz oq hS => ?_)
  have o_c_1 : va_at g.1 vwCl (h0, .inr (10, [.ref q_2, .ref q_3, .ref q_4, .int q_5, .int q_6, .int q_7, .int x_9])) H := o_c_1
  have hH : HT g Ty G H := hH.put k_h0 ⟨q_2, q_3, q_4, q_5, q_6, q_7, x_9, rfl, kq_2, kq_3, kq_4⟩ o_c_1 oq
  clear oq hz
  refine lv_aload_n hx hb dX10_newGroup_10 rfl (lv_at hl 0 rfl) ?_
  refine hg_get hx hb hG igX10 hown hK o_c_1 rfl 6 (by decide) (hG _ mw_128) rfl dX10_newGroup_11 ?_
  refine lv_iconst (v := 1) hx hb dX10_newGroup_14 (by decide) ?_
  refine lv_isub hx hb dX10_newGroup_15 ?_
  refine lv_topi (fun x_10 ex_10 => ?_)
  exact W.iret hx hb hr (fun t ht hWm => ⟨⟨x_10, (Ty, G), rfl, rfl, by show HT g Ty G t.heap; rw [ht]; exact hH⟩, hS.F ht⟩) hS.2.2 dX10_newGroup_16

set_option maxHeartbeats 4000000 in
set_option maxRecDepth 100000 in
theorem c_X10_put_o (l : Launch) (g : Gx) (Ty : TyM) (G : Gh) (sz : Nat) (h0 : Nat) (a0 : Int32) (a1 : Int32) (a2 : Int32) (a3 : Int32) (k_h0 : Ty h0 = some (20, 0)) : Met l yX10_put (wsG yX10_put cX10_put 6 (some .int)) ({ frames := 1, cells := 0, slots := 0, locals := 22 }) (PcT g Ty G sz [.ref h0, .int a0, .int a1, .int a2, .int a3]) (QwI g Ty sz (fun r u => (rgI (0) (24) r) ∧ u = (Ty, G))) 0 0 (AF Ty sz) := by
  refine Met.ofW (cc := cX10_put) (maxL := 6) (ret := (some .int)) (by decide) rfl ?_
  intro p e s m args below meth c s₁ B hml hv
  obtain ⟨rfl, hsz, hK, hH⟩ := hv
  subst hsz
  have hx := B.exec
  have hb := B.bytes
  have hr := B.returns
  have hts := atoms_spec (ws := (wsG yX10_put cX10_put 6 (some .int))) B.pre
  have hG : ∀ w ∈ GW, w.before ([.ref h0, .int a0, .int a1, .int a2, .int a3] : List Value).toArray s = true := fun w h => hts w (List.mem_cons_of_mem _ h)
  have hown : s.vm.findClass RX10 = some m.cls := findClass_of_methodNamed B.named
  have hlocks := B.notSynchronized
  have hl := lv_entry [.ref h0, .int a0, .int a1, .int a2, .int a3] (n := 6) (Nat.le_of_ble_eq_true rfl)
  rw [lg_entry_eq]
  generalize (lg_sl [.ref h0, .int a0, .int a1, .int a2, .int a3] ++ List.replicate (6 - (lg_sl [.ref h0, .int a0, .int a1, .int a2, .int a3]).length) Slot.unset).toArray = ls at hl ⊢
  have hl : lv_has ls 6 [(0, .ref h0), (1, .int a0), (2, .int a1), (3, .int a2), (4, .int a3)] := hl
  have hS : va_S (AF Ty s.heap.size) s.heap s.heap [] := va_S.rf
  have L_61 : ∀ (H : Heap) (locs : List Loc) (y5_61 : Int32) (ls : Array Slot), rgI (0) (24) y5_61 → lv_has ls 6 [(5, .int y5_61)] → HT g Ty G H → va_S (AF Ty s.heap.size) s.heap H locs → Wm p l e (wsG yX10_put cX10_put 6 (some .int)) ({ frames := 1, cells := 0, slots := 0, locals := 22 }) s m [.ref h0, .int a0, .int a1, .int a2, .int a3] below meth c H locs (0) (0) (QwI g Ty s.heap.size (fun r u => (rgI (0) (24) r) ∧ u = (Ty, G))) 0 0 (AF Ty s.heap.size) (F0 m 61 ls []) := by
    intro H locs y5_61 ls ry5_61 hl hH hS
    refine lv_iload hx hb dX10_put_61 (lv_at hl 0 rfl) ?_
    exact W.iret hx hb hr (fun t ht hWm => ⟨⟨y5_61, (Ty, G), rfl, ⟨rg_w ry5_61 (by decide) (by decide), rfl⟩, by show HT g Ty G t.heap; rw [ht]; exact hH⟩, hS.F ht⟩) hS.2.2 dX10_put_63
  refine lv_aload_n hx hb dX10_put_0 rfl (lv_at hl 0 rfl) ?_
  refine lv_aload_n hx hb dX10_put_1 rfl (lv_at hl 0 rfl) ?_
  obtain ⟨_, ⟨q_2, q_3, q_4, q_5, q_6, q_7, q_8, rfl, kq_2, kq_3, kq_4⟩, o_c_1⟩ := hH h0 _ k_h0
  refine hg_get hx hb hG igX10 hown hK o_c_1 rfl 3 (by decide) (hG _ mw_118) rfl dX10_put_2 ?_
  refine lv_iconst (v := (-1)) hx hb dX10_put_5 (by decide) ?_
  refine lv_ixor hx hb dX10_put_6 ?_
  refine lv_topi (fun x_9 ex_9 => ?_)
  refine vp_callSi (W.runV (As := [.int x_9]) (rest := []) ⟨hx, hb, hml, hown, hts⟩ (c_X10_leastOf_o l g Ty G h0 x_9 k_h0) (cwV 1 hts (gwV mw_653 mw_654 mw_655 mw_77 mw_656) rfl rfl rfl hv_X10_leastOf ⟨Nat.le_of_ble_eq_true rfl, Nat.le_of_ble_eq_true rfl⟩) ⟨PcH_blind, hg_recv hK o_c_1 rfl, PcH_pre hK hH⟩ rfl rfl hl.1 rfl (lv_room (Nat.le_of_ble_eq_true rfl)) dX10_put_7 ⟨Nat.zero_le _, Nat.zero_le _⟩) (fun x_10 hx_10 => ?_)
  have rx_10 : rgI (0) (24) x_10 := hx_10
  refine lv_istore (lv' := [(5, .int x_10), (0, .ref h0), (1, .int a0), (2, .int a1), (3, .int a2), (4, .int a3)]) hx hb dX10_put_10 hl (by decide) rfl (fun ls hl => ?_)
  refine lv_iload hx hb dX10_put_12 (lv_at hl 0 rfl) ?_
  refine lv_bipush (v := 24) hx hb dX10_put_14 (by decide) ?_
  refine lv_icmp_ge (tgt := 61) hx hb dX10_put_16 (by decide) (fun c_11 => ?_) (fun c_11 => ?_)
  · have r_12 : rgI (24) (24) x_10 := rg_w (rg_leR rl_24 rx_10 c_11) (by decide) (by decide)
    exact L_61 s.heap [] x_10 ls (rg_w r_12 (by decide) (by decide)) (lv_sub hl [0] rfl) hH hS
  · have r_13 : rgI (0) (23) x_10 := rg_w (rg_ltL rx_10 rl_24 (nle_lt c_11)) (by decide) (by decide)
    refine lv_aload_n hx hb dX10_put_19 rfl (lv_at hl 1 rfl) ?_
    refine lv_dup hx hb dX10_put_20 rfl ?_
    refine hg_get hx hb hG igX10 hown hK o_c_1 rfl 3 (by decide) (hG _ mw_118) rfl dX10_put_21 ?_
    refine lv_iconst (v := 1) hx hb dX10_put_24 (by decide) ?_
    refine lv_iload hx hb dX10_put_25 (lv_at hl 0 rfl) ?_
    refine lv_ishl hx hb dX10_put_27 ?_
    refine lv_topi (fun x_14 ex_14 => ?_)
    refine lv_ior hx hb dX10_put_28 ?_
    refine lv_topi (fun x_15 ex_15 => ?_)
    refine hg_put (ty := .int) hx hb hG igX10 tyX10 tyX10_ok nmX10 hown hK hS o_c_1 (AF.of k_h0) rfl 3 (by decide) (hG _ mw_118) rfl (by decide +kernel) rfl rfl (Nat.le_of_ble_eq_true rfl) dX10_put_29 (fun H locs o_c_1 hz oq hS => ?_)
    have o_c_1 : va_at g.1 vwCl (h0, .inr (10, [.ref q_2, .ref q_3, .ref q_4, .int x_15, .int q_6, .int q_7, .int q_8])) H := o_c_1
    have hH : HT g Ty G H := hH.put k_h0 ⟨q_2, q_3, q_4, x_15, q_6, q_7, q_8, rfl, kq_2, kq_3, kq_4⟩ o_c_1 oq
    clear oq hz
    refine lv_aload_n hx hb dX10_put_32 rfl (lv_at hl 1 rfl) ?_
    refine hg_get hx hb hG igX10 hown hK o_c_1 rfl 0 (by decide) (hG _ mw_115) rfl dX10_put_33 ?_
    refine lv_iload hx hb dX10_put_36 (lv_at hl 0 rfl) ?_
    refine lv_iconst (v := 4) hx hb dX10_put_38 (by decide) ?_
    refine lv_iload_n hx hb dX10_put_39 rfl (lv_at hl 2 rfl) ?_
    refine lv_imul hx hb dX10_put_40 ?_
    refine lv_topi (fun x_16 ex_16 => ?_)
    refine lv_iload_n hx hb dX10_put_41 rfl (lv_at hl 3 rfl) ?_
    refine lv_iadd hx hb dX10_put_42 ?_
    refine lv_topi (fun x_17 ex_17 => ?_)
    obtain ⟨_, ⟨f_19, rfl⟩, o_c_18⟩ := hH q_2 _ kq_2
    refine hg_iast hx hb hK hS o_c_18 (AF.of kq_2) (rg_in (n := 24) r_13 (by decide) (by decide)) dX10_put_43 (fun H locs o_c_18 hz oq hS => ?_)
    generalize hff_20 : upd f_19 _ x_17 = f_20 at o_c_18
    have hH : HT g Ty G H := hH.put kq_2 ⟨_, rfl⟩ o_c_18 oq
    have o_c_1 := o_c_1.kept (oq _ (ne_kd k_h0 kq_2 (by decide)))
    clear oq hz
    refine lv_aload_n hx hb dX10_put_44 rfl (lv_at hl 1 rfl) ?_
    refine hg_get hx hb hG igX10 hown hK o_c_1 rfl 1 (by decide) (hG _ mw_116) rfl dX10_put_45 ?_
    refine lv_iload hx hb dX10_put_48 (lv_at hl 0 rfl) ?_
    refine lv_iload_n hx hb dX10_put_50 rfl (lv_at hl 4 rfl) ?_
    obtain ⟨_, ⟨f_22, rfl⟩, o_c_21⟩ := hH q_3 _ kq_3
    refine hg_iast hx hb hK hS o_c_21 (AF.of kq_3) (rg_in (n := 24) r_13 (by decide) (by decide)) dX10_put_51 (fun H locs o_c_21 hz oq hS => ?_)
    generalize hff_23 : upd f_22 _ a2 = f_23 at o_c_21
    have hH : HT g Ty G H := hH.put kq_3 ⟨_, rfl⟩ o_c_21 oq
    have o_c_1 := o_c_1.kept (oq _ (ne_kd k_h0 kq_3 (by decide)))
    clear oq hz
    refine lv_aload_n hx hb dX10_put_52 rfl (lv_at hl 1 rfl) ?_
    refine hg_get hx hb hG igX10 hown hK o_c_1 rfl 2 (by decide) (hG _ mw_117) rfl dX10_put_53 ?_
    refine lv_iload hx hb dX10_put_56 (lv_at hl 0 rfl) ?_
    refine lv_iload hx hb dX10_put_58 (lv_at hl 5 rfl) ?_
    obtain ⟨_, ⟨f_25, rfl⟩, o_c_24⟩ := hH q_4 _ kq_4
    refine hg_iast hx hb hK hS o_c_24 (AF.of kq_4) (rg_in (n := 24) r_13 (by decide) (by decide)) dX10_put_60 (fun H locs o_c_24 hz oq hS => ?_)
    generalize hff_26 : upd f_25 _ a3 = f_26 at o_c_24
    have hH : HT g Ty G H := hH.put kq_4 ⟨_, rfl⟩ o_c_24 oq
    have o_c_1 := o_c_1.kept (oq _ (ne_kd k_h0 kq_4 (by decide)))
    clear oq hz
    exact L_61 H locs x_10 ls (rg_w r_13 (by decide) (by decide)) (lv_sub hl [0] rfl) hH hS

set_option maxHeartbeats 4000000 in
set_option maxRecDepth 100000 in
theorem c_X10_carry_o (l : Launch) (g : Gx) (Ty : TyM) (G : Gh) (sz : Nat) (h0 : Nat) (a0 : Int32) (a1 : Int32) (a2 : Int32) (k_h0 : Ty h0 = some (20, 0)) : Met l yX10_carry (wsG yX10_carry cX10_carry 4 none) ({ frames := 1, cells := 0, slots := 0, locals := 21 }) (PcT g Ty G sz [.ref h0, .int a0, .int a1, .int a2]) (QwV g Ty sz (fun u => u = (Ty, G))) 0 0 (AF Ty sz) := by
  refine Met.ofW (cc := cX10_carry) (maxL := 4) (ret := none) (by decide) rfl ?_
  intro p e s m args below meth c s₁ B hml hv
  obtain ⟨rfl, hsz, hK, hH⟩ := hv
  subst hsz
  have hx := B.exec
  have hb := B.bytes
  have hr := B.returns
  have hts := atoms_spec (ws := (wsG yX10_carry cX10_carry 4 none)) B.pre
  have hG : ∀ w ∈ GW, w.before ([.ref h0, .int a0, .int a1, .int a2] : List Value).toArray s = true := fun w h => hts w (List.mem_cons_of_mem _ h)
  have hown : s.vm.findClass RX10 = some m.cls := findClass_of_methodNamed B.named
  have hlocks := B.notSynchronized
  have hl := lv_entry [.ref h0, .int a0, .int a1, .int a2] (n := 4) (Nat.le_of_ble_eq_true rfl)
  rw [lg_entry_eq]
  generalize (lg_sl [.ref h0, .int a0, .int a1, .int a2] ++ List.replicate (4 - (lg_sl [.ref h0, .int a0, .int a1, .int a2]).length) Slot.unset).toArray = ls at hl ⊢
  have hl : lv_has ls 4 [(0, .ref h0), (1, .int a0), (2, .int a1), (3, .int a2)] := hl
  have hS : va_S (AF Ty s.heap.size) s.heap s.heap [] := va_S.rf
  refine lv_aload_n hx hb dX10_carry_0 rfl (lv_at hl 0 rfl) ?_
  refine lv_iload_n hx hb dX10_carry_1 rfl (lv_at hl 1 rfl) ?_
  obtain ⟨_, ⟨q_2, q_3, q_4, q_5, q_6, q_7, q_8, rfl, kq_2, kq_3, kq_4⟩, o_c_1⟩ := hH h0 _ k_h0
  refine vp_callSi (W.runV (As := [.int a0]) (rest := []) ⟨hx, hb, hml, hown, hts⟩ (c_X10_has_o l g Ty G h0 a0 k_h0) (cwV 1 hts (gwV mw_644 mw_604 mw_605 mw_77 mw_606) rfl rfl rfl hv_X10_has ⟨Nat.le_of_ble_eq_true rfl, Nat.le_of_ble_eq_true rfl⟩) ⟨PcH_blind, hg_recv hK o_c_1 rfl, PcH_pre hK hH⟩ rfl rfl hl.1 rfl (lv_room (Nat.le_of_ble_eq_true rfl)) dX10_carry_2 ⟨Nat.zero_le _, Nat.zero_le _⟩) (fun x_9 hx_9 => ?_)
  have rx_9 : rgI (0) (1) x_9 := hx_9.1
  refine lv_if_eq (tgt := 19) hx hb dX10_carry_5 (by decide) (fun c_10 => ?_) (fun c_10 => ?_)
  · have r_11 : rgI (0) (0) x_9 := rg_w (rg_eq rl_0 c_10) (by decide) (by decide)
    exact W.vret hx hb hr (fun t ht hWm => ⟨⟨(Ty, G), rfl, rfl, by show HT g Ty G t.heap; rw [ht]; exact hH⟩, hS.F ht⟩) hS.2.2 dX10_carry_19
  · have r_12 : rgI (1) (1) x_9 := rg_w (rg_neL rx_9 rl_0 c_10) (by decide) (by decide)
    have r_13 : rgI (0) (23) a0 := rg_w (hx_9.2.resolve_left c_10) (by decide) (by decide)
    refine lv_aload_n hx hb dX10_carry_8 rfl (lv_at hl 0 rfl) ?_
    refine hg_get hx hb hG igX10 hown hK o_c_1 rfl 0 (by decide) (hG _ mw_115) rfl dX10_carry_9 ?_
    refine lv_iload_n hx hb dX10_carry_12 rfl (lv_at hl 1 rfl) ?_
    refine lv_iconst (v := 4) hx hb dX10_carry_13 (by decide) ?_
    refine lv_iload_n hx hb dX10_carry_14 rfl (lv_at hl 2 rfl) ?_
    refine lv_imul hx hb dX10_carry_15 ?_
    refine lv_topi (fun x_14 ex_14 => ?_)
    refine lv_iload_n hx hb dX10_carry_16 rfl (lv_at hl 3 rfl) ?_
    refine lv_iadd hx hb dX10_carry_17 ?_
    refine lv_topi (fun x_15 ex_15 => ?_)
    obtain ⟨_, ⟨f_17, rfl⟩, o_c_16⟩ := hH q_2 _ kq_2
    refine hg_iast hx hb hK hS o_c_16 (AF.of kq_2) (rg_in (n := 24) r_13 (by decide) (by decide)) dX10_carry_18 (fun H locs o_c_16 hz oq hS => ?_)
    generalize hff_18 : upd f_17 _ x_15 = f_18 at o_c_16
    have hH : HT g Ty G H := hH.put kq_2 ⟨_, rfl⟩ o_c_16 oq
    have o_c_1 := o_c_1.kept (oq _ (ne_kd k_h0 kq_2 (by decide)))
    clear oq hz
    exact W.vret hx hb hr (fun t ht hWm => ⟨⟨(Ty, G), rfl, rfl, by show HT g Ty G t.heap; rw [ht]; exact hH⟩, hS.F ht⟩) hS.2.2 dX10_carry_19

set_option maxHeartbeats 4000000 in
set_option maxRecDepth 100000 in
theorem c_X10_leaveGroup_o (l : Launch) (g : Gx) (Ty : TyM) (G : Gh) (sz : Nat) (h0 : Nat) (a0 : Int32) (k_h0 : Ty h0 = some (20, 0)) : Met l yX10_leaveGroup (wsG yX10_leaveGroup cX10_leaveGroup 4 none) ({ frames := 2, cells := 0, slots := 0, locals := 44 }) (PcT g Ty G sz [.ref h0, .int a0]) (QwV g Ty sz (fun u => u = (Ty, G))) 0 0 (AF Ty sz) := by
  refine Met.ofW (cc := cX10_leaveGroup) (maxL := 4) (ret := none) (by decide) rfl ?_
  intro p e s m args below meth c s₁ B hml hv
  obtain ⟨rfl, hsz, hK, hH⟩ := hv
  subst hsz
  have hx := B.exec
  have hb := B.bytes
  have hr := B.returns
  have hts := atoms_spec (ws := (wsG yX10_leaveGroup cX10_leaveGroup 4 none)) B.pre
  have hG : ∀ w ∈ GW, w.before ([.ref h0, .int a0] : List Value).toArray s = true := fun w h => hts w (List.mem_cons_of_mem _ h)
  have hown : s.vm.findClass RX10 = some m.cls := findClass_of_methodNamed B.named
  have hlocks := B.notSynchronized
  have hl := lv_entry [.ref h0, .int a0] (n := 4) (Nat.le_of_ble_eq_true rfl)
  rw [lg_entry_eq]
  generalize (lg_sl [.ref h0, .int a0] ++ List.replicate (4 - (lg_sl [.ref h0, .int a0]).length) Slot.unset).toArray = ls at hl ⊢
  have hl : lv_has ls 4 [(0, .ref h0), (1, .int a0)] := hl
  have hS : va_S (AF Ty s.heap.size) s.heap s.heap [] := va_S.rf
  have L_42 : ∀ (n : Nat) (H : Heap) (locs : List Loc) (y2_42 : Int32) (y3_42 : Int32) (ls : Array Slot), rgI (0) (23) a0 → rgI (0) (24) y3_42 → (24 - (y3_42).toInt).toNat < n → lv_has ls 4 [(0, .ref h0), (1, .int a0), (2, .int y2_42), (3, .int y3_42)] → HT g Ty G H → va_S (AF Ty s.heap.size) s.heap H locs → Wm p l e (wsG yX10_leaveGroup cX10_leaveGroup 4 none) ({ frames := 2, cells := 0, slots := 0, locals := 44 }) s m [.ref h0, .int a0] below meth c H locs (0) (0) (QwV g Ty s.heap.size (fun u => u = (Ty, G))) 0 0 (AF Ty s.heap.size) (F0 m 42 ls []) := by
    intro n
    induction n with
    | zero => intro H locs y2_42 y3_42 ls ry1_42 ry3_42 hm; exact absurd hm (Nat.not_lt_zero _)
    | succ n ih_42 =>
      intro H locs y2_42 y3_42 ls ry1_42 ry3_42 hm_42 hl hH hS
      have L_70 : ∀ (H : Heap) (locs : List Loc) (ls : Array Slot), rgI (0) (23) a0 → rgI (0) (23) y3_42 → lv_has ls 4 [(0, .ref h0), (1, .int a0), (2, .int y2_42), (3, .int y3_42)] → HT g Ty G H → va_S (AF Ty s.heap.size) s.heap H locs → Wm p l e (wsG yX10_leaveGroup cX10_leaveGroup 4 none) ({ frames := 2, cells := 0, slots := 0, locals := 44 }) s m [.ref h0, .int a0] below meth c H locs (0) (0) (QwV g Ty s.heap.size (fun u => u = (Ty, G))) 0 0 (AF Ty s.heap.size) (F0 m 70 ls []) := by
        intro H locs ls ry1_70 ry3_70 hl hH hS
        obtain ⟨x_1, ex_1⟩ : ∃ y : Int32, y = y3_42 + 1 := ⟨_, rfl⟩
        have rx_1 : rgI (1) (24) x_1 := by rw [ex_1]; exact rg_w (rg_add ry3_70 rl_1 (by decide) (by decide)) (by decide) (by decide)
        have qx_1 : x_1.toInt = (y3_42 : Int32).toInt + 1 := by rw [ex_1]; exact rg_addE ry3_70 rl_1 (by decide) (by decide)
        refine lv_iinc (v := x_1) (lv' := [(3, .int x_1), (0, .ref h0), (1, .int a0), (2, .int y2_42)]) hx hb dX10_leaveGroup_70 hl (k := 3) rfl (by rw [ex_1]; rfl) (by decide) rfl (fun ls hl => ?_)
        refine lv_goto (tgt := 42) hx hb dX10_leaveGroup_73 (by decide) ?_
        exact ih_42 H locs y2_42 x_1 ls ry1_70 (rg_w rx_1 (by decide) (by decide)) (by have h1 := qx_1; have h2 := ry3_70.1; have h3 := ry3_70.2; have h4 := hm_42; omega) (lv_sub hl [1, 2, 3, 0] rfl) hH hS
      refine lv_iload_n hx hb dX10_leaveGroup_42 rfl (lv_at hl 3 rfl) ?_
      refine lv_bipush (v := 24) hx hb dX10_leaveGroup_43 (by decide) ?_
      refine lv_icmp_ge (tgt := 76) hx hb dX10_leaveGroup_45 (by decide) (fun c_2 => ?_) (fun c_2 => ?_)
      · have r_3 : rgI (24) (24) y3_42 := rg_w (rg_leR rl_24 ry3_42 c_2) (by decide) (by decide)
        exact W.vret hx hb hr (fun t ht hWm => ⟨⟨(Ty, G), rfl, rfl, by show HT g Ty G t.heap; rw [ht]; exact hH⟩, hS.F ht⟩) hS.2.2 dX10_leaveGroup_76
      · have r_4 : rgI (0) (23) y3_42 := rg_w (rg_ltL ry3_42 rl_24 (nle_lt c_2)) (by decide) (by decide)
        refine lv_aload_n hx hb dX10_leaveGroup_48 rfl (lv_at hl 0 rfl) ?_
        obtain ⟨_, ⟨q_6, q_7, q_8, q_9, q_10, q_11, q_12, rfl, kq_6, kq_7, kq_8⟩, o_c_5⟩ := hH h0 _ k_h0
        refine hg_get hx hb hG igX10 hown hK o_c_5 rfl 2 (by decide) (hG _ mw_117) rfl dX10_leaveGroup_49 ?_
        refine lv_iload_n hx hb dX10_leaveGroup_52 rfl (lv_at hl 3 rfl) ?_
        obtain ⟨_, ⟨f_14, rfl⟩, o_c_13⟩ := hH q_8 _ kq_8
        refine hg_iald hx hb hK o_c_13 (rg_in (n := 24) r_4 (by decide) (by decide)) dX10_leaveGroup_53 ?_
        refine lv_topi (fun x_15 ex_15 => ?_)
        refine lv_iload_n hx hb dX10_leaveGroup_54 rfl (lv_at hl 2 rfl) ?_
        refine lv_icmp_ne (tgt := 70) hx hb dX10_leaveGroup_55 (by decide) (fun c_16 => ?_) (fun c_16 => ?_)
        · exact L_70 H locs ls ry1_42 r_4 (lv_sub hl [0, 1, 2, 3] rfl) hH hS
        · refine lv_aload_n hx hb dX10_leaveGroup_58 rfl (lv_at hl 0 rfl) ?_
          refine hg_get hx hb hG igX10 hown hK o_c_5 rfl 2 (by decide) (hG _ mw_117) rfl dX10_leaveGroup_59 ?_
          refine lv_iload_n hx hb dX10_leaveGroup_62 rfl (lv_at hl 3 rfl) ?_
          refine lv_aload_n hx hb dX10_leaveGroup_63 rfl (lv_at hl 0 rfl) ?_
          refine hg_get hx hb hG igX10 hown hK o_c_5 rfl 2 (by decide) (hG _ mw_117) rfl dX10_leaveGroup_64 ?_
          refine lv_iload_n hx hb dX10_leaveGroup_67 rfl (lv_at hl 1 rfl) ?_
          refine hg_iald hx hb hK o_c_13 (rg_in (n := 24) ry1_42 (by decide) (by decide)) dX10_leaveGroup_68 ?_
          refine lv_topi (fun x_17 ex_17 => ?_)
          refine hg_iast hx hb hK hS o_c_13 (AF.of kq_8) (rg_in (n := 24) r_4 (by decide) (by decide)) dX10_leaveGroup_69 (fun H locs o_c_13 hz oq hS => ?_)
          generalize hff_18 : upd f_14 _ x_17 = f_18 at o_c_13
          have hH : HT g Ty G H := hH.put kq_8 ⟨_, rfl⟩ o_c_13 oq
          have o_c_5 := o_c_5.kept (oq _ (ne_kd k_h0 kq_8 (by decide)))
          clear oq hz
          exact L_70 H locs ls ry1_42 r_4 (lv_sub hl [0, 1, 2, 3] rfl) hH hS
  refine lv_aload_n hx hb dX10_leaveGroup_0 rfl (lv_at hl 0 rfl) ?_
  refine lv_iload_n hx hb dX10_leaveGroup_1 rfl (lv_at hl 1 rfl) ?_
  obtain ⟨_, ⟨q_20, q_21, q_22, q_23, q_24, q_25, q_26, rfl, kq_20, kq_21, kq_22⟩, o_c_19⟩ := hH h0 _ k_h0
  refine vp_callSi (W.runV (As := [.int a0]) (rest := []) ⟨hx, hb, hml, hown, hts⟩ (c_X10_has_o l g Ty G h0 a0 k_h0) (cwV 1 hts (gwV mw_644 mw_604 mw_605 mw_77 mw_606) rfl rfl rfl hv_X10_has ⟨Nat.le_of_ble_eq_true rfl, Nat.le_of_ble_eq_true rfl⟩) ⟨PcH_blind, hg_recv hK o_c_19 rfl, PcH_pre hK hH⟩ rfl rfl hl.1 rfl (lv_room (Nat.le_of_ble_eq_true rfl)) dX10_leaveGroup_2 ⟨Nat.zero_le _, Nat.zero_le _⟩) (fun x_27 hx_27 => ?_)
  have rx_27 : rgI (0) (1) x_27 := hx_27.1
  refine lv_if_eq (tgt := 17) hx hb dX10_leaveGroup_5 (by decide) (fun c_28 => ?_) (fun c_28 => ?_)
  · have r_29 : rgI (0) (0) x_27 := rg_w (rg_eq rl_0 c_28) (by decide) (by decide)
    exact W.vret hx hb hr (fun t ht hWm => ⟨⟨(Ty, G), rfl, rfl, by show HT g Ty G t.heap; rw [ht]; exact hH⟩, hS.F ht⟩) hS.2.2 dX10_leaveGroup_17
  · have r_30 : rgI (1) (1) x_27 := rg_w (rg_neL rx_27 rl_0 c_28) (by decide) (by decide)
    have r_31 : rgI (0) (23) a0 := rg_w (hx_27.2.resolve_left c_28) (by decide) (by decide)
    refine lv_aload_n hx hb dX10_leaveGroup_8 rfl (lv_at hl 0 rfl) ?_
    refine hg_get hx hb hG igX10 hown hK o_c_19 rfl 1 (by decide) (hG _ mw_116) rfl dX10_leaveGroup_9 ?_
    refine lv_iload_n hx hb dX10_leaveGroup_12 rfl (lv_at hl 1 rfl) ?_
    obtain ⟨_, ⟨f_33, rfl⟩, o_c_32⟩ := hH q_21 _ kq_21
    refine hg_iald hx hb hK o_c_32 (rg_in (n := 24) r_31 (by decide) (by decide)) dX10_leaveGroup_13 ?_
    refine lv_topi (fun x_34 ex_34 => ?_)
    refine lv_if_ne (tgt := 18) hx hb dX10_leaveGroup_14 (by decide) (fun c_35 => ?_) (fun c_35 => ?_)
    · refine lv_aload_n hx hb dX10_leaveGroup_18 rfl (lv_at hl 0 rfl) ?_
      refine hg_get hx hb hG igX10 hown hK o_c_19 rfl 1 (by decide) (hG _ mw_116) rfl dX10_leaveGroup_19 ?_
      refine lv_iload_n hx hb dX10_leaveGroup_22 rfl (lv_at hl 1 rfl) ?_
      refine hg_iald hx hb hK o_c_32 (rg_in (n := 24) r_31 (by decide) (by decide)) dX10_leaveGroup_23 ?_
      refine lv_topi (fun x_36 ex_36 => ?_)
      refine lv_istore_n (lv' := [(2, .int x_36), (0, .ref h0), (1, .int a0)]) hx hb dX10_leaveGroup_24 rfl hl (by decide) rfl (fun ls hl => ?_)
      refine lv_aload_n hx hb dX10_leaveGroup_25 rfl (lv_at hl 1 rfl) ?_
      refine hg_get hx hb hG igX10 hown hK o_c_19 rfl 1 (by decide) (hG _ mw_116) rfl dX10_leaveGroup_26 ?_
      refine lv_iload_n hx hb dX10_leaveGroup_29 rfl (lv_at hl 2 rfl) ?_
      refine lv_iconst (v := 0) hx hb dX10_leaveGroup_30 (by decide) ?_
      refine hg_iast hx hb hK hS o_c_32 (AF.of kq_21) (rg_in (n := 24) r_31 (by decide) (by decide)) dX10_leaveGroup_31 (fun H locs o_c_32 hz oq hS => ?_)
      generalize hff_37 : upd f_33 _ 0 = f_37 at o_c_32
      have hH : HT g Ty G H := hH.put kq_21 ⟨_, rfl⟩ o_c_32 oq
      have o_c_19 := o_c_19.kept (oq _ (ne_kd k_h0 kq_21 (by decide)))
      clear oq hz
      refine lv_aload_n hx hb dX10_leaveGroup_32 rfl (lv_at hl 1 rfl) ?_
      refine lv_iload_n hx hb dX10_leaveGroup_33 rfl (lv_at hl 0 rfl) ?_
      refine vp_callSi (W.runV (As := [.int x_36]) (rest := []) ⟨hx, hb, hml, hown, hts⟩ (c_X10_withGroup_o l g Ty G h0 x_36 k_h0) (cwV 1 hts (gwV mw_658 mw_659 mw_660 mw_77 mw_661) rfl rfl rfl hv_X10_withGroup ⟨Nat.le_of_ble_eq_true rfl, Nat.le_of_ble_eq_true rfl⟩) ⟨PcH_blind, hg_recv hK o_c_19 rfl, PcH_pre hK hH⟩ rfl rfl hl.1 rfl (lv_room (Nat.le_of_ble_eq_true rfl)) dX10_leaveGroup_34 ⟨Nat.zero_le _, Nat.zero_le _⟩) (fun x_38 hx_38 => ?_)
      refine lv_if_ne (tgt := 76) hx hb dX10_leaveGroup_37 (by decide) (fun c_39 => ?_) (fun c_39 => ?_)
      · exact W.vret hx hb hr (fun t ht hWm => ⟨⟨(Ty, G), rfl, rfl, by show HT g Ty G t.heap; rw [ht]; exact hH⟩, hS.F ht⟩) hS.2.2 dX10_leaveGroup_76
      · have r_40 : rgI (0) (0) x_38 := rg_w (rg_eq rl_0 c_39) (by decide) (by decide)
        refine lv_iconst (v := 0) hx hb dX10_leaveGroup_40 (by decide) ?_
        refine lv_istore_n (lv' := [(3, .int 0), (2, .int x_36), (0, .ref h0), (1, .int a0)]) hx hb dX10_leaveGroup_41 rfl hl (by decide) rfl (fun ls hl => ?_)
        exact L_42 _ H locs x_36 0 ls r_31 (rg_w rl_0 (by decide) (by decide)) (Nat.lt_succ_self _) (lv_sub hl [2, 3, 1, 0] rfl) hH hS
    · have r_41 : rgI (0) (0) x_34 := rg_w (rg_eq rl_0 c_35) (by decide) (by decide)
      exact W.vret hx hb hr (fun t ht hWm => ⟨⟨(Ty, G), rfl, rfl, by show HT g Ty G t.heap; rw [ht]; exact hH⟩, hS.F ht⟩) hS.2.2 dX10_leaveGroup_17

set_option maxHeartbeats 4000000 in
set_option maxRecDepth 100000 in
theorem c_X10_remove_o (l : Launch) (g : Gx) (Ty : TyM) (G : Gh) (sz : Nat) (h0 : Nat) (a0 : Int32) (k_h0 : Ty h0 = some (20, 0)) : Met l yX10_remove (wsG yX10_remove cX10_remove 2 none) ({ frames := 3, cells := 0, slots := 0, locals := 67 }) (PcT g Ty G sz [.ref h0, .int a0]) (QwV g Ty sz (fun u => u = (Ty, G))) 0 0 (AF Ty sz) := by
  refine Met.ofW (cc := cX10_remove) (maxL := 2) (ret := none) (by decide) rfl ?_
  intro p e s m args below meth c s₁ B hml hv
  obtain ⟨rfl, hsz, hK, hH⟩ := hv
  subst hsz
  have hx := B.exec
  have hb := B.bytes
  have hr := B.returns
  have hts := atoms_spec (ws := (wsG yX10_remove cX10_remove 2 none)) B.pre
  have hG : ∀ w ∈ GW, w.before ([.ref h0, .int a0] : List Value).toArray s = true := fun w h => hts w (List.mem_cons_of_mem _ h)
  have hown : s.vm.findClass RX10 = some m.cls := findClass_of_methodNamed B.named
  have hlocks := B.notSynchronized
  have hl := lv_entry [.ref h0, .int a0] (n := 2) (Nat.le_of_ble_eq_true rfl)
  rw [lg_entry_eq]
  generalize (lg_sl [.ref h0, .int a0] ++ List.replicate (2 - (lg_sl [.ref h0, .int a0]).length) Slot.unset).toArray = ls at hl ⊢
  have hl : lv_has ls 2 [(0, .ref h0), (1, .int a0)] := hl
  have hS : va_S (AF Ty s.heap.size) s.heap s.heap [] := va_S.rf
  refine lv_aload_n hx hb dX10_remove_0 rfl (lv_at hl 0 rfl) ?_
  refine lv_iload_n hx hb dX10_remove_1 rfl (lv_at hl 1 rfl) ?_
  obtain ⟨_, ⟨q_2, q_3, q_4, q_5, q_6, q_7, q_8, rfl, kq_2, kq_3, kq_4⟩, o_c_1⟩ := hH h0 _ k_h0
  refine vp_callSi (W.runV (As := [.int a0]) (rest := []) ⟨hx, hb, hml, hown, hts⟩ (c_X10_has_o l g Ty G h0 a0 k_h0) (cwV 1 hts (gwV mw_644 mw_604 mw_605 mw_77 mw_606) rfl rfl rfl hv_X10_has ⟨Nat.le_of_ble_eq_true rfl, Nat.le_of_ble_eq_true rfl⟩) ⟨PcH_blind, hg_recv hK o_c_1 rfl, PcH_pre hK hH⟩ rfl rfl hl.1 rfl (lv_room (Nat.le_of_ble_eq_true rfl)) dX10_remove_2 ⟨Nat.zero_le _, Nat.zero_le _⟩) (fun x_9 hx_9 => ?_)
  have rx_9 : rgI (0) (1) x_9 := hx_9.1
  refine lv_if_eq (tgt := 55) hx hb dX10_remove_5 (by decide) (fun c_10 => ?_) (fun c_10 => ?_)
  · have r_11 : rgI (0) (0) x_9 := rg_w (rg_eq rl_0 c_10) (by decide) (by decide)
    exact W.vret hx hb hr (fun t ht hWm => ⟨⟨(Ty, G), rfl, rfl, by show HT g Ty G t.heap; rw [ht]; exact hH⟩, hS.F ht⟩) hS.2.2 dX10_remove_55
  · have r_12 : rgI (1) (1) x_9 := rg_w (rg_neL rx_9 rl_0 c_10) (by decide) (by decide)
    have r_13 : rgI (0) (23) a0 := rg_w (hx_9.2.resolve_left c_10) (by decide) (by decide)
    refine lv_aload_n hx hb dX10_remove_8 rfl (lv_at hl 0 rfl) ?_
    refine lv_iload_n hx hb dX10_remove_9 rfl (lv_at hl 1 rfl) ?_
    refine va_callv (va_runV (As := [.int a0]) (rest := []) ⟨hx, hb, hml, hown, hts⟩ (c_X10_leaveGroup_o l g Ty G s.heap.size h0 a0 k_h0) (cwV 1 hts (gwV mw_801 mw_802 mw_803 mw_77 mw_804) rfl rfl rfl hv_X10_leaveGroup ⟨Nat.le_of_ble_eq_true rfl, Nat.le_of_ble_eq_true rfl⟩) ⟨PcT_blind, hg_recv hK o_c_1 rfl, PcT_pre hK hH⟩ rfl rfl hl.1 rfl (lv_room (Nat.le_of_ble_eq_true rfl)) dX10_remove_10 ⟨Nat.zero_le _, Nat.zero_le _⟩) hS (fun q _ h => AF.mono hS.1 h) (fun q h => AF.mono hS.1 h) (fun ux_14 t H locs ht hvm hx_14 hB hz hk hS => ?_)
    have hH : HT g Ty G H := by rw [← ht]; rw [hx_14] at hB; exact hB
    refine lv_aload_n hx hb dX10_remove_13 rfl (lv_at hl 0 rfl) ?_
    refine lv_dup hx hb dX10_remove_14 rfl ?_
    obtain ⟨_, ⟨q_16, q_17, q_18, q_19, q_20, q_21, q_22, rfl, kq_16, kq_17, kq_18⟩, o_c_15⟩ := hH h0 _ k_h0
    refine hg_get hx hb hG igX10 hown hK o_c_15 rfl 3 (by decide) (hG _ mw_118) rfl dX10_remove_15 ?_
    refine lv_iconst (v := 1) hx hb dX10_remove_18 (by decide) ?_
    refine lv_iload_n hx hb dX10_remove_19 rfl (lv_at hl 1 rfl) ?_
    refine lv_ishl hx hb dX10_remove_20 ?_
    refine lv_topi (fun x_23 ex_23 => ?_)
    refine lv_iconst (v := (-1)) hx hb dX10_remove_21 (by decide) ?_
    refine lv_ixor hx hb dX10_remove_22 ?_
    refine lv_topi (fun x_24 ex_24 => ?_)
    refine lv_iand hx hb dX10_remove_23 ?_
    refine lv_topi (fun x_25 ex_25 => ?_)
    refine hg_put (ty := .int) hx hb hG igX10 tyX10 tyX10_ok nmX10 hown hK hS o_c_15 (AF.of k_h0) rfl 3 (by decide) (hG _ mw_118) rfl (by decide +kernel) rfl rfl (Nat.le_of_ble_eq_true rfl) dX10_remove_24 (fun H locs o_c_15 hz oq hS => ?_)
    have o_c_15 : va_at g.1 vwCl (h0, .inr (10, [.ref q_16, .ref q_17, .ref q_18, .int x_25, .int q_20, .int q_21, .int q_22])) H := o_c_15
    have hH : HT g Ty G H := hH.put k_h0 ⟨q_16, q_17, q_18, x_25, q_20, q_21, q_22, rfl, kq_16, kq_17, kq_18⟩ o_c_15 oq
    clear oq hz
    refine lv_aload_n hx hb dX10_remove_27 rfl (lv_at hl 0 rfl) ?_
    refine lv_dup hx hb dX10_remove_28 rfl ?_
    refine hg_get hx hb hG igX10 hown hK o_c_15 rfl 4 (by decide) (hG _ mw_122) rfl dX10_remove_29 ?_
    refine lv_iconst (v := 1) hx hb dX10_remove_32 (by decide) ?_
    refine lv_iload_n hx hb dX10_remove_33 rfl (lv_at hl 1 rfl) ?_
    refine lv_ishl hx hb dX10_remove_34 ?_
    refine lv_topi (fun x_26 ex_26 => ?_)
    refine lv_iconst (v := (-1)) hx hb dX10_remove_35 (by decide) ?_
    refine lv_ixor hx hb dX10_remove_36 ?_
    refine lv_topi (fun x_27 ex_27 => ?_)
    refine lv_iand hx hb dX10_remove_37 ?_
    refine lv_topi (fun x_28 ex_28 => ?_)
    refine hg_put (ty := .int) hx hb hG igX10 tyX10 tyX10_ok nmX10 hown hK hS o_c_15 (AF.of k_h0) rfl 4 (by decide) (hG _ mw_122) rfl (by decide +kernel) rfl rfl (Nat.le_of_ble_eq_true rfl) dX10_remove_38 (fun H locs o_c_15 hz oq hS => ?_)
    have o_c_15 : va_at g.1 vwCl (h0, .inr (10, [.ref q_16, .ref q_17, .ref q_18, .int x_25, .int x_28, .int q_21, .int q_22])) H := o_c_15
    have hH : HT g Ty G H := hH.put k_h0 ⟨q_16, q_17, q_18, x_25, x_28, q_21, q_22, rfl, kq_16, kq_17, kq_18⟩ o_c_15 oq
    clear oq hz
    refine lv_aload_n hx hb dX10_remove_41 rfl (lv_at hl 0 rfl) ?_
    refine hg_get hx hb hG igX10 hown hK o_c_15 rfl 0 (by decide) (hG _ mw_115) rfl dX10_remove_42 ?_
    refine lv_iload_n hx hb dX10_remove_45 rfl (lv_at hl 1 rfl) ?_
    refine lv_iconst (v := (-1)) hx hb dX10_remove_46 (by decide) ?_
    obtain ⟨_, ⟨f_30, rfl⟩, o_c_29⟩ := hH q_16 _ kq_16
    refine hg_iast hx hb hK hS o_c_29 (AF.of kq_16) (rg_in (n := 24) r_13 (by decide) (by decide)) dX10_remove_47 (fun H locs o_c_29 hz oq hS => ?_)
    generalize hff_31 : upd f_30 _ (-1) = f_31 at o_c_29
    have hH : HT g Ty G H := hH.put kq_16 ⟨_, rfl⟩ o_c_29 oq
    have o_c_15 := o_c_15.kept (oq _ (ne_kd k_h0 kq_16 (by decide)))
    clear oq hz
    refine lv_aload_n hx hb dX10_remove_48 rfl (lv_at hl 0 rfl) ?_
    refine hg_get hx hb hG igX10 hown hK o_c_15 rfl 2 (by decide) (hG _ mw_117) rfl dX10_remove_49 ?_
    refine lv_iload_n hx hb dX10_remove_52 rfl (lv_at hl 1 rfl) ?_
    refine lv_iconst (v := 0) hx hb dX10_remove_53 (by decide) ?_
    obtain ⟨_, ⟨f_33, rfl⟩, o_c_32⟩ := hH q_18 _ kq_18
    refine hg_iast hx hb hK hS o_c_32 (AF.of kq_18) (rg_in (n := 24) r_13 (by decide) (by decide)) dX10_remove_54 (fun H locs o_c_32 hz oq hS => ?_)
    generalize hff_34 : upd f_33 _ 0 = f_34 at o_c_32
    have hH : HT g Ty G H := hH.put kq_18 ⟨_, rfl⟩ o_c_32 oq
    have o_c_15 := o_c_15.kept (oq _ (ne_kd k_h0 kq_18 (by decide)))
    clear oq hz
    exact W.vret hx hb hr (fun t ht hWm => ⟨⟨(Ty, G), rfl, rfl, by show HT g Ty G t.heap; rw [ht]; exact hH⟩, hS.F ht⟩) hS.2.2 dX10_remove_55

set_option maxHeartbeats 4000000 in
set_option maxRecDepth 100000 in
theorem c_X10_makePrivate_o (l : Launch) (g : Gx) (Ty : TyM) (G : Gh) (sz : Nat) (h0 : Nat) (a0 : Int32) (k_h0 : Ty h0 = some (20, 0)) : Met l yX10_makePrivate (wsG yX10_makePrivate cX10_makePrivate 2 none) ({ frames := 3, cells := 0, slots := 0, locals := 67 }) (PcT g Ty G sz [.ref h0, .int a0]) (QwV g Ty sz (fun u => u = (Ty, G))) 0 0 (AF Ty sz) := by
  refine Met.ofW (cc := cX10_makePrivate) (maxL := 2) (ret := none) (by decide) rfl ?_
  intro p e s m args below meth c s₁ B hml hv
  obtain ⟨rfl, hsz, hK, hH⟩ := hv
  subst hsz
  have hx := B.exec
  have hb := B.bytes
  have hr := B.returns
  have hts := atoms_spec (ws := (wsG yX10_makePrivate cX10_makePrivate 2 none)) B.pre
  have hG : ∀ w ∈ GW, w.before ([.ref h0, .int a0] : List Value).toArray s = true := fun w h => hts w (List.mem_cons_of_mem _ h)
  have hown : s.vm.findClass RX10 = some m.cls := findClass_of_methodNamed B.named
  have hlocks := B.notSynchronized
  have hl := lv_entry [.ref h0, .int a0] (n := 2) (Nat.le_of_ble_eq_true rfl)
  rw [lg_entry_eq]
  generalize (lg_sl [.ref h0, .int a0] ++ List.replicate (2 - (lg_sl [.ref h0, .int a0]).length) Slot.unset).toArray = ls at hl ⊢
  have hl : lv_has ls 2 [(0, .ref h0), (1, .int a0)] := hl
  have hS : va_S (AF Ty s.heap.size) s.heap s.heap [] := va_S.rf
  refine lv_aload_n hx hb dX10_makePrivate_0 rfl (lv_at hl 0 rfl) ?_
  refine lv_iload_n hx hb dX10_makePrivate_1 rfl (lv_at hl 1 rfl) ?_
  obtain ⟨_, ⟨q_2, q_3, q_4, q_5, q_6, q_7, q_8, rfl, kq_2, kq_3, kq_4⟩, o_c_1⟩ := hH h0 _ k_h0
  refine vp_callSi (W.runV (As := [.int a0]) (rest := []) ⟨hx, hb, hml, hown, hts⟩ (c_X10_has_o l g Ty G h0 a0 k_h0) (cwV 1 hts (gwV mw_644 mw_604 mw_605 mw_77 mw_606) rfl rfl rfl hv_X10_has ⟨Nat.le_of_ble_eq_true rfl, Nat.le_of_ble_eq_true rfl⟩) ⟨PcH_blind, hg_recv hK o_c_1 rfl, PcH_pre hK hH⟩ rfl rfl hl.1 rfl (lv_room (Nat.le_of_ble_eq_true rfl)) dX10_makePrivate_2 ⟨Nat.zero_le _, Nat.zero_le _⟩) (fun x_9 hx_9 => ?_)
  have rx_9 : rgI (0) (1) x_9 := hx_9.1
  refine lv_if_eq (tgt := 34) hx hb dX10_makePrivate_5 (by decide) (fun c_10 => ?_) (fun c_10 => ?_)
  · have r_11 : rgI (0) (0) x_9 := rg_w (rg_eq rl_0 c_10) (by decide) (by decide)
    exact W.vret hx hb hr (fun t ht hWm => ⟨⟨(Ty, G), rfl, rfl, by show HT g Ty G t.heap; rw [ht]; exact hH⟩, hS.F ht⟩) hS.2.2 dX10_makePrivate_34
  · have r_12 : rgI (1) (1) x_9 := rg_w (rg_neL rx_9 rl_0 c_10) (by decide) (by decide)
    have r_13 : rgI (0) (23) a0 := rg_w (hx_9.2.resolve_left c_10) (by decide) (by decide)
    refine lv_aload_n hx hb dX10_makePrivate_8 rfl (lv_at hl 0 rfl) ?_
    refine lv_iload_n hx hb dX10_makePrivate_9 rfl (lv_at hl 1 rfl) ?_
    refine va_callv (va_runV (As := [.int a0]) (rest := []) ⟨hx, hb, hml, hown, hts⟩ (c_X10_leaveGroup_o l g Ty G s.heap.size h0 a0 k_h0) (cwV 1 hts (gwV mw_801 mw_802 mw_803 mw_77 mw_804) rfl rfl rfl hv_X10_leaveGroup ⟨Nat.le_of_ble_eq_true rfl, Nat.le_of_ble_eq_true rfl⟩) ⟨PcT_blind, hg_recv hK o_c_1 rfl, PcT_pre hK hH⟩ rfl rfl hl.1 rfl (lv_room (Nat.le_of_ble_eq_true rfl)) dX10_makePrivate_10 ⟨Nat.zero_le _, Nat.zero_le _⟩) hS (fun q _ h => AF.mono hS.1 h) (fun q h => AF.mono hS.1 h) (fun ux_14 t H locs ht hvm hx_14 hB hz hk hS => ?_)
    have hH : HT g Ty G H := by rw [← ht]; rw [hx_14] at hB; exact hB
    refine lv_aload_n hx hb dX10_makePrivate_13 rfl (lv_at hl 0 rfl) ?_
    obtain ⟨_, ⟨q_16, q_17, q_18, q_19, q_20, q_21, q_22, rfl, kq_16, kq_17, kq_18⟩, o_c_15⟩ := hH h0 _ k_h0
    refine hg_get hx hb hG igX10 hown hK o_c_15 rfl 2 (by decide) (hG _ mw_117) rfl dX10_makePrivate_14 ?_
    refine lv_iload_n hx hb dX10_makePrivate_17 rfl (lv_at hl 1 rfl) ?_
    refine lv_iconst (v := 0) hx hb dX10_makePrivate_18 (by decide) ?_
    obtain ⟨_, ⟨f_24, rfl⟩, o_c_23⟩ := hH q_18 _ kq_18
    refine hg_iast hx hb hK hS o_c_23 (AF.of kq_18) (rg_in (n := 24) r_13 (by decide) (by decide)) dX10_makePrivate_19 (fun H locs o_c_23 hz oq hS => ?_)
    generalize hff_25 : upd f_24 _ 0 = f_25 at o_c_23
    have hH : HT g Ty G H := hH.put kq_18 ⟨_, rfl⟩ o_c_23 oq
    have o_c_15 := o_c_15.kept (oq _ (ne_kd k_h0 kq_18 (by decide)))
    clear oq hz
    refine lv_aload_n hx hb dX10_makePrivate_20 rfl (lv_at hl 0 rfl) ?_
    refine lv_dup hx hb dX10_makePrivate_21 rfl ?_
    refine hg_get hx hb hG igX10 hown hK o_c_15 rfl 4 (by decide) (hG _ mw_122) rfl dX10_makePrivate_22 ?_
    refine lv_iconst (v := 1) hx hb dX10_makePrivate_25 (by decide) ?_
    refine lv_iload_n hx hb dX10_makePrivate_26 rfl (lv_at hl 1 rfl) ?_
    refine lv_ishl hx hb dX10_makePrivate_27 ?_
    refine lv_topi (fun x_26 ex_26 => ?_)
    refine lv_iconst (v := (-1)) hx hb dX10_makePrivate_28 (by decide) ?_
    refine lv_ixor hx hb dX10_makePrivate_29 ?_
    refine lv_topi (fun x_27 ex_27 => ?_)
    refine lv_iand hx hb dX10_makePrivate_30 ?_
    refine lv_topi (fun x_28 ex_28 => ?_)
    refine hg_put (ty := .int) hx hb hG igX10 tyX10 tyX10_ok nmX10 hown hK hS o_c_15 (AF.of k_h0) rfl 4 (by decide) (hG _ mw_122) rfl (by decide +kernel) rfl rfl (Nat.le_of_ble_eq_true rfl) dX10_makePrivate_31 (fun H locs o_c_15 hz oq hS => ?_)
    have o_c_15 : va_at g.1 vwCl (h0, .inr (10, [.ref q_16, .ref q_17, .ref q_18, .int q_19, .int x_28, .int q_21, .int q_22])) H := o_c_15
    have hH : HT g Ty G H := hH.put k_h0 ⟨q_16, q_17, q_18, q_19, x_28, q_21, q_22, rfl, kq_16, kq_17, kq_18⟩ o_c_15 oq
    have o_c_23 := o_c_23.kept (oq _ (ne_kd kq_18 k_h0 (by decide)))
    clear oq hz
    exact W.vret hx hb hr (fun t ht hWm => ⟨⟨(Ty, G), rfl, rfl, by show HT g Ty G t.heap; rw [ht]; exact hH⟩, hS.F ht⟩) hS.2.2 dX10_makePrivate_34

set_option maxHeartbeats 4000000 in
set_option maxRecDepth 100000 in
theorem c_X10_makeUnbindable_o (l : Launch) (g : Gx) (Ty : TyM) (G : Gh) (sz : Nat) (h0 : Nat) (a0 : Int32) (k_h0 : Ty h0 = some (20, 0)) : Met l yX10_makeUnbindable (wsG yX10_makeUnbindable cX10_makeUnbindable 2 none) ({ frames := 4, cells := 0, slots := 0, locals := 88 }) (PcT g Ty G sz [.ref h0, .int a0]) (QwV g Ty sz (fun u => u = (Ty, G))) 0 0 (AF Ty sz) := by
  refine Met.ofW (cc := cX10_makeUnbindable) (maxL := 2) (ret := none) (by decide) rfl ?_
  intro p e s m args below meth c s₁ B hml hv
  obtain ⟨rfl, hsz, hK, hH⟩ := hv
  subst hsz
  have hx := B.exec
  have hb := B.bytes
  have hr := B.returns
  have hts := atoms_spec (ws := (wsG yX10_makeUnbindable cX10_makeUnbindable 2 none)) B.pre
  have hG : ∀ w ∈ GW, w.before ([.ref h0, .int a0] : List Value).toArray s = true := fun w h => hts w (List.mem_cons_of_mem _ h)
  have hown : s.vm.findClass RX10 = some m.cls := findClass_of_methodNamed B.named
  have hlocks := B.notSynchronized
  have hl := lv_entry [.ref h0, .int a0] (n := 2) (Nat.le_of_ble_eq_true rfl)
  rw [lg_entry_eq]
  generalize (lg_sl [.ref h0, .int a0] ++ List.replicate (2 - (lg_sl [.ref h0, .int a0]).length) Slot.unset).toArray = ls at hl ⊢
  have hl : lv_has ls 2 [(0, .ref h0), (1, .int a0)] := hl
  have hS : va_S (AF Ty s.heap.size) s.heap s.heap [] := va_S.rf
  refine lv_aload_n hx hb dX10_makeUnbindable_0 rfl (lv_at hl 0 rfl) ?_
  refine lv_iload_n hx hb dX10_makeUnbindable_1 rfl (lv_at hl 1 rfl) ?_
  obtain ⟨_, ⟨q_2, q_3, q_4, q_5, q_6, q_7, q_8, rfl, kq_2, kq_3, kq_4⟩, o_c_1⟩ := hH h0 _ k_h0
  refine vp_callSi (W.runV (As := [.int a0]) (rest := []) ⟨hx, hb, hml, hown, hts⟩ (c_X10_has_o l g Ty G h0 a0 k_h0) (cwV 1 hts (gwV mw_644 mw_604 mw_605 mw_77 mw_606) rfl rfl rfl hv_X10_has ⟨Nat.le_of_ble_eq_true rfl, Nat.le_of_ble_eq_true rfl⟩) ⟨PcH_blind, hg_recv hK o_c_1 rfl, PcH_pre hK hH⟩ rfl rfl hl.1 rfl (lv_room (Nat.le_of_ble_eq_true rfl)) dX10_makeUnbindable_2 ⟨Nat.zero_le _, Nat.zero_le _⟩) (fun x_9 hx_9 => ?_)
  have rx_9 : rgI (0) (1) x_9 := hx_9.1
  refine lv_if_eq (tgt := 25) hx hb dX10_makeUnbindable_5 (by decide) (fun c_10 => ?_) (fun c_10 => ?_)
  · have r_11 : rgI (0) (0) x_9 := rg_w (rg_eq rl_0 c_10) (by decide) (by decide)
    exact W.vret hx hb hr (fun t ht hWm => ⟨⟨(Ty, G), rfl, rfl, by show HT g Ty G t.heap; rw [ht]; exact hH⟩, hS.F ht⟩) hS.2.2 dX10_makeUnbindable_25
  · have r_12 : rgI (1) (1) x_9 := rg_w (rg_neL rx_9 rl_0 c_10) (by decide) (by decide)
    have r_13 : rgI (0) (23) a0 := rg_w (hx_9.2.resolve_left c_10) (by decide) (by decide)
    refine lv_aload_n hx hb dX10_makeUnbindable_8 rfl (lv_at hl 0 rfl) ?_
    refine lv_iload_n hx hb dX10_makeUnbindable_9 rfl (lv_at hl 1 rfl) ?_
    refine va_callv (va_runV (As := [.int a0]) (rest := []) ⟨hx, hb, hml, hown, hts⟩ (c_X10_makePrivate_o l g Ty G s.heap.size h0 a0 k_h0) (cwV 1 hts (gwV mw_818 mw_798 mw_799 mw_77 mw_800) rfl rfl rfl hv_X10_makePrivate ⟨Nat.le_of_ble_eq_true rfl, Nat.le_of_ble_eq_true rfl⟩) ⟨PcT_blind, hg_recv hK o_c_1 rfl, PcT_pre hK hH⟩ rfl rfl hl.1 rfl (lv_room (Nat.le_of_ble_eq_true rfl)) dX10_makeUnbindable_10 ⟨Nat.zero_le _, Nat.zero_le _⟩) hS (fun q _ h => AF.mono hS.1 h) (fun q h => AF.mono hS.1 h) (fun ux_14 t H locs ht hvm hx_14 hB hz hk hS => ?_)
    have hH : HT g Ty G H := by rw [← ht]; rw [hx_14] at hB; exact hB
    refine lv_aload_n hx hb dX10_makeUnbindable_13 rfl (lv_at hl 0 rfl) ?_
    refine lv_dup hx hb dX10_makeUnbindable_14 rfl ?_
    obtain ⟨_, ⟨q_16, q_17, q_18, q_19, q_20, q_21, q_22, rfl, kq_16, kq_17, kq_18⟩, o_c_15⟩ := hH h0 _ k_h0
    refine hg_get hx hb hG igX10 hown hK o_c_15 rfl 4 (by decide) (hG _ mw_122) rfl dX10_makeUnbindable_15 ?_
    refine lv_iconst (v := 1) hx hb dX10_makeUnbindable_18 (by decide) ?_
    refine lv_iload_n hx hb dX10_makeUnbindable_19 rfl (lv_at hl 1 rfl) ?_
    refine lv_ishl hx hb dX10_makeUnbindable_20 ?_
    refine lv_topi (fun x_23 ex_23 => ?_)
    refine lv_ior hx hb dX10_makeUnbindable_21 ?_
    refine lv_topi (fun x_24 ex_24 => ?_)
    refine hg_put (ty := .int) hx hb hG igX10 tyX10 tyX10_ok nmX10 hown hK hS o_c_15 (AF.of k_h0) rfl 4 (by decide) (hG _ mw_122) rfl (by decide +kernel) rfl rfl (Nat.le_of_ble_eq_true rfl) dX10_makeUnbindable_22 (fun H locs o_c_15 hz oq hS => ?_)
    have o_c_15 : va_at g.1 vwCl (h0, .inr (10, [.ref q_16, .ref q_17, .ref q_18, .int q_19, .int x_24, .int q_21, .int q_22])) H := o_c_15
    have hH : HT g Ty G H := hH.put k_h0 ⟨q_16, q_17, q_18, q_19, x_24, q_21, q_22, rfl, kq_16, kq_17, kq_18⟩ o_c_15 oq
    clear oq hz
    exact W.vret hx hb hr (fun t ht hWm => ⟨⟨(Ty, G), rfl, rfl, by show HT g Ty G t.heap; rw [ht]; exact hH⟩, hS.F ht⟩) hS.2.2 dX10_makeUnbindable_25

set_option maxHeartbeats 4000000 in
set_option maxRecDepth 100000 in
theorem c_X10_makeShared_o (l : Launch) (g : Gx) (Ty : TyM) (G : Gh) (sz : Nat) (h0 : Nat) (a0 : Int32) (k_h0 : Ty h0 = some (20, 0)) : Met l yX10_makeShared (wsG yX10_makeShared cX10_makeShared 2 none) ({ frames := 1, cells := 0, slots := 0, locals := 21 }) (PcT g Ty G sz [.ref h0, .int a0]) (QwV g Ty sz (fun u => u = (Ty, G))) 0 0 (AF Ty sz) := by
  refine Met.ofW (cc := cX10_makeShared) (maxL := 2) (ret := none) (by decide) rfl ?_
  intro p e s m args below meth c s₁ B hml hv
  obtain ⟨rfl, hsz, hK, hH⟩ := hv
  subst hsz
  have hx := B.exec
  have hb := B.bytes
  have hr := B.returns
  have hts := atoms_spec (ws := (wsG yX10_makeShared cX10_makeShared 2 none)) B.pre
  have hG : ∀ w ∈ GW, w.before ([.ref h0, .int a0] : List Value).toArray s = true := fun w h => hts w (List.mem_cons_of_mem _ h)
  have hown : s.vm.findClass RX10 = some m.cls := findClass_of_methodNamed B.named
  have hlocks := B.notSynchronized
  have hl := lv_entry [.ref h0, .int a0] (n := 2) (Nat.le_of_ble_eq_true rfl)
  rw [lg_entry_eq]
  generalize (lg_sl [.ref h0, .int a0] ++ List.replicate (2 - (lg_sl [.ref h0, .int a0]).length) Slot.unset).toArray = ls at hl ⊢
  have hl : lv_has ls 2 [(0, .ref h0), (1, .int a0)] := hl
  have hS : va_S (AF Ty s.heap.size) s.heap s.heap [] := va_S.rf
  refine lv_aload_n hx hb dX10_makeShared_0 rfl (lv_at hl 0 rfl) ?_
  refine lv_iload_n hx hb dX10_makeShared_1 rfl (lv_at hl 1 rfl) ?_
  obtain ⟨_, ⟨q_2, q_3, q_4, q_5, q_6, q_7, q_8, rfl, kq_2, kq_3, kq_4⟩, o_c_1⟩ := hH h0 _ k_h0
  refine vp_callSi (W.runV (As := [.int a0]) (rest := []) ⟨hx, hb, hml, hown, hts⟩ (c_X10_has_o l g Ty G h0 a0 k_h0) (cwV 1 hts (gwV mw_644 mw_604 mw_605 mw_77 mw_606) rfl rfl rfl hv_X10_has ⟨Nat.le_of_ble_eq_true rfl, Nat.le_of_ble_eq_true rfl⟩) ⟨PcH_blind, hg_recv hK o_c_1 rfl, PcH_pre hK hH⟩ rfl rfl hl.1 rfl (lv_room (Nat.le_of_ble_eq_true rfl)) dX10_makeShared_2 ⟨Nat.zero_le _, Nat.zero_le _⟩) (fun x_9 hx_9 => ?_)
  have rx_9 : rgI (0) (1) x_9 := hx_9.1
  refine lv_if_eq (tgt := 41) hx hb dX10_makeShared_5 (by decide) (fun c_10 => ?_) (fun c_10 => ?_)
  · have r_11 : rgI (0) (0) x_9 := rg_w (rg_eq rl_0 c_10) (by decide) (by decide)
    exact W.vret hx hb hr (fun t ht hWm => ⟨⟨(Ty, G), rfl, rfl, by show HT g Ty G t.heap; rw [ht]; exact hH⟩, hS.F ht⟩) hS.2.2 dX10_makeShared_41
  · have r_12 : rgI (1) (1) x_9 := rg_w (rg_neL rx_9 rl_0 c_10) (by decide) (by decide)
    have r_13 : rgI (0) (23) a0 := rg_w (hx_9.2.resolve_left c_10) (by decide) (by decide)
    refine lv_aload_n hx hb dX10_makeShared_8 rfl (lv_at hl 0 rfl) ?_
    refine lv_dup hx hb dX10_makeShared_9 rfl ?_
    refine hg_get hx hb hG igX10 hown hK o_c_1 rfl 4 (by decide) (hG _ mw_122) rfl dX10_makeShared_10 ?_
    refine lv_iconst (v := 1) hx hb dX10_makeShared_13 (by decide) ?_
    refine lv_iload_n hx hb dX10_makeShared_14 rfl (lv_at hl 1 rfl) ?_
    refine lv_ishl hx hb dX10_makeShared_15 ?_
    refine lv_topi (fun x_14 ex_14 => ?_)
    refine lv_iconst (v := (-1)) hx hb dX10_makeShared_16 (by decide) ?_
    refine lv_ixor hx hb dX10_makeShared_17 ?_
    refine lv_topi (fun x_15 ex_15 => ?_)
    refine lv_iand hx hb dX10_makeShared_18 ?_
    refine lv_topi (fun x_16 ex_16 => ?_)
    refine hg_put (ty := .int) hx hb hG igX10 tyX10 tyX10_ok nmX10 hown hK hS o_c_1 (AF.of k_h0) rfl 4 (by decide) (hG _ mw_122) rfl (by decide +kernel) rfl rfl (Nat.le_of_ble_eq_true rfl) dX10_makeShared_19 (fun H locs o_c_1 hz oq hS => ?_)
    have o_c_1 : va_at g.1 vwCl (h0, .inr (10, [.ref q_2, .ref q_3, .ref q_4, .int q_5, .int x_16, .int q_7, .int q_8])) H := o_c_1
    have hH : HT g Ty G H := hH.put k_h0 ⟨q_2, q_3, q_4, q_5, x_16, q_7, q_8, rfl, kq_2, kq_3, kq_4⟩ o_c_1 oq
    clear oq hz
    refine lv_aload_n hx hb dX10_makeShared_22 rfl (lv_at hl 0 rfl) ?_
    refine hg_get hx hb hG igX10 hown hK o_c_1 rfl 1 (by decide) (hG _ mw_116) rfl dX10_makeShared_23 ?_
    refine lv_iload_n hx hb dX10_makeShared_26 rfl (lv_at hl 1 rfl) ?_
    obtain ⟨_, ⟨f_18, rfl⟩, o_c_17⟩ := hH q_3 _ kq_3
    refine hg_iald hx hb hK o_c_17 (rg_in (n := 24) r_13 (by decide) (by decide)) dX10_makeShared_27 ?_
    refine lv_topi (fun x_19 ex_19 => ?_)
    refine lv_if_ne (tgt := 41) hx hb dX10_makeShared_28 (by decide) (fun c_20 => ?_) (fun c_20 => ?_)
    · exact W.vret hx hb hr (fun t ht hWm => ⟨⟨(Ty, G), rfl, rfl, by show HT g Ty G t.heap; rw [ht]; exact hH⟩, hS.F ht⟩) hS.2.2 dX10_makeShared_41
    · have r_21 : rgI (0) (0) x_19 := rg_w (rg_eq rl_0 c_20) (by decide) (by decide)
      refine lv_aload_n hx hb dX10_makeShared_31 rfl (lv_at hl 0 rfl) ?_
      refine hg_get hx hb hG igX10 hown hK o_c_1 rfl 1 (by decide) (hG _ mw_116) rfl dX10_makeShared_32 ?_
      refine lv_iload_n hx hb dX10_makeShared_35 rfl (lv_at hl 1 rfl) ?_
      refine lv_aload_n hx hb dX10_makeShared_36 rfl (lv_at hl 0 rfl) ?_
      refine va_calli (va_runV (As := []) (rest := [.int a0, .ref q_3]) ⟨hx, hb, hml, hown, hts⟩ (c_X10_newGroup_o l g Ty G H.size h0 k_h0) (cwV 0 hts (gwV mw_809 mw_721 mw_722 mw_77 mw_723) rfl rfl rfl hv_X10_newGroup ⟨Nat.le_of_ble_eq_true rfl, Nat.le_of_ble_eq_true rfl⟩) ⟨PcT_blind, hg_recv hK o_c_1 rfl, PcT_pre hK hH⟩ rfl rfl hl.1 rfl (lv_room (Nat.le_of_ble_eq_true rfl)) dX10_makeShared_37 ⟨Nat.zero_le _, Nat.zero_le _⟩) hS (fun q _ h => AF.mono hS.1 h) (fun q h => AF.mono hS.1 h) (fun x_22 ux_22 t H locs ht hvm hx_22 hB hz hk hS => ?_)
      have hH : HT g Ty G H := by rw [← ht]; rw [hx_22] at hB; exact hB
      obtain ⟨_, ⟨f_24, rfl⟩, o_c_23⟩ := hH q_3 _ kq_3
      refine hg_iast hx hb hK hS o_c_23 (AF.of kq_3) (rg_in (n := 24) r_13 (by decide) (by decide)) dX10_makeShared_40 (fun H locs o_c_23 hz oq hS => ?_)
      generalize hff_25 : upd f_24 _ x_22 = f_25 at o_c_23
      have hH : HT g Ty G H := hH.put kq_3 ⟨_, rfl⟩ o_c_23 oq
      clear oq hz
      exact W.vret hx hb hr (fun t ht hWm => ⟨⟨(Ty, G), rfl, rfl, by show HT g Ty G t.heap; rw [ht]; exact hH⟩, hS.F ht⟩) hS.2.2 dX10_makeShared_41

set_option maxHeartbeats 4000000 in
set_option maxRecDepth 100000 in
theorem c_X10_makeSlave_o (l : Launch) (g : Gx) (Ty : TyM) (G : Gh) (sz : Nat) (h0 : Nat) (a0 : Int32) (k_h0 : Ty h0 = some (20, 0)) : Met l yX10_makeSlave (wsG yX10_makeSlave cX10_makeSlave 2 none) ({ frames := 3, cells := 0, slots := 0, locals := 67 }) (PcT g Ty G sz [.ref h0, .int a0]) (QwV g Ty sz (fun u => u = (Ty, G))) 0 0 (AF Ty sz) := by
  refine Met.ofW (cc := cX10_makeSlave) (maxL := 2) (ret := none) (by decide) rfl ?_
  intro p e s m args below meth c s₁ B hml hv
  obtain ⟨rfl, hsz, hK, hH⟩ := hv
  subst hsz
  have hx := B.exec
  have hb := B.bytes
  have hr := B.returns
  have hts := atoms_spec (ws := (wsG yX10_makeSlave cX10_makeSlave 2 none)) B.pre
  have hG : ∀ w ∈ GW, w.before ([.ref h0, .int a0] : List Value).toArray s = true := fun w h => hts w (List.mem_cons_of_mem _ h)
  have hown : s.vm.findClass RX10 = some m.cls := findClass_of_methodNamed B.named
  have hlocks := B.notSynchronized
  have hl := lv_entry [.ref h0, .int a0] (n := 2) (Nat.le_of_ble_eq_true rfl)
  rw [lg_entry_eq]
  generalize (lg_sl [.ref h0, .int a0] ++ List.replicate (2 - (lg_sl [.ref h0, .int a0]).length) Slot.unset).toArray = ls at hl ⊢
  have hl : lv_has ls 2 [(0, .ref h0), (1, .int a0)] := hl
  have hS : va_S (AF Ty s.heap.size) s.heap s.heap [] := va_S.rf
  have L_36 : ∀ (H : Heap) (locs : List Loc) (ls : Array Slot), rgI (0) (23) a0 → lv_has ls 2 [(0, .ref h0), (1, .int a0)] → HT g Ty G H → va_S (AF Ty s.heap.size) s.heap H locs → Wm p l e (wsG yX10_makeSlave cX10_makeSlave 2 none) ({ frames := 3, cells := 0, slots := 0, locals := 67 }) s m [.ref h0, .int a0] below meth c H locs (0) (0) (QwV g Ty s.heap.size (fun u => u = (Ty, G))) 0 0 (AF Ty s.heap.size) (F0 m 36 ls []) := by
    intro H locs ls ry1_36 hl hH hS
    refine lv_aload_n hx hb dX10_makeSlave_36 rfl (lv_at hl 0 rfl) ?_
    refine lv_iload_n hx hb dX10_makeSlave_37 rfl (lv_at hl 1 rfl) ?_
    obtain ⟨_, ⟨q_2, q_3, q_4, q_5, q_6, q_7, q_8, rfl, kq_2, kq_3, kq_4⟩, o_c_1⟩ := hH h0 _ k_h0
    refine va_callv (va_runV (As := [.int a0]) (rest := []) ⟨hx, hb, hml, hown, hts⟩ (c_X10_leaveGroup_o l g Ty G H.size h0 a0 k_h0) (cwV 1 hts (gwV mw_801 mw_802 mw_803 mw_77 mw_804) rfl rfl rfl hv_X10_leaveGroup ⟨Nat.le_of_ble_eq_true rfl, Nat.le_of_ble_eq_true rfl⟩) ⟨PcT_blind, hg_recv hK o_c_1 rfl, PcT_pre hK hH⟩ rfl rfl hl.1 rfl (lv_room (Nat.le_of_ble_eq_true rfl)) dX10_makeSlave_38 ⟨Nat.zero_le _, Nat.zero_le _⟩) hS (fun q _ h => AF.mono hS.1 h) (fun q h => AF.mono hS.1 h) (fun ux_9 t H locs ht hvm hx_9 hB hz hk hS => ?_)
    have hH : HT g Ty G H := by rw [← ht]; rw [hx_9] at hB; exact hB
    exact W.vret hx hb hr (fun t ht hWm => ⟨⟨(Ty, G), rfl, rfl, by show HT g Ty G t.heap; rw [ht]; exact hH⟩, hS.F ht⟩) hS.2.2 dX10_makeSlave_41
  refine lv_aload_n hx hb dX10_makeSlave_0 rfl (lv_at hl 0 rfl) ?_
  refine lv_iload_n hx hb dX10_makeSlave_1 rfl (lv_at hl 1 rfl) ?_
  obtain ⟨_, ⟨q_11, q_12, q_13, q_14, q_15, q_16, q_17, rfl, kq_11, kq_12, kq_13⟩, o_c_10⟩ := hH h0 _ k_h0
  refine vp_callSi (W.runV (As := [.int a0]) (rest := []) ⟨hx, hb, hml, hown, hts⟩ (c_X10_has_o l g Ty G h0 a0 k_h0) (cwV 1 hts (gwV mw_644 mw_604 mw_605 mw_77 mw_606) rfl rfl rfl hv_X10_has ⟨Nat.le_of_ble_eq_true rfl, Nat.le_of_ble_eq_true rfl⟩) ⟨PcH_blind, hg_recv hK o_c_10 rfl, PcH_pre hK hH⟩ rfl rfl hl.1 rfl (lv_room (Nat.le_of_ble_eq_true rfl)) dX10_makeSlave_2 ⟨Nat.zero_le _, Nat.zero_le _⟩) (fun x_18 hx_18 => ?_)
  have rx_18 : rgI (0) (1) x_18 := hx_18.1
  refine lv_if_eq (tgt := 41) hx hb dX10_makeSlave_5 (by decide) (fun c_19 => ?_) (fun c_19 => ?_)
  · have r_20 : rgI (0) (0) x_18 := rg_w (rg_eq rl_0 c_19) (by decide) (by decide)
    exact W.vret hx hb hr (fun t ht hWm => ⟨⟨(Ty, G), rfl, rfl, by show HT g Ty G t.heap; rw [ht]; exact hH⟩, hS.F ht⟩) hS.2.2 dX10_makeSlave_41
  · have r_21 : rgI (1) (1) x_18 := rg_w (rg_neL rx_18 rl_0 c_19) (by decide) (by decide)
    have r_22 : rgI (0) (23) a0 := rg_w (hx_18.2.resolve_left c_19) (by decide) (by decide)
    refine lv_aload_n hx hb dX10_makeSlave_8 rfl (lv_at hl 0 rfl) ?_
    refine lv_aload_n hx hb dX10_makeSlave_9 rfl (lv_at hl 0 rfl) ?_
    refine hg_get hx hb hG igX10 hown hK o_c_10 rfl 1 (by decide) (hG _ mw_116) rfl dX10_makeSlave_10 ?_
    refine lv_iload_n hx hb dX10_makeSlave_13 rfl (lv_at hl 1 rfl) ?_
    obtain ⟨_, ⟨f_24, rfl⟩, o_c_23⟩ := hH q_12 _ kq_12
    refine hg_iald hx hb hK o_c_23 (rg_in (n := 24) r_22 (by decide) (by decide)) dX10_makeSlave_14 ?_
    refine lv_topi (fun x_25 ex_25 => ?_)
    refine vp_callSi (W.runV (As := [.int x_25]) (rest := []) ⟨hx, hb, hml, hown, hts⟩ (c_X10_withGroup_o l g Ty G h0 x_25 k_h0) (cwV 1 hts (gwV mw_658 mw_659 mw_660 mw_77 mw_661) rfl rfl rfl hv_X10_withGroup ⟨Nat.le_of_ble_eq_true rfl, Nat.le_of_ble_eq_true rfl⟩) ⟨PcH_blind, hg_recv hK o_c_10 rfl, PcH_pre hK hH⟩ rfl rfl hl.1 rfl (lv_room (Nat.le_of_ble_eq_true rfl)) dX10_makeSlave_15 ⟨Nat.zero_le _, Nat.zero_le _⟩) (fun x_26 hx_26 => ?_)
    refine lv_iconst (v := 1) hx hb dX10_makeSlave_18 (by decide) ?_
    refine lv_iload_n hx hb dX10_makeSlave_19 rfl (lv_at hl 1 rfl) ?_
    refine lv_ishl hx hb dX10_makeSlave_20 ?_
    refine lv_topi (fun x_27 ex_27 => ?_)
    refine lv_icmp_eq (tgt := 36) hx hb dX10_makeSlave_21 (by decide) (fun c_28 => ?_) (fun c_28 => ?_)
    · exact L_36 s.heap [] ls r_22 (lv_sub hl [0, 1] rfl) hH hS
    · refine lv_aload_n hx hb dX10_makeSlave_24 rfl (lv_at hl 0 rfl) ?_
      refine hg_get hx hb hG igX10 hown hK o_c_10 rfl 2 (by decide) (hG _ mw_117) rfl dX10_makeSlave_25 ?_
      refine lv_iload_n hx hb dX10_makeSlave_28 rfl (lv_at hl 1 rfl) ?_
      refine lv_aload_n hx hb dX10_makeSlave_29 rfl (lv_at hl 0 rfl) ?_
      refine hg_get hx hb hG igX10 hown hK o_c_10 rfl 1 (by decide) (hG _ mw_116) rfl dX10_makeSlave_30 ?_
      refine lv_iload_n hx hb dX10_makeSlave_33 rfl (lv_at hl 1 rfl) ?_
      refine hg_iald hx hb hK o_c_23 (rg_in (n := 24) r_22 (by decide) (by decide)) dX10_makeSlave_34 ?_
      refine lv_topi (fun x_29 ex_29 => ?_)
      obtain ⟨_, ⟨f_31, rfl⟩, o_c_30⟩ := hH q_13 _ kq_13
      refine hg_iast hx hb hK hS o_c_30 (AF.of kq_13) (rg_in (n := 24) r_22 (by decide) (by decide)) dX10_makeSlave_35 (fun H locs o_c_30 hz oq hS => ?_)
      generalize hff_32 : upd f_31 _ x_29 = f_32 at o_c_30
      have hH : HT g Ty G H := hH.put kq_13 ⟨_, rfl⟩ o_c_30 oq
      have o_c_10 := o_c_10.kept (oq _ (ne_kd k_h0 kq_13 (by decide)))
      clear oq hz
      exact L_36 H locs ls r_22 (lv_sub hl [0, 1] rfl) hH hS

set_option maxHeartbeats 4000000 in
set_option maxRecDepth 100000 in
theorem c_X10_take (l : Launch) (g : Gx) (Ty : TyM) (G : Gh) (sz : Nat) (h0 : Nat) (b0 : Nat) (k_h0 : Ty h0 = some (20, 0)) (k_b0 : Ty b0 = some (20, 0)) : Met l yX10_take (wsG yX10_take cX10_take 3 none) ({ frames := 0, cells := 0, slots := 0, locals := 0 }) (PcT g Ty G sz [.ref h0, .ref b0]) (QwV g Ty sz (fun u => u = (Ty, G))) 0 0 (AF Ty sz) := by
  refine Met.ofW (cc := cX10_take) (maxL := 3) (ret := none) (by decide) rfl ?_
  intro p e s m args below meth c s₁ B hml hv
  obtain ⟨rfl, hsz, hK, hH⟩ := hv
  subst hsz
  have hx := B.exec
  have hb := B.bytes
  have hr := B.returns
  have hts := atoms_spec (ws := (wsG yX10_take cX10_take 3 none)) B.pre
  have hG : ∀ w ∈ GW, w.before ([.ref h0, .ref b0] : List Value).toArray s = true := fun w h => hts w (List.mem_cons_of_mem _ h)
  have hown : s.vm.findClass RX10 = some m.cls := findClass_of_methodNamed B.named
  have hlocks := B.notSynchronized
  have hl := lv_entry [.ref h0, .ref b0] (n := 3) (Nat.le_of_ble_eq_true rfl)
  rw [lg_entry_eq]
  generalize (lg_sl [.ref h0, .ref b0] ++ List.replicate (3 - (lg_sl [.ref h0, .ref b0]).length) Slot.unset).toArray = ls at hl ⊢
  have hl : lv_has ls 3 [(0, .ref h0), (1, .ref b0)] := hl
  have hS : va_S (AF Ty s.heap.size) s.heap s.heap [] := va_S.rf
  have L_2 : ∀ (n : Nat) (H : Heap) (locs : List Loc) (y2_2 : Int32) (ls : Array Slot), rgI (0) (24) y2_2 → (24 - (y2_2).toInt).toNat < n → lv_has ls 3 [(0, .ref h0), (1, .ref b0), (2, .int y2_2)] → HT g Ty G H → va_S (AF Ty s.heap.size) s.heap H locs → Wm p l e (wsG yX10_take cX10_take 3 none) ({ frames := 0, cells := 0, slots := 0, locals := 0 }) s m [.ref h0, .ref b0] below meth c H locs (0) (0) (QwV g Ty s.heap.size (fun u => u = (Ty, G))) 0 0 (AF Ty s.heap.size) (F0 m 2 ls []) := by
    intro n
    induction n with
    | zero => intro H locs y2_2 ls ry2_2 hm; exact absurd hm (Nat.not_lt_zero _)
    | succ n ih_2 =>
      intro H locs y2_2 ls ry2_2 hm_2 hl hH hS
      refine lv_iload_n hx hb dX10_take_2 rfl (lv_at hl 2 rfl) ?_
      refine lv_bipush (v := 24) hx hb dX10_take_3 (by decide) ?_
      refine lv_icmp_ge (tgt := 50) hx hb dX10_take_5 (by decide) (fun c_1 => ?_) (fun c_1 => ?_)
      · have r_2 : rgI (24) (24) y2_2 := rg_w (rg_leR rl_24 ry2_2 c_1) (by decide) (by decide)
        refine lv_aload_n hx hb dX10_take_50 rfl (lv_at hl 0 rfl) ?_
        refine lv_aload_n hx hb dX10_take_51 rfl (lv_at hl 1 rfl) ?_
        obtain ⟨_, ⟨q_4, q_5, q_6, q_7, q_8, q_9, q_10, rfl, kq_4, kq_5, kq_6⟩, o_c_3⟩ := hH b0 _ k_b0
        refine hg_get hx hb hG igX10 hown hK o_c_3 rfl 3 (by decide) (hG _ mw_118) rfl dX10_take_52 ?_
        obtain ⟨_, ⟨q_12, q_13, q_14, q_15, q_16, q_17, q_18, rfl, kq_12, kq_13, kq_14⟩, o_c_11⟩ := hH h0 _ k_h0
        refine hg_put (ty := .int) hx hb hG igX10 tyX10 tyX10_ok nmX10 hown hK hS o_c_11 (AF.of k_h0) rfl 3 (by decide) (hG _ mw_118) rfl (by decide +kernel) rfl rfl (Nat.le_of_ble_eq_true rfl) dX10_take_55 (fun H locs o_c_11 hz oq hS => ?_)
        have o_c_11 : va_at g.1 vwCl (h0, .inr (10, [.ref q_12, .ref q_13, .ref q_14, .int q_7, .int q_16, .int q_17, .int q_18])) H := o_c_11
        have hH : HT g Ty G H := hH.put k_h0 ⟨q_12, q_13, q_14, q_7, q_16, q_17, q_18, rfl, kq_12, kq_13, kq_14⟩ o_c_11 oq
        clear oq hz
        refine lv_aload_n hx hb dX10_take_58 rfl (lv_at hl 0 rfl) ?_
        refine lv_aload_n hx hb dX10_take_59 rfl (lv_at hl 1 rfl) ?_
        obtain ⟨_, ⟨q_20, q_21, q_22, q_23, q_24, q_25, q_26, rfl, kq_20, kq_21, kq_22⟩, o_c_19⟩ := hH b0 _ k_b0
        refine hg_get hx hb hG igX10 hown hK o_c_19 rfl 4 (by decide) (hG _ mw_122) rfl dX10_take_60 ?_
        refine hg_put (ty := .int) hx hb hG igX10 tyX10 tyX10_ok nmX10 hown hK hS o_c_11 (AF.of k_h0) rfl 4 (by decide) (hG _ mw_122) rfl (by decide +kernel) rfl rfl (Nat.le_of_ble_eq_true rfl) dX10_take_63 (fun H locs o_c_11 hz oq hS => ?_)
        have o_c_11 : va_at g.1 vwCl (h0, .inr (10, [.ref q_12, .ref q_13, .ref q_14, .int q_7, .int q_24, .int q_17, .int q_18])) H := o_c_11
        have hH : HT g Ty G H := hH.put k_h0 ⟨q_12, q_13, q_14, q_7, q_24, q_17, q_18, rfl, kq_12, kq_13, kq_14⟩ o_c_11 oq
        clear oq hz
        refine lv_aload_n hx hb dX10_take_66 rfl (lv_at hl 0 rfl) ?_
        refine lv_aload_n hx hb dX10_take_67 rfl (lv_at hl 1 rfl) ?_
        obtain ⟨_, ⟨q_28, q_29, q_30, q_31, q_32, q_33, q_34, rfl, kq_28, kq_29, kq_30⟩, o_c_27⟩ := hH b0 _ k_b0
        refine hg_get hx hb hG igX10 hown hK o_c_27 rfl 5 (by decide) (hG _ mw_124) rfl dX10_take_68 ?_
        refine hg_put (ty := .int) hx hb hG igX10 tyX10 tyX10_ok nmX10 hown hK hS o_c_11 (AF.of k_h0) rfl 5 (by decide) (hG _ mw_124) rfl (by decide +kernel) rfl rfl (Nat.le_of_ble_eq_true rfl) dX10_take_71 (fun H locs o_c_11 hz oq hS => ?_)
        have o_c_11 : va_at g.1 vwCl (h0, .inr (10, [.ref q_12, .ref q_13, .ref q_14, .int q_7, .int q_24, .int q_33, .int q_18])) H := o_c_11
        have hH : HT g Ty G H := hH.put k_h0 ⟨q_12, q_13, q_14, q_7, q_24, q_33, q_18, rfl, kq_12, kq_13, kq_14⟩ o_c_11 oq
        clear oq hz
        refine lv_aload_n hx hb dX10_take_74 rfl (lv_at hl 0 rfl) ?_
        refine lv_aload_n hx hb dX10_take_75 rfl (lv_at hl 1 rfl) ?_
        obtain ⟨_, ⟨q_36, q_37, q_38, q_39, q_40, q_41, q_42, rfl, kq_36, kq_37, kq_38⟩, o_c_35⟩ := hH b0 _ k_b0
        refine hg_get hx hb hG igX10 hown hK o_c_35 rfl 6 (by decide) (hG _ mw_128) rfl dX10_take_76 ?_
        refine hg_put (ty := .int) hx hb hG igX10 tyX10 tyX10_ok nmX10 hown hK hS o_c_11 (AF.of k_h0) rfl 6 (by decide) (hG _ mw_128) rfl (by decide +kernel) rfl rfl (Nat.le_of_ble_eq_true rfl) dX10_take_79 (fun H locs o_c_11 hz oq hS => ?_)
        have o_c_11 : va_at g.1 vwCl (h0, .inr (10, [.ref q_12, .ref q_13, .ref q_14, .int q_7, .int q_24, .int q_33, .int q_42])) H := o_c_11
        have hH : HT g Ty G H := hH.put k_h0 ⟨q_12, q_13, q_14, q_7, q_24, q_33, q_42, rfl, kq_12, kq_13, kq_14⟩ o_c_11 oq
        clear oq hz
        exact W.vret hx hb hr (fun t ht hWm => ⟨⟨(Ty, G), rfl, rfl, by show HT g Ty G t.heap; rw [ht]; exact hH⟩, hS.F ht⟩) hS.2.2 dX10_take_82
      · have r_43 : rgI (0) (23) y2_2 := rg_w (rg_ltL ry2_2 rl_24 (nle_lt c_1)) (by decide) (by decide)
        refine lv_aload_n hx hb dX10_take_8 rfl (lv_at hl 0 rfl) ?_
        obtain ⟨_, ⟨q_45, q_46, q_47, q_48, q_49, q_50, q_51, rfl, kq_45, kq_46, kq_47⟩, o_c_44⟩ := hH h0 _ k_h0
        refine hg_get hx hb hG igX10 hown hK o_c_44 rfl 0 (by decide) (hG _ mw_115) rfl dX10_take_9 ?_
        refine lv_iload_n hx hb dX10_take_12 rfl (lv_at hl 2 rfl) ?_
        refine lv_aload_n hx hb dX10_take_13 rfl (lv_at hl 1 rfl) ?_
        obtain ⟨_, ⟨q_53, q_54, q_55, q_56, q_57, q_58, q_59, rfl, kq_53, kq_54, kq_55⟩, o_c_52⟩ := hH b0 _ k_b0
        refine hg_get hx hb hG igX10 hown hK o_c_52 rfl 0 (by decide) (hG _ mw_115) rfl dX10_take_14 ?_
        refine lv_iload_n hx hb dX10_take_17 rfl (lv_at hl 2 rfl) ?_
        obtain ⟨_, ⟨f_61, rfl⟩, o_c_60⟩ := hH q_53 _ kq_53
        refine hg_iald hx hb hK o_c_60 (rg_in (n := 24) r_43 (by decide) (by decide)) dX10_take_18 ?_
        refine lv_topi (fun x_62 ex_62 => ?_)
        obtain ⟨_, ⟨f_64, rfl⟩, o_c_63⟩ := hH q_45 _ kq_45
        refine hg_iast hx hb hK hS o_c_63 (AF.of kq_45) (rg_in (n := 24) r_43 (by decide) (by decide)) dX10_take_19 (fun H locs o_c_63 hz oq hS => ?_)
        generalize hff_65 : upd f_64 _ x_62 = f_65 at o_c_63
        have hH : HT g Ty G H := hH.put kq_45 ⟨_, rfl⟩ o_c_63 oq
        have o_c_44 := o_c_44.kept (oq _ (ne_kd k_h0 kq_45 (by decide)))
        have o_c_52 := o_c_52.kept (oq _ (ne_kd k_b0 kq_45 (by decide)))
        clear oq hz
        refine lv_aload_n hx hb dX10_take_20 rfl (lv_at hl 0 rfl) ?_
        refine hg_get hx hb hG igX10 hown hK o_c_44 rfl 1 (by decide) (hG _ mw_116) rfl dX10_take_21 ?_
        refine lv_iload_n hx hb dX10_take_24 rfl (lv_at hl 2 rfl) ?_
        refine lv_aload_n hx hb dX10_take_25 rfl (lv_at hl 1 rfl) ?_
        refine hg_get hx hb hG igX10 hown hK o_c_52 rfl 1 (by decide) (hG _ mw_116) rfl dX10_take_26 ?_
        refine lv_iload_n hx hb dX10_take_29 rfl (lv_at hl 2 rfl) ?_
        obtain ⟨_, ⟨f_67, rfl⟩, o_c_66⟩ := hH q_54 _ kq_54
        refine hg_iald hx hb hK o_c_66 (rg_in (n := 24) r_43 (by decide) (by decide)) dX10_take_30 ?_
        refine lv_topi (fun x_68 ex_68 => ?_)
        obtain ⟨_, ⟨f_70, rfl⟩, o_c_69⟩ := hH q_46 _ kq_46
        refine hg_iast hx hb hK hS o_c_69 (AF.of kq_46) (rg_in (n := 24) r_43 (by decide) (by decide)) dX10_take_31 (fun H locs o_c_69 hz oq hS => ?_)
        generalize hff_71 : upd f_70 _ x_68 = f_71 at o_c_69
        have hH : HT g Ty G H := hH.put kq_46 ⟨_, rfl⟩ o_c_69 oq
        have o_c_44 := o_c_44.kept (oq _ (ne_kd k_h0 kq_46 (by decide)))
        have o_c_52 := o_c_52.kept (oq _ (ne_kd k_b0 kq_46 (by decide)))
        clear oq hz
        refine lv_aload_n hx hb dX10_take_32 rfl (lv_at hl 0 rfl) ?_
        refine hg_get hx hb hG igX10 hown hK o_c_44 rfl 2 (by decide) (hG _ mw_117) rfl dX10_take_33 ?_
        refine lv_iload_n hx hb dX10_take_36 rfl (lv_at hl 2 rfl) ?_
        refine lv_aload_n hx hb dX10_take_37 rfl (lv_at hl 1 rfl) ?_
        refine hg_get hx hb hG igX10 hown hK o_c_52 rfl 2 (by decide) (hG _ mw_117) rfl dX10_take_38 ?_
        refine lv_iload_n hx hb dX10_take_41 rfl (lv_at hl 2 rfl) ?_
        obtain ⟨_, ⟨f_73, rfl⟩, o_c_72⟩ := hH q_55 _ kq_55
        refine hg_iald hx hb hK o_c_72 (rg_in (n := 24) r_43 (by decide) (by decide)) dX10_take_42 ?_
        refine lv_topi (fun x_74 ex_74 => ?_)
        obtain ⟨_, ⟨f_76, rfl⟩, o_c_75⟩ := hH q_47 _ kq_47
        refine hg_iast hx hb hK hS o_c_75 (AF.of kq_47) (rg_in (n := 24) r_43 (by decide) (by decide)) dX10_take_43 (fun H locs o_c_75 hz oq hS => ?_)
        generalize hff_77 : upd f_76 _ x_74 = f_77 at o_c_75
        have hH : HT g Ty G H := hH.put kq_47 ⟨_, rfl⟩ o_c_75 oq
        have o_c_44 := o_c_44.kept (oq _ (ne_kd k_h0 kq_47 (by decide)))
        have o_c_52 := o_c_52.kept (oq _ (ne_kd k_b0 kq_47 (by decide)))
        clear oq hz
        obtain ⟨x_78, ex_78⟩ : ∃ y : Int32, y = y2_2 + 1 := ⟨_, rfl⟩
        have rx_78 : rgI (1) (24) x_78 := by rw [ex_78]; exact rg_w (rg_add r_43 rl_1 (by decide) (by decide)) (by decide) (by decide)
        have qx_78 : x_78.toInt = (y2_2 : Int32).toInt + 1 := by rw [ex_78]; exact rg_addE r_43 rl_1 (by decide) (by decide)
        refine lv_iinc (v := x_78) (lv' := [(2, .int x_78), (0, .ref h0), (1, .ref b0)]) hx hb dX10_take_44 hl (k := 2) rfl (by rw [ex_78]; rfl) (by decide) rfl (fun ls hl => ?_)
        refine lv_goto (tgt := 2) hx hb dX10_take_47 (by decide) ?_
        exact ih_2 H locs x_78 ls (rg_w rx_78 (by decide) (by decide)) (by have h1 := qx_78; have h2 := r_43.1; have h3 := r_43.2; have h4 := hm_2; omega) (lv_sub hl [1, 2, 0] rfl) hH hS
  refine lv_iconst (v := 0) hx hb dX10_take_0 (by decide) ?_
  refine lv_istore_n (lv' := [(2, .int 0), (0, .ref h0), (1, .ref b0)]) hx hb dX10_take_1 rfl hl (by decide) rfl (fun ls hl => ?_)
  exact L_2 _ s.heap [] 0 ls (rg_w rl_0 (by decide) (by decide)) (Nat.lt_succ_self _) (lv_sub hl [1, 2, 0] rfl) hH hS
