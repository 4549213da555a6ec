set_option maxHeartbeats 4000000 in
set_option maxRecDepth 100000 in
theorem c_X12_tell (l : Launch) (g : Gx) (Ty : TyM) (G : Gh) (sz : Nat) (h0 : Nat) (j0 : Int64) (k_h0 : Ty h0 = some (22, 0)) (hr4 : rgI 0 31 (G.1 104)) : Met l yX12_tell (wsG yX12_tell cX12_tell 3 none) ({ frames := 0, cells := 0, slots := 0, locals := 0 }) (PcT g Ty G sz [.ref h0, .long j0]) (QwV g Ty sz (fun u => u.1 = Ty ∧ u.2 = gset G 104 (G.1 104 + 1))) 0 0 (AF Ty sz) := by
  refine Met.ofW (cc := cX12_tell) (maxL := 3) (ret := none) (by decide) rfl ?_
  intro p e s m args below meth c s₁ B hml hv
  obtain ⟨rfl, hsz, hK, hH⟩ := hv
  subst hsz
  have hx := B.exec
  have hb := B.bytes
  have hr := B.returns
  have hts := atoms_spec (ws := (wsG yX12_tell cX12_tell 3 none)) B.pre
  have hG : ∀ w ∈ GW, w.before ([.ref h0, .long j0] : List Value).toArray s = true := fun w h => hts w (List.mem_cons_of_mem _ h)
  have hown : s.vm.findClass RX12 = some m.cls := findClass_of_methodNamed B.named
  have hlocks := B.notSynchronized
  have hl := lv_entry [.ref h0, .long j0] (n := 3) (Nat.le_of_ble_eq_true rfl)
  rw [lg_entry_eq]
  generalize (lg_sl [.ref h0, .long j0] ++ List.replicate (3 - (lg_sl [.ref h0, .long j0]).length) Slot.unset).toArray = ls at hl ⊢
  have hl : lv_has ls 3 [(0, .ref h0), (1, .long j0)] := hl
  have hS : va_S (AF Ty s.heap.size) s.heap s.heap [] := va_S.rf
  refine lv_aload_n hx hb dX12_tell_0 rfl (lv_at hl 0 rfl) ?_
  obtain ⟨_, ⟨rfl, t_2, hk_3⟩, o_c_1⟩ := hH h0 _ k_h0
  refine hg_get hx hb hG igX12 hown hK o_c_1 rfl 3 (by decide) (hG _ mw_1287) rfl dX12_tell_1 ?_
  refine lv_aload_n hx hb dX12_tell_4 rfl (lv_at hl 0 rfl) ?_
  refine hg_get hx hb hG igX12 hown hK o_c_1 rfl 4 (by decide) (hG _ mw_1288) rfl dX12_tell_5 ?_
  refine lv_lload_n hx hb dX12_tell_8 rfl (lv_at hl 1 rfl) ?_
  obtain ⟨_, ⟨f_5, rfl⟩, o_c_4⟩ := hH (g.2.2 103) _ hk_3.2.2.1
  refine hg_last hx hb hK hS o_c_4 (AF.of hk_3.2.2.1) (rg_in (n := 32) hr4 (by decide) (by decide)) dX12_tell_9 (fun H locs o_c_4 hz oq hS => ?_)
  generalize hff_6 : vp_updL f_5 _ j0 = f_6 at o_c_4
  have hH : HT g Ty G H := hH.put hk_3.2.2.1 ⟨_, rfl⟩ o_c_4 oq
  have o_c_1 := o_c_1.kept (oq _ (ne_kd k_h0 hk_3.2.2.1 (by decide)))
  clear oq hz
  refine lv_aload_n hx hb dX12_tell_10 rfl (lv_at hl 0 rfl) ?_
  refine lv_dup hx hb dX12_tell_11 rfl ?_
  refine hg_get hx hb hG igX12 hown hK o_c_1 rfl 4 (by decide) (hG _ mw_1288) rfl dX12_tell_12 ?_
  refine lv_iconst (v := 1) hx hb dX12_tell_15 (by decide) ?_
  refine lv_iadd hx hb dX12_tell_16 ?_
  refine lv_topi (fun x_7 ex_7 => ?_)
  have rx_7 : rgI (1) (32) x_7 := by rw [ex_7]; exact rg_w (rg_add hr4 rl_1 (by decide) (by decide)) (by decide) (by decide)
  have qx_7 : x_7.toInt = ((G.1 104) : Int32).toInt + 1 := by rw [ex_7]; exact rg_addE hr4 rl_1 (by decide) (by decide)
  refine hg_put (ty := .int) hx hb hG igX12 tyX12 tyX12_ok nmX12 hown hK hS o_c_1 (AF.of k_h0) rfl 4 (by decide) (hG _ mw_1288) rfl (by decide +kernel) rfl rfl (Nat.le_of_ble_eq_true rfl) dX12_tell_17 (fun H locs o_c_1 hz oq hS => ?_)
  obtain ⟨G_8, eG_8⟩ : ∃ z : Gh, z = gset G 104 x_7 := ⟨_, rfl⟩
  have hH : HT g Ty G_8 H := by rw [eG_8]; exact HT.putN 104 x_7 hH k_h0 ⟨rfl, t_2, hk_3⟩ o_c_1 oq (Or.inr (Or.inr (Or.inr (Or.inr (Or.inr ⟨by decide, t_2⟩)))))
  have u_9 : G_8.1 104 = x_7 := by rw [eG_8]; exact gs_eq
  have o_c_4 := o_c_4.kept (oq _ (ne_kd hk_3.2.2.1 k_h0 (by decide)))
  clear oq hz
  exact W.vret hx hb hr (fun t ht hWm => ⟨⟨(Ty, G_8), rfl, ⟨rfl, (by rw [eG_8, ex_7])⟩, by show HT g Ty G_8 t.heap; rw [ht]; exact hH⟩, hS.F ht⟩) hS.2.2 dX12_tell_20

set_option maxHeartbeats 4000000 in
set_option maxRecDepth 100000 in
theorem c_X12_lost (l : Launch) (g : Gx) (Ty : TyM) (G : Gh) (sz : Nat) (h0 : Nat) (k_h0 : Ty h0 = some (22, 0)) : Met l yX12_lost (wsG yX12_lost cX12_lost 1 (some .int)) ({ frames := 0, cells := 0, slots := 0, locals := 0 }) (PcT g Ty G sz [.ref h0]) (QwI g Ty sz (fun r u => u.1 = Ty ∧ u.2 = gset G 105 1)) 0 0 (AF Ty sz) := by
  refine Met.ofW (cc := cX12_lost) (maxL := 1) (ret := (some .int)) (by decide) rfl ?_
  intro p e s m args below meth c s₁ B hml hv
  obtain ⟨rfl, hsz, hK, hH⟩ := hv
  subst hsz
  have hx := B.exec
  have hb := B.bytes
  have hr := B.returns
  have hts := atoms_spec (ws := (wsG yX12_lost cX12_lost 1 (some .int))) B.pre
  have hG : ∀ w ∈ GW, w.before ([.ref h0] : List Value).toArray s = true := fun w h => hts w (List.mem_cons_of_mem _ h)
  have hown : s.vm.findClass RX12 = some m.cls := findClass_of_methodNamed B.named
  have hlocks := B.notSynchronized
  have hl := lv_entry [.ref h0] (n := 1) (Nat.le_of_ble_eq_true rfl)
  rw [lg_entry_eq]
  generalize (lg_sl [.ref h0] ++ List.replicate (1 - (lg_sl [.ref h0]).length) Slot.unset).toArray = ls at hl ⊢
  have hl : lv_has ls 1 [(0, .ref h0)] := hl
  have hS : va_S (AF Ty s.heap.size) s.heap s.heap [] := va_S.rf
  refine lv_aload_n hx hb dX12_lost_0 rfl (lv_at hl 0 rfl) ?_
  refine lv_iconst (v := 1) hx hb dX12_lost_1 (by decide) ?_
  obtain ⟨_, ⟨rfl, t_2, hk_3⟩, o_c_1⟩ := hH h0 _ k_h0
  refine hg_put (ty := .int) hx hb hG igX12 tyX12 tyX12_ok nmX12 hown hK hS o_c_1 (AF.of k_h0) rfl 5 (by decide) (hG _ mw_1289) rfl (by decide +kernel) rfl rfl (Nat.le_of_ble_eq_true rfl) dX12_lost_2 (fun H locs o_c_1 hz oq hS => ?_)
  obtain ⟨G_4, eG_4⟩ : ∃ z : Gh, z = gset G 105 1 := ⟨_, rfl⟩
  have hH : HT g Ty G_4 H := by rw [eG_4]; exact HT.putN 105 1 hH k_h0 ⟨rfl, t_2, hk_3⟩ o_c_1 oq (Or.inr (Or.inr (Or.inr (Or.inr (Or.inr ⟨by decide, t_2⟩)))))
  have u_5 : G_4.1 105 = 1 := by rw [eG_4]; exact gs_eq
  clear oq hz
  refine lv_iconst (v := 0) hx hb dX12_lost_5 (by decide) ?_
  exact W.iret hx hb hr (fun t ht hWm => ⟨⟨0, (Ty, G_4), rfl, ⟨rfl, eG_4⟩, by show HT g Ty G_4 t.heap; rw [ht]; exact hH⟩, hS.F ht⟩) hS.2.2 dX12_lost_6

set_option maxHeartbeats 4000000 in
set_option maxRecDepth 100000 in
theorem c_X12_forget (l : Launch) (g : Gx) (Ty : TyM) (G : Gh) (sz : Nat) (h0 : Nat) (k_h0 : Ty h0 = some (22, 0)) : Met l yX12_forget (wsG yX12_forget cX12_forget 2 (some .int)) ({ frames := 0, cells := 0, slots := 0, locals := 0 }) (PcT g Ty G sz [.ref h0]) (QwI g Ty sz (fun r u => u.1 = Ty ∧ r = G.1 133 ∧ u.2 = gset (gset G 105 0) 133 0)) 0 0 (AF Ty sz) := by
  refine Met.ofW (cc := cX12_forget) (maxL := 2) (ret := (some .int)) (by decide) rfl ?_
  intro p e s m args below meth c s₁ B hml hv
  obtain ⟨rfl, hsz, hK, hH⟩ := hv
  subst hsz
  have hx := B.exec
  have hb := B.bytes
  have hr := B.returns
  have hts := atoms_spec (ws := (wsG yX12_forget cX12_forget 2 (some .int))) B.pre
  have hG : ∀ w ∈ GW, w.before ([.ref h0] : List Value).toArray s = true := fun w h => hts w (List.mem_cons_of_mem _ h)
  have hown : s.vm.findClass RX12 = some m.cls := findClass_of_methodNamed B.named
  have hlocks := B.notSynchronized
  have hl := lv_entry [.ref h0] (n := 2) (Nat.le_of_ble_eq_true rfl)
  rw [lg_entry_eq]
  generalize (lg_sl [.ref h0] ++ List.replicate (2 - (lg_sl [.ref h0]).length) Slot.unset).toArray = ls at hl ⊢
  have hl : lv_has ls 2 [(0, .ref h0)] := hl
  have hS : va_S (AF Ty s.heap.size) s.heap s.heap [] := va_S.rf
  refine lv_aload_n hx hb dX12_forget_0 rfl (lv_at hl 0 rfl) ?_
  refine lv_iconst (v := 0) hx hb dX12_forget_1 (by decide) ?_
  obtain ⟨_, ⟨rfl, t_2, hk_3⟩, o_c_1⟩ := hH h0 _ k_h0
  refine hg_put (ty := .int) hx hb hG igX12 tyX12 tyX12_ok nmX12 hown hK hS o_c_1 (AF.of k_h0) rfl 5 (by decide) (hG _ mw_1289) rfl (by decide +kernel) rfl rfl (Nat.le_of_ble_eq_true rfl) dX12_forget_2 (fun H locs o_c_1 hz oq hS => ?_)
  obtain ⟨G_4, eG_4⟩ : ∃ z : Gh, z = gset G 105 0 := ⟨_, rfl⟩
  have hH : HT g Ty G_4 H := by rw [eG_4]; exact HT.putN 105 0 hH k_h0 ⟨rfl, t_2, hk_3⟩ o_c_1 oq (Or.inr (Or.inr (Or.inr (Or.inr (Or.inr ⟨by decide, t_2⟩)))))
  have u_5 : G_4.1 105 = 0 := by rw [eG_4]; exact gs_eq
  clear oq hz
  refine lv_aload_n hx hb dX12_forget_5 rfl (lv_at hl 0 rfl) ?_
  obtain ⟨_, ⟨rfl, t_7, hk_8⟩, o_c_6⟩ := hH h0 _ k_h0
  refine hg_get hx hb hG igX12 hown hK o_c_6 rfl 33 (by decide) (hG _ mw_1317) rfl dX12_forget_6 ?_
  refine lv_istore_n (lv' := [(1, .int (G_4.1 133)), (0, .ref h0)]) hx hb dX12_forget_9 rfl hl (by decide) rfl (fun ls hl => ?_)
  refine lv_aload_n hx hb dX12_forget_10 rfl (lv_at hl 1 rfl) ?_
  refine lv_iconst (v := 0) hx hb dX12_forget_11 (by decide) ?_
  refine hg_put (ty := .int) hx hb hG igX12 tyX12 tyX12_ok nmX12 hown hK hS o_c_6 (AF.of k_h0) rfl 33 (by decide) (hG _ mw_1317) rfl (by decide +kernel) rfl rfl (Nat.le_of_ble_eq_true rfl) dX12_forget_12 (fun H locs o_c_6 hz oq hS => ?_)
  obtain ⟨G_9, eG_9⟩ : ∃ z : Gh, z = gset G_4 133 0 := ⟨_, rfl⟩
  have hH : HT g Ty G_9 H := by rw [eG_9]; exact HT.putN 133 0 hH k_h0 ⟨rfl, t_7, hk_8⟩ o_c_6 oq (Or.inr (Or.inr (Or.inr (Or.inr (Or.inr ⟨by decide, t_7⟩)))))
  have u_10 : G_9.1 105 = 0 := by rw [eG_9]; exact (gs_ne (by decide)).trans u_5
  have u_11 : G_9.1 133 = 0 := by rw [eG_9]; exact gs_eq
  clear oq hz
  refine lv_iload_n hx hb dX12_forget_15 rfl (lv_at hl 0 rfl) ?_
  exact W.iret hx hb hr (fun t ht hWm => ⟨⟨(G_4.1 133), (Ty, G_9), rfl, ⟨rfl, ⟨(by rw [eG_4]; exact gs_ne (by decide)), by rw [eG_9, eG_4]⟩⟩, by show HT g Ty G_9 t.heap; rw [ht]; exact hH⟩, hS.F ht⟩) hS.2.2 dX12_forget_16

set_option maxHeartbeats 4000000 in
set_option maxRecDepth 100000 in
theorem c_X12_denies (l : Launch) (g : Gx) (Ty : TyM) (G : Gh) (sz : Nat) (h0 : Nat) (k_h0 : Ty h0 = some (22, 0)) : Met l yX12_denies (wsG yX12_denies cX12_denies 2 (some .int)) ({ frames := 0, cells := 0, slots := 0, locals := 0 }) (PcT g Ty G sz [.ref h0]) (QwI g Ty sz (fun r u => u.1 = Ty ∧ r = G.1 137 ∧ u.2 = gset (gset G 105 0) 137 0)) 0 0 (AF Ty sz) := by
  refine Met.ofW (cc := cX12_denies) (maxL := 2) (ret := (some .int)) (by decide) rfl ?_
  intro p e s m args below meth c s₁ B hml hv
  obtain ⟨rfl, hsz, hK, hH⟩ := hv
  subst hsz
  have hx := B.exec
  have hb := B.bytes
  have hr := B.returns
  have hts := atoms_spec (ws := (wsG yX12_denies cX12_denies 2 (some .int))) B.pre
  have hG : ∀ w ∈ GW, w.before ([.ref h0] : List Value).toArray s = true := fun w h => hts w (List.mem_cons_of_mem _ h)
  have hown : s.vm.findClass RX12 = some m.cls := findClass_of_methodNamed B.named
  have hlocks := B.notSynchronized
  have hl := lv_entry [.ref h0] (n := 2) (Nat.le_of_ble_eq_true rfl)
  rw [lg_entry_eq]
  generalize (lg_sl [.ref h0] ++ List.replicate (2 - (lg_sl [.ref h0]).length) Slot.unset).toArray = ls at hl ⊢
  have hl : lv_has ls 2 [(0, .ref h0)] := hl
  have hS : va_S (AF Ty s.heap.size) s.heap s.heap [] := va_S.rf
  refine lv_aload_n hx hb dX12_denies_0 rfl (lv_at hl 0 rfl) ?_
  refine lv_iconst (v := 0) hx hb dX12_denies_1 (by decide) ?_
  obtain ⟨_, ⟨rfl, t_2, hk_3⟩, o_c_1⟩ := hH h0 _ k_h0
  refine hg_put (ty := .int) hx hb hG igX12 tyX12 tyX12_ok nmX12 hown hK hS o_c_1 (AF.of k_h0) rfl 5 (by decide) (hG _ mw_1289) rfl (by decide +kernel) rfl rfl (Nat.le_of_ble_eq_true rfl) dX12_denies_2 (fun H locs o_c_1 hz oq hS => ?_)
  obtain ⟨G_4, eG_4⟩ : ∃ z : Gh, z = gset G 105 0 := ⟨_, rfl⟩
  have hH : HT g Ty G_4 H := by rw [eG_4]; exact HT.putN 105 0 hH k_h0 ⟨rfl, t_2, hk_3⟩ o_c_1 oq (Or.inr (Or.inr (Or.inr (Or.inr (Or.inr ⟨by decide, t_2⟩)))))
  have u_5 : G_4.1 105 = 0 := by rw [eG_4]; exact gs_eq
  clear oq hz
  refine lv_aload_n hx hb dX12_denies_5 rfl (lv_at hl 0 rfl) ?_
  obtain ⟨_, ⟨rfl, t_7, hk_8⟩, o_c_6⟩ := hH h0 _ k_h0
  refine hg_get hx hb hG igX12 hown hK o_c_6 rfl 37 (by decide) (hG _ mw_1321) rfl dX12_denies_6 ?_
  refine lv_istore_n (lv' := [(1, .int (G_4.1 137)), (0, .ref h0)]) hx hb dX12_denies_9 rfl hl (by decide) rfl (fun ls hl => ?_)
  refine lv_aload_n hx hb dX12_denies_10 rfl (lv_at hl 1 rfl) ?_
  refine lv_iconst (v := 0) hx hb dX12_denies_11 (by decide) ?_
  refine hg_put (ty := .int) hx hb hG igX12 tyX12 tyX12_ok nmX12 hown hK hS o_c_6 (AF.of k_h0) rfl 37 (by decide) (hG _ mw_1321) rfl (by decide +kernel) rfl rfl (Nat.le_of_ble_eq_true rfl) dX12_denies_12 (fun H locs o_c_6 hz oq hS => ?_)
  obtain ⟨G_9, eG_9⟩ : ∃ z : Gh, z = gset G_4 137 0 := ⟨_, rfl⟩
  have hH : HT g Ty G_9 H := by rw [eG_9]; exact HT.putN 137 0 hH k_h0 ⟨rfl, t_7, hk_8⟩ o_c_6 oq (Or.inr (Or.inr (Or.inr (Or.inr (Or.inr ⟨by decide, t_7⟩)))))
  have u_10 : G_9.1 105 = 0 := by rw [eG_9]; exact (gs_ne (by decide)).trans u_5
  have u_11 : G_9.1 137 = 0 := by rw [eG_9]; exact gs_eq
  clear oq hz
  refine lv_iload_n hx hb dX12_denies_15 rfl (lv_at hl 0 rfl) ?_
  exact W.iret hx hb hr (fun t ht hWm => ⟨⟨(G_4.1 137), (Ty, G_9), rfl, ⟨rfl, ⟨(by rw [eG_4]; exact gs_ne (by decide)), by rw [eG_9, eG_4]⟩⟩, by show HT g Ty G_9 t.heap; rw [ht]; exact hH⟩, hS.F ht⟩) hS.2.2 dX12_denies_16

set_option maxHeartbeats 4000000 in
set_option maxRecDepth 100000 in
theorem c_X12_fine (l : Launch) (g : Gx) (Ty : TyM) (G : Gh) (h0 : Nat) (k_h0 : Ty h0 = some (22, 0)) : Met l yX12_fine (wsG yX12_fine cX12_fine 1 (some .boolean)) ({ frames := 0, cells := 0, slots := 0, locals := 0 }) (PcH g Ty G [.ref h0]) (vp_Si (fun r => rgI (0) (1) r ∧ ((r = 1 ∧ G.1 110 = -1) ∨ (r = 0 ∧ ¬ G.1 110 = -1)))) 0 0 (fun _ => False) := by
  refine Met.ofW (cc := cX12_fine) (maxL := 1) (ret := (some .boolean)) (by decide) rfl ?_
  intro p e s m args below meth c s₁ B hml hv
  obtain ⟨rfl, hK, hH⟩ := hv
  have hx := B.exec
  have hb := B.bytes
  have hr := B.returns
  have hts := atoms_spec (ws := (wsG yX12_fine cX12_fine 1 (some .boolean))) B.pre
  have hG : ∀ w ∈ GW, w.before ([.ref h0] : List Value).toArray s = true := fun w h => hts w (List.mem_cons_of_mem _ h)
  have hown : s.vm.findClass RX12 = some m.cls := findClass_of_methodNamed B.named
  have hlocks := B.notSynchronized
  have hl := lv_entry [.ref h0] (n := 1) (Nat.le_of_ble_eq_true rfl)
  rw [lg_entry_eq]
  generalize (lg_sl [.ref h0] ++ List.replicate (1 - (lg_sl [.ref h0]).length) Slot.unset).toArray = ls at hl ⊢
  have hl : lv_has ls 1 [(0, .ref h0)] := hl
  refine lv_aload_n hx hb dX12_fine_0 rfl (lv_at hl 0 rfl) ?_
  obtain ⟨_, ⟨rfl, t_2, hk_3⟩, o_c_1⟩ := hH h0 _ k_h0
  refine hg_get hx hb hG igX12 hown hK o_c_1 rfl 10 (by decide) (hG _ mw_1294) rfl dX12_fine_1 ?_
  refine lv_iconst (v := (-1)) hx hb dX12_fine_4 (by decide) ?_
  refine lv_icmp_ne (tgt := 12) hx hb dX12_fine_5 (by decide) (fun c_4 => ?_) (fun c_4 => ?_)
  · refine lv_iconst (v := 0) hx hb dX12_fine_12 (by decide) ?_
    exact W.zret hx hb hr rfl (fun t ht hW => ⟨0, rfl, ⟨rg_w rl_0 (by decide) (by decide), Or.inr ⟨rfl, c_4⟩⟩, ht⟩) (fun q h => by cases h) dX12_fine_13
  · have r_5 : rgI (-1) (-1) (G.1 110) := rg_w (rg_eq rl_m1 c_4) (by decide) (by decide)
    refine lv_iconst (v := 1) hx hb dX12_fine_8 (by decide) ?_
    refine lv_goto (tgt := 13) hx hb dX12_fine_9 (by decide) ?_
    exact W.zret hx hb hr rfl (fun t ht hW => ⟨1, rfl, ⟨rg_w rl_1 (by decide) (by decide), Or.inl ⟨rfl, c_4⟩⟩, ht⟩) (fun q h => by cases h) dX12_fine_13

set_option maxHeartbeats 4000000 in
set_option maxRecDepth 100000 in
theorem c_X12_fault (l : Launch) (g : Gx) (Ty : TyM) (G : Gh) (sz : Nat) (h0 : Nat) (a0 : Int32) (k_h0 : Ty h0 = some (22, 0)) : Met l yX12_fault (wsG yX12_fault cX12_fault 2 none) ({ frames := 1, cells := 0, slots := 0, locals := 20 }) (PcT g Ty G sz [.ref h0, .int a0]) (QwV g Ty sz (fun u => u.1 = Ty ∧ ((G.1 110 = -1 ∧ u.2 = gset G 110 a0) ∨ (¬ G.1 110 = -1 ∧ u.2 = G)))) 0 0 (AF Ty sz) := by
  refine Met.ofW (cc := cX12_fault) (maxL := 2) (ret := none) (by decide) rfl ?_
  intro p e s m args below meth c s₁ B hml hv
  obtain ⟨rfl, hsz, hK, hH⟩ := hv
  subst hsz
  have hx := B.exec
  have hb := B.bytes
  have hr := B.returns
  have hts := atoms_spec (ws := (wsG yX12_fault cX12_fault 2 none)) B.pre
  have hG : ∀ w ∈ GW, w.before ([.ref h0, .int a0] : List Value).toArray s = true := fun w h => hts w (List.mem_cons_of_mem _ h)
  have hown : s.vm.findClass RX12 = some m.cls := findClass_of_methodNamed B.named
  have hlocks := B.notSynchronized
  have hl := lv_entry [.ref h0, .int a0] (n := 2) (Nat.le_of_ble_eq_true rfl)
  rw [lg_entry_eq]
  generalize (lg_sl [.ref h0, .int a0] ++ List.replicate (2 - (lg_sl [.ref h0, .int a0]).length) Slot.unset).toArray = ls at hl ⊢
  have hl : lv_has ls 2 [(0, .ref h0), (1, .int a0)] := hl
  have hS : va_S (AF Ty s.heap.size) s.heap s.heap [] := va_S.rf
  refine lv_aload_n hx hb dX12_fault_0 rfl (lv_at hl 0 rfl) ?_
  obtain ⟨_, ⟨rfl, t_2, hk_3⟩, o_c_1⟩ := hH h0 _ k_h0
  refine vp_callSi (W.runV (As := []) (rest := []) ⟨hx, hb, hml, hown, hts⟩ (c_X12_fine l g Ty G h0 k_h0) (cwV 0 hts (gwV mw_1463 mw_1465 mw_39 mw_88 mw_1466) rfl rfl rfl hv_X12_fine ⟨Nat.le_of_ble_eq_true rfl, Nat.le_of_ble_eq_true rfl⟩) ⟨PcH_blind, hg_recv hK o_c_1 rfl, PcH_pre hK hH⟩ rfl rfl hl.1 rfl (lv_room (Nat.le_of_ble_eq_true rfl)) dX12_fault_1 ⟨Nat.zero_le _, Nat.zero_le _⟩) (fun x_4 hx_4 => ?_)
  have rx_4 : rgI (0) (1) x_4 := hx_4.1
  refine lv_if_eq (tgt := 12) hx hb dX12_fault_4 (by decide) (fun c_5 => ?_) (fun c_5 => ?_)
  · have r_6 : rgI (0) (0) x_4 := rg_w (rg_eq rl_0 c_5) (by decide) (by decide)
    exact W.vret hx hb hr (fun t ht hWm => ⟨⟨(Ty, G), rfl, ⟨rfl, Or.inr ⟨fine0 hx_4.2 c_5, rfl⟩⟩, by show HT g Ty G t.heap; rw [ht]; exact hH⟩, hS.F ht⟩) hS.2.2 dX12_fault_12
  · have r_7 : rgI (1) (1) x_4 := rg_w (rg_neL rx_4 rl_0 c_5) (by decide) (by decide)
    refine lv_aload_n hx hb dX12_fault_7 rfl (lv_at hl 0 rfl) ?_
    refine lv_iload_n hx hb dX12_fault_8 rfl (lv_at hl 1 rfl) ?_
    refine hg_put (ty := .int) hx hb hG igX12 tyX12 tyX12_ok nmX12 hown hK hS o_c_1 (AF.of k_h0) rfl 10 (by decide) (hG _ mw_1294) rfl (by decide +kernel) rfl rfl (Nat.le_of_ble_eq_true rfl) dX12_fault_9 (fun H locs o_c_1 hz oq hS => ?_)
    obtain ⟨G_8, eG_8⟩ : ∃ z : Gh, z = gset G 110 a0 := ⟨_, rfl⟩
    have hH : HT g Ty G_8 H := by rw [eG_8]; exact HT.putN 110 a0 hH k_h0 ⟨rfl, t_2, hk_3⟩ o_c_1 oq (Or.inr (Or.inr (Or.inr (Or.inr (Or.inr ⟨by decide, t_2⟩)))))
    have u_9 : G_8.1 110 = a0 := by rw [eG_8]; exact gs_eq
    clear oq hz
    exact W.vret hx hb hr (fun t ht hWm => ⟨⟨(Ty, G_8), rfl, ⟨rfl, Or.inl ⟨fine1 hx_4.2 c_5, eG_8⟩⟩, by show HT g Ty G_8 t.heap; rw [ht]; exact hH⟩, hS.F ht⟩) hS.2.2 dX12_fault_12
