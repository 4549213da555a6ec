set_option maxHeartbeats 4000000 in
set_option maxRecDepth 100000 in
theorem c_X7_clear (l : Launch) (g : Gx) (Ty : TyM) (G : Gh) (sz : Nat) (h0 : Nat) (k_h0 : Ty h0 = some (17, 0)) (hD1 : LD1 g) : Met l yX7_clear (wsG yX7_clear cX7_clear 1 none) ({ frames := 0, cells := 0, slots := 0, locals := 0 }) (PcT g Ty G sz [.ref h0]) (QwV g Ty sz (fun u => u.1 = Ty ∧ FR [27] [] [] G u.2)) 0 0 (AF Ty sz) := by
  refine Met.ofW (cc := cX7_clear) (maxL := 1) (ret := none) (by decide) rfl ?_
  intro p e s m args below meth c s₁ B hml hv
  obtain ⟨rfl, hsz, hK, hH⟩ := hv
  subst hsz
  have hx := B.exec
  have hb := B.bytes
  have hr := B.returns
  have hts := atoms_spec (ws := (wsG yX7_clear cX7_clear 1 none)) B.pre
  have hG : ∀ w ∈ GW, w.before ([.ref h0] : List Value).toArray s = true := fun w h => hts w (List.mem_cons_of_mem _ h)
  have hown : s.vm.findClass RX7 = some m.cls := findClass_of_methodNamed B.named
  have hlocks := B.notSynchronized
  have hl := lv_entry [.ref h0] (n := 1) (Nat.le_of_ble_eq_true rfl)
  rw [lg_entry_eq]
  generalize (lg_sl [.ref h0] ++ List.replicate (1 - (lg_sl [.ref h0]).length) Slot.unset).toArray = ls at hl ⊢
  have hl : lv_has ls 1 [(0, .ref h0)] := hl
  have hS : va_S (AF Ty s.heap.size) s.heap s.heap [] := va_S.rf
  refine lv_aload_n hx hb dX7_clear_0 rfl (lv_at hl 0 rfl) ?_
  refine lv_iconst (v := 0) hx hb dX7_clear_1 (by decide) ?_
  obtain ⟨_, ⟨q_2, rfl, kq_2, rq_3, t_4⟩, o_c_1⟩ := hH h0 _ k_h0
  refine hg_put (ty := .int) hx hb hG igX7 tyX7 tyX7_ok nmX7 hown hK hS o_c_1 (AF.of k_h0) rfl 1 (by decide) (hG _ mw_188) rfl (by decide +kernel) rfl rfl (Nat.le_of_ble_eq_true rfl) dX7_clear_2 (fun H locs o_c_1 hz oq hS => ?_)
  obtain ⟨G_5, eG_5⟩ : ∃ z : Gh, z = gset G 27 0 := ⟨_, rfl⟩
  have hH : HT g Ty G_5 H := by rw [eG_5]; exact HT.putM 27 0 hH k_h0 ⟨q_2, rfl, kq_2, (rgu (rg_w rl_0 (by decide) (by decide))), t_4⟩ o_c_1 oq (⟨⟨by decide, by decide⟩, t_4⟩)
  have fr_6 : FR [27] [] [] G G_5 := FR.n FR.rf eG_5 (by decide)
  have u_7 : G_5.1 27 = 0 := by rw [eG_5]; exact gs_eq
  clear oq hz
  exact W.vret hx hb hr (fun t ht hWm => ⟨⟨(Ty, G_5), rfl, ⟨rfl, fr_6⟩, by show HT g Ty G_5 t.heap; rw [ht]; exact hH⟩, hS.F ht⟩) hS.2.2 dX7_clear_5

set_option maxHeartbeats 4000000 in
set_option maxRecDepth 100000 in
theorem c_X7_add (l : Launch) (g : Gx) (Ty : TyM) (G : Gh) (sz : Nat) (h0 : Nat) (j0 : Int64) (k_h0 : Ty h0 = some (17, 0)) (hD1 : LD1 g) : Met l yX7_add (wsG yX7_add cX7_add 3 none) ({ frames := 0, cells := 0, slots := 0, locals := 0 }) (PcT g Ty G sz [.ref h0, .long j0]) (QwV g Ty sz (fun u => u.1 = Ty ∧ FR [27] [] [] G u.2)) 0 0 (AF Ty sz) := by
  refine Met.ofW (cc := cX7_add) (maxL := 3) (ret := none) (by decide) rfl ?_
  intro p e s m args below meth c s₁ B hml hv
  obtain ⟨rfl, hsz, hK, hH⟩ := hv
  subst hsz
  have hx := B.exec
  have hb := B.bytes
  have hr := B.returns
  have hts := atoms_spec (ws := (wsG yX7_add cX7_add 3 none)) B.pre
  have hG : ∀ w ∈ GW, w.before ([.ref h0, .long j0] : List Value).toArray s = true := fun w h => hts w (List.mem_cons_of_mem _ h)
  have hown : s.vm.findClass RX7 = some m.cls := findClass_of_methodNamed B.named
  have hlocks := B.notSynchronized
  have hl := lv_entry [.ref h0, .long j0] (n := 3) (Nat.le_of_ble_eq_true rfl)
  rw [lg_entry_eq]
  generalize (lg_sl [.ref h0, .long j0] ++ List.replicate (3 - (lg_sl [.ref h0, .long j0]).length) Slot.unset).toArray = ls at hl ⊢
  have hl : lv_has ls 3 [(0, .ref h0), (1, .long j0)] := hl
  have hS : va_S (AF Ty s.heap.size) s.heap s.heap [] := va_S.rf
  refine lv_aload_n hx hb dX7_add_0 rfl (lv_at hl 0 rfl) ?_
  obtain ⟨_, ⟨q_2, rfl, kq_2, rq_3, t_4⟩, o_c_1⟩ := hH h0 _ k_h0
  refine hg_get hx hb hG igX7 hown hK o_c_1 rfl 1 (by decide) (hG _ mw_188) rfl dX7_add_1 ?_
  refine lv_bipush (v := 24) hx hb dX7_add_4 (by decide) ?_
  refine lv_icmp_ge (tgt := 29) hx hb dX7_add_6 (by decide) (fun c_5 => ?_) (fun c_5 => ?_)
  · have r_6 : rgI (24) (24) (G.1 27) := rg_w (rg_leR rl_24 rq_3 c_5) (by decide) (by decide)
    exact W.vret hx hb hr (fun t ht hWm => ⟨⟨(Ty, G), rfl, ⟨rfl, FR.rf⟩, by show HT g Ty G t.heap; rw [ht]; exact hH⟩, hS.F ht⟩) hS.2.2 dX7_add_29
  · have r_7 : rgI (0) (23) (G.1 27) := rg_w (rg_ltL rq_3 rl_24 (nle_lt c_5)) (by decide) (by decide)
    refine lv_aload_n hx hb dX7_add_9 rfl (lv_at hl 0 rfl) ?_
    refine hg_get hx hb hG igX7 hown hK o_c_1 rfl 0 (by decide) (hG _ mw_187) rfl dX7_add_10 ?_
    refine lv_aload_n hx hb dX7_add_13 rfl (lv_at hl 0 rfl) ?_
    refine hg_get hx hb hG igX7 hown hK o_c_1 rfl 1 (by decide) (hG _ mw_188) rfl dX7_add_14 ?_
    refine lv_lload_n hx hb dX7_add_17 rfl (lv_at hl 1 rfl) ?_
    obtain ⟨_, ⟨f_9, rfl⟩, o_c_8⟩ := hH q_2 _ kq_2
    refine hg_last hx hb hK hS o_c_8 (AF.of kq_2) (rg_in (n := 24) r_7 (by decide) (by decide)) dX7_add_18 (fun H locs o_c_8 hz oq hS => ?_)
    generalize hff_10 : vp_updL f_9 _ j0 = f_10 at o_c_8
    have hH : HT g Ty G H := hH.put kq_2 ⟨_, rfl⟩ o_c_8 oq
    have o_c_1 := o_c_1.kept (oq _ (ne_kd k_h0 kq_2 (by decide)))
    clear oq hz
    refine lv_aload_n hx hb dX7_add_19 rfl (lv_at hl 0 rfl) ?_
    refine lv_dup hx hb dX7_add_20 rfl ?_
    refine hg_get hx hb hG igX7 hown hK o_c_1 rfl 1 (by decide) (hG _ mw_188) rfl dX7_add_21 ?_
    refine lv_iconst (v := 1) hx hb dX7_add_24 (by decide) ?_
    refine lv_iadd hx hb dX7_add_25 ?_
    refine lv_topi (fun x_11 ex_11 => ?_)
    have rx_11 : rgI (1) (24) x_11 := by rw [ex_11]; exact rg_w (rg_add r_7 rl_1 (by decide) (by decide)) (by decide) (by decide)
    have qx_11 : x_11.toInt = ((G.1 27) : Int32).toInt + 1 := by rw [ex_11]; exact rg_addE r_7 rl_1 (by decide) (by decide)
    refine hg_put (ty := .int) hx hb hG igX7 tyX7 tyX7_ok nmX7 hown hK hS o_c_1 (AF.of k_h0) rfl 1 (by decide) (hG _ mw_188) rfl (by decide +kernel) rfl rfl (Nat.le_of_ble_eq_true rfl) dX7_add_26 (fun H locs o_c_1 hz oq hS => ?_)
    obtain ⟨G_12, eG_12⟩ : ∃ z : Gh, z = gset G 27 x_11 := ⟨_, rfl⟩
    have hH : HT g Ty G_12 H := by rw [eG_12]; exact HT.putM 27 x_11 hH k_h0 ⟨q_2, rfl, kq_2, (rgu (rg_w rx_11 (by decide) (by decide))), t_4⟩ o_c_1 oq (⟨⟨by decide, by decide⟩, t_4⟩)
    have fr_13 : FR [27] [] [] G G_12 := FR.n FR.rf eG_12 (by decide)
    have u_14 : G_12.1 27 = x_11 := by rw [eG_12]; exact gs_eq
    clear oq hz
    exact W.vret hx hb hr (fun t ht hWm => ⟨⟨(Ty, G_12), rfl, ⟨rfl, fr_13⟩, by show HT g Ty G_12 t.heap; rw [ht]; exact hH⟩, hS.F ht⟩) hS.2.2 dX7_add_29

set_option maxHeartbeats 4000000 in
set_option maxRecDepth 100000 in
theorem c_X7_drop (l : Launch) (g : Gx) (Ty : TyM) (G : Gh) (sz : Nat) (h0 : Nat) (k_h0 : Ty h0 = some (17, 0)) (hD1 : LD1 g) : Met l yX7_drop (wsG yX7_drop cX7_drop 1 none) ({ frames := 0, cells := 0, slots := 0, locals := 0 }) (PcT g Ty G sz [.ref h0]) (QwV g Ty sz (fun u => u.1 = Ty ∧ FR [27] [] [] G u.2)) 0 0 (AF Ty sz) := by
  refine Met.ofW (cc := cX7_drop) (maxL := 1) (ret := none) (by decide) rfl ?_
  intro p e s m args below meth c s₁ B hml hv
  obtain ⟨rfl, hsz, hK, hH⟩ := hv
  subst hsz
  have hx := B.exec
  have hb := B.bytes
  have hr := B.returns
  have hts := atoms_spec (ws := (wsG yX7_drop cX7_drop 1 none)) B.pre
  have hG : ∀ w ∈ GW, w.before ([.ref h0] : List Value).toArray s = true := fun w h => hts w (List.mem_cons_of_mem _ h)
  have hown : s.vm.findClass RX7 = some m.cls := findClass_of_methodNamed B.named
  have hlocks := B.notSynchronized
  have hl := lv_entry [.ref h0] (n := 1) (Nat.le_of_ble_eq_true rfl)
  rw [lg_entry_eq]
  generalize (lg_sl [.ref h0] ++ List.replicate (1 - (lg_sl [.ref h0]).length) Slot.unset).toArray = ls at hl ⊢
  have hl : lv_has ls 1 [(0, .ref h0)] := hl
  have hS : va_S (AF Ty s.heap.size) s.heap s.heap [] := va_S.rf
  refine lv_aload_n hx hb dX7_drop_0 rfl (lv_at hl 0 rfl) ?_
  obtain ⟨_, ⟨q_2, rfl, kq_2, rq_3, t_4⟩, o_c_1⟩ := hH h0 _ k_h0
  refine hg_get hx hb hG igX7 hown hK o_c_1 rfl 1 (by decide) (hG _ mw_188) rfl dX7_drop_1 ?_
  refine lv_if_le (tgt := 17) hx hb dX7_drop_4 (by decide) (fun c_5 => ?_) (fun c_5 => ?_)
  · have r_6 : rgI (0) (0) (G.1 27) := rg_w (rg_leL rq_3 rl_0 c_5) (by decide) (by decide)
    exact W.vret hx hb hr (fun t ht hWm => ⟨⟨(Ty, G), rfl, ⟨rfl, FR.rf⟩, by show HT g Ty G t.heap; rw [ht]; exact hH⟩, hS.F ht⟩) hS.2.2 dX7_drop_17
  · have r_7 : rgI (1) (24) (G.1 27) := rg_w (rg_ltR rl_0 rq_3 (nle_lt c_5)) (by decide) (by decide)
    refine lv_aload_n hx hb dX7_drop_7 rfl (lv_at hl 0 rfl) ?_
    refine lv_dup hx hb dX7_drop_8 rfl ?_
    refine hg_get hx hb hG igX7 hown hK o_c_1 rfl 1 (by decide) (hG _ mw_188) rfl dX7_drop_9 ?_
    refine lv_iconst (v := 1) hx hb dX7_drop_12 (by decide) ?_
    refine lv_isub hx hb dX7_drop_13 ?_
    refine lv_topi (fun x_8 ex_8 => ?_)
    have rx_8 : rgI (0) (23) x_8 := by rw [ex_8]; exact rg_w (rg_sub r_7 rl_1 (by decide) (by decide)) (by decide) (by decide)
    refine hg_put (ty := .int) hx hb hG igX7 tyX7 tyX7_ok nmX7 hown hK hS o_c_1 (AF.of k_h0) rfl 1 (by decide) (hG _ mw_188) rfl (by decide +kernel) rfl rfl (Nat.le_of_ble_eq_true rfl) dX7_drop_14 (fun H locs o_c_1 hz oq hS => ?_)
    obtain ⟨G_9, eG_9⟩ : ∃ z : Gh, z = gset G 27 x_8 := ⟨_, rfl⟩
    have hH : HT g Ty G_9 H := by rw [eG_9]; exact HT.putM 27 x_8 hH k_h0 ⟨q_2, rfl, kq_2, (rgu (rg_w rx_8 (by decide) (by decide))), t_4⟩ o_c_1 oq (⟨⟨by decide, by decide⟩, t_4⟩)
    have fr_10 : FR [27] [] [] G G_9 := FR.n FR.rf eG_9 (by decide)
    have u_11 : G_9.1 27 = x_8 := by rw [eG_9]; exact gs_eq
    clear oq hz
    exact W.vret hx hb hr (fun t ht hWm => ⟨⟨(Ty, G_9), rfl, ⟨rfl, fr_10⟩, by show HT g Ty G_9 t.heap; rw [ht]; exact hH⟩, hS.F ht⟩) hS.2.2 dX7_drop_17

set_option maxHeartbeats 4000000 in
set_option maxRecDepth 100000 in
theorem c_X7_tell (l : Launch) (g : Gx) (Ty : TyM) (G : Gh) (sz : Nat) (h0 : Nat) (j0 : Int64) (k_h0 : Ty h0 = some (17, 0)) (hD1 : LD1 g) : Met l yX7_tell (wsG yX7_tell cX7_tell 3 none) ({ frames := 1, cells := 0, slots := 0, locals := 22 }) (PcT g Ty G sz [.ref h0, .long j0]) (QwV g Ty sz (fun u => u.1 = Ty ∧ FR [27] [] [] G u.2)) 0 0 (AF Ty sz) := by
  refine Met.ofW (cc := cX7_tell) (maxL := 3) (ret := none) (by decide) rfl ?_
  intro p e s m args below meth c s₁ B hml hv
  obtain ⟨rfl, hsz, hK, hH⟩ := hv
  subst hsz
  have hx := B.exec
  have hb := B.bytes
  have hr := B.returns
  have hts := atoms_spec (ws := (wsG yX7_tell cX7_tell 3 none)) B.pre
  have hG : ∀ w ∈ GW, w.before ([.ref h0, .long j0] : List Value).toArray s = true := fun w h => hts w (List.mem_cons_of_mem _ h)
  have hown : s.vm.findClass RX7 = some m.cls := findClass_of_methodNamed B.named
  have hlocks := B.notSynchronized
  have hl := lv_entry [.ref h0, .long j0] (n := 3) (Nat.le_of_ble_eq_true rfl)
  rw [lg_entry_eq]
  generalize (lg_sl [.ref h0, .long j0] ++ List.replicate (3 - (lg_sl [.ref h0, .long j0]).length) Slot.unset).toArray = ls at hl ⊢
  have hl : lv_has ls 3 [(0, .ref h0), (1, .long j0)] := hl
  have hS : va_S (AF Ty s.heap.size) s.heap s.heap [] := va_S.rf
  refine lv_aload_n hx hb dX7_tell_0 rfl (lv_at hl 0 rfl) ?_
  obtain ⟨_, ⟨q_2, rfl, kq_2, rq_3, t_4⟩, o_c_1⟩ := hH h0 _ k_h0
  refine va_callv (va_runV (As := []) (rest := []) ⟨hx, hb, hml, hown, hts⟩ (c_X7_clear l g Ty G s.heap.size h0 k_h0 hD1) (cwV 0 hts (gwV mw_587 mw_588 mw_589 mw_80 mw_590) rfl rfl rfl hv_X7_clear ⟨Nat.le_of_ble_eq_true rfl, Nat.le_of_ble_eq_true rfl⟩) ⟨PcT_blind, hg_recv hK o_c_1 rfl, PcT_pre hK hH⟩ rfl rfl hl.1 rfl (lv_room (Nat.le_of_ble_eq_true rfl)) dX7_tell_1 ⟨Nat.zero_le _, Nat.zero_le _⟩) hS (fun q _ h => AF.mono hS.1 h) (fun q h => AF.mono hS.1 h) (fun ux_5 t H locs ht hvm hx_5 hB hz hk hS => ?_)
  obtain ⟨eTx_5, eGx_5⟩ := hx_5
  obtain ⟨G_6, eG_6⟩ : ∃ z, z = ux_5.2 := ⟨_, rfl⟩
  rw [← eG_6] at eGx_5
  have fr_7 : FR [27] [] [] G G_6 := FR.tr FR.rf eGx_5 (by decide) (fun _ _ => trivial) (by decide)
  have hH : HT g Ty G_6 H := by rw [← ht, ← eTx_5, eG_6]; exact hB
  refine lv_aload_n hx hb dX7_tell_4 rfl (lv_at hl 0 rfl) ?_
  refine lv_lload_n hx hb dX7_tell_5 rfl (lv_at hl 1 rfl) ?_
  obtain ⟨_, ⟨q_9, rfl, kq_9, rq_10, t_11⟩, o_c_8⟩ := hH h0 _ k_h0
  refine va_callv (va_runV (As := [.long j0]) (rest := []) ⟨hx, hb, hml, hown, hts⟩ (c_X7_add l g Ty G_6 H.size h0 j0 k_h0 hD1) (cwV 1 hts (gwV mw_591 mw_592 mw_593 mw_80 mw_594) rfl rfl rfl hv_X7_add ⟨Nat.le_of_ble_eq_true rfl, Nat.le_of_ble_eq_true rfl⟩) ⟨PcT_blind, hg_recv hK o_c_8 rfl, PcT_pre hK hH⟩ rfl rfl hl.1 rfl (lv_room (Nat.le_of_ble_eq_true rfl)) dX7_tell_6 ⟨Nat.zero_le _, Nat.zero_le _⟩) hS (fun q _ h => AF.mono hS.1 h) (fun q h => AF.mono hS.1 h) (fun ux_12 t H locs ht hvm hx_12 hB hz hk hS => ?_)
  obtain ⟨eTx_12, eGx_12⟩ := hx_12
  obtain ⟨G_13, eG_13⟩ : ∃ z, z = ux_12.2 := ⟨_, rfl⟩
  rw [← eG_13] at eGx_12
  have fr_14 : FR [27] [] [] G G_13 := FR.tr fr_7 eGx_12 (by decide) (fun _ _ => trivial) (by decide)
  have hH : HT g Ty G_13 H := by rw [← ht, ← eTx_12, eG_13]; exact hB
  exact W.vret hx hb hr (fun t ht hWm => ⟨⟨(Ty, G_13), rfl, ⟨rfl, fr_14⟩, by show HT g Ty G_13 t.heap; rw [ht]; exact hH⟩, hS.F ht⟩) hS.2.2 dX7_tell_9

set_option maxHeartbeats 4000000 in
set_option maxRecDepth 100000 in
theorem c_X7_tellTwo (l : Launch) (g : Gx) (Ty : TyM) (G : Gh) (sz : Nat) (h0 : Nat) (j0 : Int64) (j1 : Int64) (k_h0 : Ty h0 = some (17, 0)) (hD1 : LD1 g) : Met l yX7_tellTwo (wsG yX7_tellTwo cX7_tellTwo 5 none) ({ frames := 1, cells := 0, slots := 0, locals := 22 }) (PcT g Ty G sz [.ref h0, .long j0, .long j1]) (QwV g Ty sz (fun u => u.1 = Ty ∧ FR [27] [] [] G u.2)) 0 0 (AF Ty sz) := by
  refine Met.ofW (cc := cX7_tellTwo) (maxL := 5) (ret := none) (by decide) rfl ?_
  intro p e s m args below meth c s₁ B hml hv
  obtain ⟨rfl, hsz, hK, hH⟩ := hv
  subst hsz
  have hx := B.exec
  have hb := B.bytes
  have hr := B.returns
  have hts := atoms_spec (ws := (wsG yX7_tellTwo cX7_tellTwo 5 none)) B.pre
  have hG : ∀ w ∈ GW, w.before ([.ref h0, .long j0, .long j1] : List Value).toArray s = true := fun w h => hts w (List.mem_cons_of_mem _ h)
  have hown : s.vm.findClass RX7 = some m.cls := findClass_of_methodNamed B.named
  have hlocks := B.notSynchronized
  have hl := lv_entry [.ref h0, .long j0, .long j1] (n := 5) (Nat.le_of_ble_eq_true rfl)
  rw [lg_entry_eq]
  generalize (lg_sl [.ref h0, .long j0, .long j1] ++ List.replicate (5 - (lg_sl [.ref h0, .long j0, .long j1]).length) Slot.unset).toArray = ls at hl ⊢
  have hl : lv_has ls 5 [(0, .ref h0), (1, .long j0), (3, .long j1)] := hl
  have hS : va_S (AF Ty s.heap.size) s.heap s.heap [] := va_S.rf
  refine lv_aload_n hx hb dX7_tellTwo_0 rfl (lv_at hl 0 rfl) ?_
  obtain ⟨_, ⟨q_2, rfl, kq_2, rq_3, t_4⟩, o_c_1⟩ := hH h0 _ k_h0
  refine va_callv (va_runV (As := []) (rest := []) ⟨hx, hb, hml, hown, hts⟩ (c_X7_clear l g Ty G s.heap.size h0 k_h0 hD1) (cwV 0 hts (gwV mw_587 mw_588 mw_589 mw_80 mw_590) rfl rfl rfl hv_X7_clear ⟨Nat.le_of_ble_eq_true rfl, Nat.le_of_ble_eq_true rfl⟩) ⟨PcT_blind, hg_recv hK o_c_1 rfl, PcT_pre hK hH⟩ rfl rfl hl.1 rfl (lv_room (Nat.le_of_ble_eq_true rfl)) dX7_tellTwo_1 ⟨Nat.zero_le _, Nat.zero_le _⟩) hS (fun q _ h => AF.mono hS.1 h) (fun q h => AF.mono hS.1 h) (fun ux_5 t H locs ht hvm hx_5 hB hz hk hS => ?_)
  obtain ⟨eTx_5, eGx_5⟩ := hx_5
  obtain ⟨G_6, eG_6⟩ : ∃ z, z = ux_5.2 := ⟨_, rfl⟩
  rw [← eG_6] at eGx_5
  have fr_7 : FR [27] [] [] G G_6 := FR.tr FR.rf eGx_5 (by decide) (fun _ _ => trivial) (by decide)
  have hH : HT g Ty G_6 H := by rw [← ht, ← eTx_5, eG_6]; exact hB
  refine lv_aload_n hx hb dX7_tellTwo_4 rfl (lv_at hl 0 rfl) ?_
  refine lv_lload_n hx hb dX7_tellTwo_5 rfl (lv_at hl 1 rfl) ?_
  obtain ⟨_, ⟨q_9, rfl, kq_9, rq_10, t_11⟩, o_c_8⟩ := hH h0 _ k_h0
  refine va_callv (va_runV (As := [.long j0]) (rest := []) ⟨hx, hb, hml, hown, hts⟩ (c_X7_add l g Ty G_6 H.size h0 j0 k_h0 hD1) (cwV 1 hts (gwV mw_591 mw_592 mw_593 mw_80 mw_594) rfl rfl rfl hv_X7_add ⟨Nat.le_of_ble_eq_true rfl, Nat.le_of_ble_eq_true rfl⟩) ⟨PcT_blind, hg_recv hK o_c_8 rfl, PcT_pre hK hH⟩ rfl rfl hl.1 rfl (lv_room (Nat.le_of_ble_eq_true rfl)) dX7_tellTwo_6 ⟨Nat.zero_le _, Nat.zero_le _⟩) hS (fun q _ h => AF.mono hS.1 h) (fun q h => AF.mono hS.1 h) (fun ux_12 t H locs ht hvm hx_12 hB hz hk hS => ?_)
  obtain ⟨eTx_12, eGx_12⟩ := hx_12
  obtain ⟨G_13, eG_13⟩ : ∃ z, z = ux_12.2 := ⟨_, rfl⟩
  rw [← eG_13] at eGx_12
  have fr_14 : FR [27] [] [] G G_13 := FR.tr fr_7 eGx_12 (by decide) (fun _ _ => trivial) (by decide)
  have hH : HT g Ty G_13 H := by rw [← ht, ← eTx_12, eG_13]; exact hB
  refine lv_aload_n hx hb dX7_tellTwo_9 rfl (lv_at hl 0 rfl) ?_
  refine lv_lload_n hx hb dX7_tellTwo_10 rfl (lv_at hl 2 rfl) ?_
  obtain ⟨_, ⟨q_16, rfl, kq_16, rq_17, t_18⟩, o_c_15⟩ := hH h0 _ k_h0
  refine va_callv (va_runV (As := [.long j1]) (rest := []) ⟨hx, hb, hml, hown, hts⟩ (c_X7_add l g Ty G_13 H.size h0 j1 k_h0 hD1) (cwV 1 hts (gwV mw_591 mw_592 mw_593 mw_80 mw_594) rfl rfl rfl hv_X7_add ⟨Nat.le_of_ble_eq_true rfl, Nat.le_of_ble_eq_true rfl⟩) ⟨PcT_blind, hg_recv hK o_c_15 rfl, PcT_pre hK hH⟩ rfl rfl hl.1 rfl (lv_room (Nat.le_of_ble_eq_true rfl)) dX7_tellTwo_11 ⟨Nat.zero_le _, Nat.zero_le _⟩) hS (fun q _ h => AF.mono hS.1 h) (fun q h => AF.mono hS.1 h) (fun ux_19 t H locs ht hvm hx_19 hB hz hk hS => ?_)
  obtain ⟨eTx_19, eGx_19⟩ := hx_19
  obtain ⟨G_20, eG_20⟩ : ∃ z, z = ux_19.2 := ⟨_, rfl⟩
  rw [← eG_20] at eGx_19
  have fr_21 : FR [27] [] [] G G_20 := FR.tr fr_14 eGx_19 (by decide) (fun _ _ => trivial) (by decide)
  have hH : HT g Ty G_20 H := by rw [← ht, ← eTx_19, eG_20]; exact hB
  exact W.vret hx hb hr (fun t ht hWm => ⟨⟨(Ty, G_20), rfl, ⟨rfl, fr_21⟩, by show HT g Ty G_20 t.heap; rw [ht]; exact hH⟩, hS.F ht⟩) hS.2.2 dX7_tellTwo_14

set_option maxHeartbeats 4000000 in
set_option maxRecDepth 100000 in
theorem c_X7_numberAt (l : Launch) (g : Gx) (Ty : TyM) (G : Gh) (h0 : Nat) (a0 : Int32) (k_h0 : Ty h0 = some (17, 0)) : Met l yX7_numberAt (wsG yX7_numberAt cX7_numberAt 2 (some .long)) ({ frames := 0, cells := 0, slots := 0, locals := 0 }) (PcH g Ty G [.ref h0, .int a0]) (vp_Sl (fun r => True)) 0 0 (fun _ => False) := by
  refine Met.ofW (cc := cX7_numberAt) (maxL := 2) (ret := (some .long)) (by decide) rfl ?_
  intro p e s m args below meth c s₁ B hml hv
  obtain ⟨rfl, hK, hH⟩ := hv
  have hx := B.exec
  have hb := B.bytes
  have hr := B.returns
  have hts := atoms_spec (ws := (wsG yX7_numberAt cX7_numberAt 2 (some .long))) B.pre
  have hG : ∀ w ∈ GW, w.before ([.ref h0, .int a0] : List Value).toArray s = true := fun w h => hts w (List.mem_cons_of_mem _ h)
  have hown : s.vm.findClass RX7 = some m.cls := findClass_of_methodNamed B.named
  have hlocks := B.notSynchronized
  have hl := lv_entry [.ref h0, .int a0] (n := 2) (Nat.le_of_ble_eq_true rfl)
  rw [lg_entry_eq]
  generalize (lg_sl [.ref h0, .int a0] ++ List.replicate (2 - (lg_sl [.ref h0, .int a0]).length) Slot.unset).toArray = ls at hl ⊢
  have hl : lv_has ls 2 [(0, .ref h0), (1, .int a0)] := hl
  have L_21 : ∀ (ls : Array Slot), lv_has ls 2 [] → Wm p l e (wsG yX7_numberAt cX7_numberAt 2 (some .long)) ({ frames := 0, cells := 0, slots := 0, locals := 0 }) s m [.ref h0, .int a0] below meth c s.heap [] (0) (0) (vp_Sl (fun r => True)) 0 0 (fun _ => False) (F0 m 21 ls []) := by
    intro ls hl
    refine lv_lconst (v := 0) hx hb dX7_numberAt_21 (by decide) ?_
    exact W.lret hx hb hr (fun t ht hW => ⟨0, rfl, trivial, ht⟩) (fun q h => by cases h) dX7_numberAt_22
  refine lv_iload_n hx hb dX7_numberAt_0 rfl (lv_at hl 1 rfl) ?_
  refine lv_if_lt (tgt := 21) hx hb dX7_numberAt_1 (by decide) (fun c_1 => ?_) (fun c_1 => ?_)
  · have r_2 : rgI (-2147483648) (-1) a0 := rg_w (rg_ltL (rg_top a0) rl_0 c_1) (by decide) (by decide)
    exact L_21  ls (lv_sub hl [] rfl)
  · have r_3 : rgI (0) (2147483647) a0 := rg_w (rg_leR rl_0 (rg_top a0) (nlt_le c_1)) (by decide) (by decide)
    refine lv_iload_n hx hb dX7_numberAt_4 rfl (lv_at hl 1 rfl) ?_
    refine lv_aload_n hx hb dX7_numberAt_5 rfl (lv_at hl 0 rfl) ?_
    obtain ⟨_, ⟨q_5, rfl, kq_5, rq_6, t_7⟩, o_c_4⟩ := hH h0 _ k_h0
    refine hg_get hx hb hG igX7 hown hK o_c_4 rfl 1 (by decide) (hG _ mw_188) rfl dX7_numberAt_6 ?_
    refine lv_icmp_ge (tgt := 21) hx hb dX7_numberAt_9 (by decide) (fun c_8 => ?_) (fun c_8 => ?_)
    · exact L_21  ls (lv_sub hl [] rfl)
    · have r_9 : rgI (0) (23) a0 := rg_w (rg_ltL r_3 rq_6 (nle_lt c_8)) (by decide) (by decide)
      have r_10 : rgI (1) (24) (G.1 27) := rg_w (rg_ltR r_3 rq_6 (nle_lt c_8)) (by decide) (by decide)
      refine lv_aload_n hx hb dX7_numberAt_12 rfl (lv_at hl 0 rfl) ?_
      refine hg_get hx hb hG igX7 hown hK o_c_4 rfl 0 (by decide) (hG _ mw_187) rfl dX7_numberAt_13 ?_
      refine lv_iload_n hx hb dX7_numberAt_16 rfl (lv_at hl 1 rfl) ?_
      obtain ⟨_, ⟨f_12, rfl⟩, o_c_11⟩ := hH q_5 _ kq_5
      refine hg_lald hx hb hK o_c_11 (rg_in (n := 24) r_9 (by decide) (by decide)) dX7_numberAt_17 ?_
      refine lv_topl (fun u_13 eu_13 => ?_)
      refine lv_goto (tgt := 22) hx hb dX7_numberAt_18 (by decide) ?_
      exact W.lret hx hb hr (fun t ht hW => ⟨u_13, rfl, trivial, ht⟩) (fun q h => by cases h) dX7_numberAt_22

set_option maxHeartbeats 4000000 in
set_option maxRecDepth 100000 in
theorem c_X7_turn (l : Launch) (g : Gx) (Ty : TyM) (G : Gh) (sz : Nat) (h0 : Nat) (k_h0 : Ty h0 = some (17, 0)) : Met l yX7_turn (wsG yX7_turn cX7_turn 4 none) ({ frames := 0, cells := 0, slots := 0, locals := 0 }) (PcT g Ty G sz [.ref h0]) (QwV g Ty sz (fun u => u = (Ty, G))) 0 0 (AF Ty sz) := by
  refine Met.ofW (cc := cX7_turn) (maxL := 4) (ret := none) (by decide) rfl ?_
  intro p e s m args below meth c s₁ B hml hv
  obtain ⟨rfl, hsz, hK, hH⟩ := hv
  subst hsz
  have hx := B.exec
  have hb := B.bytes
  have hr := B.returns
  have hts := atoms_spec (ws := (wsG yX7_turn cX7_turn 4 none)) B.pre
  have hG : ∀ w ∈ GW, w.before ([.ref h0] : List Value).toArray s = true := fun w h => hts w (List.mem_cons_of_mem _ h)
  have hown : s.vm.findClass RX7 = some m.cls := findClass_of_methodNamed B.named
  have hlocks := B.notSynchronized
  have hl := lv_entry [.ref h0] (n := 4) (Nat.le_of_ble_eq_true rfl)
  rw [lg_entry_eq]
  generalize (lg_sl [.ref h0] ++ List.replicate (4 - (lg_sl [.ref h0]).length) Slot.unset).toArray = ls at hl ⊢
  have hl : lv_has ls 4 [(0, .ref h0)] := hl
  have hS : va_S (AF Ty s.heap.size) s.heap s.heap [] := va_S.rf
  have L_2 : ∀ (n : Nat) (H : Heap) (locs : List Loc) (y1_2 : Int32) (ls : Array Slot), rgI (0) (23) y1_2 → (12 - (y1_2).toInt).toNat < n → lv_has ls 4 [(0, .ref h0), (1, .int y1_2)] → HT g Ty G H → va_S (AF Ty s.heap.size) s.heap H locs → Wm p l e (wsG yX7_turn cX7_turn 4 none) ({ frames := 0, cells := 0, slots := 0, locals := 0 }) s m [.ref h0] below meth c H locs (0) (0) (QwV g Ty s.heap.size (fun u => u = (Ty, G))) 0 0 (AF Ty s.heap.size) (F0 m 2 ls []) := by
    intro n
    induction n with
    | zero => intro H locs y1_2 ls ry1_2 hm; exact absurd hm (Nat.not_lt_zero _)
    | succ n ih_2 =>
      intro H locs y1_2 ls ry1_2 hm_2 hl hH hS
      refine lv_iload_n hx hb dX7_turn_2 rfl (lv_at hl 1 rfl) ?_
      refine lv_aload_n hx hb dX7_turn_3 rfl (lv_at hl 0 rfl) ?_
      obtain ⟨_, ⟨q_2, rfl, kq_2, rq_3, t_4⟩, o_c_1⟩ := hH h0 _ k_h0
      refine hg_get hx hb hG igX7 hown hK o_c_1 rfl 1 (by decide) (hG _ mw_188) rfl dX7_turn_4 ?_
      refine lv_iconst (v := 2) hx hb dX7_turn_7 (by decide) ?_
      refine lv_idiv hx hb dX7_turn_8 (by decide) ?_
      refine lv_topi (fun x_5 ex_5 => ?_)
      have rx_5 : rgI (0) (12) x_5 := by rw [ex_5]; exact rg_w (rg_div rq_3 rl_2 (by decide) (by decide)) (by decide) (by decide)
      refine lv_icmp_ge (tgt := 58) hx hb dX7_turn_9 (by decide) (fun c_6 => ?_) (fun c_6 => ?_)
      · exact W.vret hx hb hr (fun t ht hWm => ⟨⟨(Ty, G), rfl, rfl, by show HT g Ty G t.heap; rw [ht]; exact hH⟩, hS.F ht⟩) hS.2.2 dX7_turn_58
      · have r_7 : rgI (0) (11) y1_2 := rg_w (rg_ltL ry1_2 rx_5 (nle_lt c_6)) (by decide) (by decide)
        have r_8 : rgI (1) (12) x_5 := rg_w (rg_ltR ry1_2 rx_5 (nle_lt c_6)) (by decide) (by decide)
        refine lv_aload_n hx hb dX7_turn_12 rfl (lv_at hl 0 rfl) ?_
        refine hg_get hx hb hG igX7 hown hK o_c_1 rfl 0 (by decide) (hG _ mw_187) rfl dX7_turn_13 ?_
        refine lv_iload_n hx hb dX7_turn_16 rfl (lv_at hl 1 rfl) ?_
        obtain ⟨_, ⟨f_10, rfl⟩, o_c_9⟩ := hH q_2 _ kq_2
        refine hg_lald hx hb hK o_c_9 (rg_in (n := 24) r_7 (by decide) (by decide)) dX7_turn_17 ?_
        refine lv_topl (fun u_11 eu_11 => ?_)
        refine lv_lstore_n (lv' := [(2, .long u_11), (0, .ref h0), (1, .int y1_2)]) hx hb dX7_turn_18 rfl hl (by decide) rfl (fun ls hl => ?_)
        refine lv_aload_n hx hb dX7_turn_19 rfl (lv_at hl 1 rfl) ?_
        refine hg_get hx hb hG igX7 hown hK o_c_1 rfl 0 (by decide) (hG _ mw_187) rfl dX7_turn_20 ?_
        refine lv_iload_n hx hb dX7_turn_23 rfl (lv_at hl 2 rfl) ?_
        refine lv_aload_n hx hb dX7_turn_24 rfl (lv_at hl 1 rfl) ?_
        refine hg_get hx hb hG igX7 hown hK o_c_1 rfl 0 (by decide) (hG _ mw_187) rfl dX7_turn_25 ?_
        refine lv_aload_n hx hb dX7_turn_28 rfl (lv_at hl 1 rfl) ?_
        refine hg_get hx hb hG igX7 hown hK o_c_1 rfl 1 (by decide) (hG _ mw_188) rfl dX7_turn_29 ?_
        refine lv_iconst (v := 1) hx hb dX7_turn_32 (by decide) ?_
        refine lv_isub hx hb dX7_turn_33 ?_
        refine lv_topi (fun x_12 ex_12 => ?_)
        have rx_12 : rgI (-1) (23) x_12 := by rw [ex_12]; exact rg_w (rg_sub rq_3 rl_1 (by decide) (by decide)) (by decide) (by decide)
        refine lv_iload_n hx hb dX7_turn_34 rfl (lv_at hl 2 rfl) ?_
        refine lv_isub hx hb dX7_turn_35 ?_
        refine lv_topi (fun x_13 ex_13 => ?_)
        have rx_13 : rgI (-12) (23) x_13 := by rw [ex_13]; exact rg_w (rg_sub rx_12 r_7 (by decide) (by decide)) (by decide) (by decide)
        have in_14 : vp_in x_13 24 := turn_in rq_3 r_7 ex_5 (nle_lt c_6) ex_12 ex_13
        refine hg_lald hx hb hK o_c_9 in_14 dX7_turn_36 ?_
        refine lv_topl (fun u_15 eu_15 => ?_)
        refine hg_last hx hb hK hS o_c_9 (AF.of kq_2) (rg_in (n := 24) r_7 (by decide) (by decide)) dX7_turn_37 (fun H locs o_c_9 hz oq hS => ?_)
        generalize hff_16 : vp_updL f_10 _ u_15 = f_16 at o_c_9
        have hH : HT g Ty G H := hH.put kq_2 ⟨_, rfl⟩ o_c_9 oq
        have o_c_1 := o_c_1.kept (oq _ (ne_kd k_h0 kq_2 (by decide)))
        clear oq hz
        refine lv_aload_n hx hb dX7_turn_38 rfl (lv_at hl 1 rfl) ?_
        refine hg_get hx hb hG igX7 hown hK o_c_1 rfl 0 (by decide) (hG _ mw_187) rfl dX7_turn_39 ?_
        refine lv_aload_n hx hb dX7_turn_42 rfl (lv_at hl 1 rfl) ?_
        refine hg_get hx hb hG igX7 hown hK o_c_1 rfl 1 (by decide) (hG _ mw_188) rfl dX7_turn_43 ?_
        refine lv_iconst (v := 1) hx hb dX7_turn_46 (by decide) ?_
        refine lv_isub hx hb dX7_turn_47 ?_
        refine lv_topi (fun x_17 ex_17 => ?_)
        have rx_17 : rgI (-1) (23) x_17 := by rw [ex_17]; exact rg_w (rg_sub rq_3 rl_1 (by decide) (by decide)) (by decide) (by decide)
        refine lv_iload_n hx hb dX7_turn_48 rfl (lv_at hl 2 rfl) ?_
        refine lv_isub hx hb dX7_turn_49 ?_
        refine lv_topi (fun x_18 ex_18 => ?_)
        have rx_18 : rgI (-12) (23) x_18 := by rw [ex_18]; exact rg_w (rg_sub rx_17 r_7 (by decide) (by decide)) (by decide) (by decide)
        refine lv_lload_n hx hb dX7_turn_50 rfl (lv_at hl 0 rfl) ?_
        have in_19 : vp_in x_18 24 := turn_in rq_3 r_7 ex_5 (nle_lt c_6) ex_17 ex_18
        refine hg_last hx hb hK hS o_c_9 (AF.of kq_2) in_19 dX7_turn_51 (fun H locs o_c_9 hz oq hS => ?_)
        generalize hff_20 : vp_updL f_16 _ u_11 = f_20 at o_c_9
        have hH : HT g Ty G H := hH.put kq_2 ⟨_, rfl⟩ o_c_9 oq
        have o_c_1 := o_c_1.kept (oq _ (ne_kd k_h0 kq_2 (by decide)))
        clear oq hz
        obtain ⟨x_21, ex_21⟩ : ∃ y : Int32, y = y1_2 + 1 := ⟨_, rfl⟩
        have rx_21 : rgI (1) (12) x_21 := by rw [ex_21]; exact rg_w (rg_add r_7 rl_1 (by decide) (by decide)) (by decide) (by decide)
        have qx_21 : x_21.toInt = (y1_2 : Int32).toInt + 1 := by rw [ex_21]; exact rg_addE r_7 rl_1 (by decide) (by decide)
        refine lv_iinc (v := x_21) (lv' := [(1, .int x_21), (2, .long u_11), (0, .ref h0)]) hx hb dX7_turn_52 hl (k := 2) rfl (by rw [ex_21]; rfl) (by decide) rfl (fun ls hl => ?_)
        refine lv_goto (tgt := 2) hx hb dX7_turn_55 (by decide) ?_
        exact ih_2 H locs x_21 ls (rg_w rx_21 (by decide) (by decide)) (by have h1 := qx_21; have h2 := r_7.1; have h3 := r_7.2; have h4 := hm_2; omega) (lv_sub hl [2, 0] rfl) hH hS
  refine lv_iconst (v := 0) hx hb dX7_turn_0 (by decide) ?_
  refine lv_istore_n (lv' := [(1, .int 0), (0, .ref h0)]) hx hb dX7_turn_1 rfl hl (by decide) rfl (fun ls hl => ?_)
  exact L_2 _ s.heap [] 0 ls (rg_w rl_0 (by decide) (by decide)) (Nat.lt_succ_self _) (lv_sub hl [1, 0] rfl) hH hS

def F_X8_letting_z_17 : Nat → Int32 → Int32 → Int32 → Int32 → Int32
  | 0, _, _, _, _ => (0 : Int32)
  | n + 1, y2, y3, y4, yn20 => (0 : Int32)
def F_X8_letting_z (m20 : Int32) (a1 : Int32) : Int32 := m20
set_option maxHeartbeats 4000000 in
set_option maxRecDepth 100000 in
theorem c_X8_letting_z (l : Launch) (g : Gx) (Ty : TyM) (G : Gh) (h0 : Nat) (b0 : Nat) (a1 : Int32) (k_h0 : Ty h0 = some (18, 0)) (k_b0 : Ty b0 = some (24, 0)) (h24 : G.1 24 = 0) : Met l yX8_letting (wsG yX8_letting cX8_letting 5 (some .int)) ({ frames := 3, cells := 0, slots := 0, locals := 68 }) (PcH g Ty G [.ref h0, .ref b0, .int a1]) (vp_Si (fun r => r = F_X8_letting_z (G.1 20) a1)) 0 0 (fun _ => False) := by
  refine Met.ofW (cc := cX8_letting) (maxL := 5) (ret := (some .int)) (by decide) rfl ?_
  intro p e s m args below meth c s₁ B hml hv
  obtain ⟨rfl, hK, hH⟩ := hv
  have hx := B.exec
  have hb := B.bytes
  have hr := B.returns
  have hts := atoms_spec (ws := (wsG yX8_letting cX8_letting 5 (some .int))) B.pre
  have hG : ∀ w ∈ GW, w.before ([.ref h0, .ref b0, .int a1] : List Value).toArray s = true := fun w h => hts w (List.mem_cons_of_mem _ h)
  have hown : s.vm.findClass RX8 = some m.cls := findClass_of_methodNamed B.named
  have hlocks := B.notSynchronized
  have hl := lv_entry [.ref h0, .ref b0, .int a1] (n := 5) (Nat.le_of_ble_eq_true rfl)
  rw [lg_entry_eq]
  generalize (lg_sl [.ref h0, .ref b0, .int a1] ++ List.replicate (5 - (lg_sl [.ref h0, .ref b0, .int a1]).length) Slot.unset).toArray = ls at hl ⊢
  have hl : lv_has ls 5 [(0, .ref h0), (1, .ref b0), (2, .int a1)] := hl
  have hv : (G.1 20) = F_X8_letting_z (G.1 20) a1 := rfl
  refine lv_aload_n hx hb dX8_letting_0 rfl (lv_at hl 0 rfl) ?_
  obtain ⟨_, ⟨q_2, q_4, q_5, q_6, q_7, q_8, q_9, q_10, q_11, rfl, kq_2, kq_4, kq_10, kq_11, rq_3, rq_6, t_12⟩, o_c_1⟩ := hH h0 _ k_h0
  refine hg_get hx hb hG igX8 hown hK o_c_1 rfl 1 (by decide) (hG _ mw_203) rfl dX8_letting_1 ?_
  rw [h24]
  refine lv_if_ne (tgt := 12) hx hb dX8_letting_4 (by decide) (fun c_13 => ?_) (fun c_13 => ?_)
  · exact absurd rfl c_13
  · refine lv_aload_n hx hb dX8_letting_7 rfl (lv_at hl 1 rfl) ?_
    obtain ⟨_, ⟨rfl, kq_15, kq_16, kq_17, t_22⟩, o_c_14⟩ := hH b0 _ k_b0
    refine hg_getN hx hb hG igX10 hown hK o_c_14 rfl 3 (by decide) ((hK.2.1 _ nwf_120).use rfl) rfl dX8_letting_8 ?_
    exact W.iret hx hb hr (fun t ht hW => ⟨(G.1 20), rfl, hv, ht⟩) (fun q h => by cases h) dX8_letting_11
