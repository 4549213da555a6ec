def F_X7_clear_x (m27 : Int32) : Int32 := (0 : Int32)
set_option maxHeartbeats 4000000 in
set_option maxRecDepth 100000 in
theorem c_X7_clear_x (l : Launch) (g : Gx) (Ty : TyM) (G : Gh) (sz : Nat) (h0 : Nat) (k_h0 : Ty h0 = some (17, 0)) (hD1 : LD1 g) : Met l yX7_clear (wsG yX7_clear cX7_clear 1 none) ({ frames := 0, cells := 0, slots := 0, locals := 0 }) (PcT g Ty G sz [.ref h0]) (QwV g Ty sz (fun u => u.1 = Ty ∧ FR [27] [] [] G u.2 ∧ F_X7_clear_x (G.1 27) = (u.2.1 27))) 0 0 (AF Ty sz) := by
  refine Met.ofW (cc := cX7_clear) (maxL := 1) (ret := none) (by decide) rfl ?_
  intro p e s m args below meth c s₁ B hml hv
  obtain ⟨rfl, hsz, hK, hH⟩ := hv
  subst hsz
  have hx := B.exec
  have hb := B.bytes
  have hr := B.returns
  have hts := atoms_spec (ws := (wsG yX7_clear cX7_clear 1 none)) B.pre
  have hG : ∀ w ∈ GW, w.before ([.ref h0] : List Value).toArray s = true := fun w h => hts w (List.mem_cons_of_mem _ h)
  have hown : s.vm.findClass RX7 = some m.cls := findClass_of_methodNamed B.named
  have hlocks := B.notSynchronized
  have hl := lv_entry [.ref h0] (n := 1) (Nat.le_of_ble_eq_true rfl)
  rw [lg_entry_eq]
  generalize (lg_sl [.ref h0] ++ List.replicate (1 - (lg_sl [.ref h0]).length) Slot.unset).toArray = ls at hl ⊢
  have hl : lv_has ls 1 [(0, .ref h0)] := hl
  have hv : (0 : Int32) = F_X7_clear_x (G.1 27) := rfl
  have hS : va_S (AF Ty s.heap.size) s.heap s.heap [] := va_S.rf
  refine lv_aload_n hx hb dX7_clear_0 rfl (lv_at hl 0 rfl) ?_
  refine lv_iconst (v := 0) hx hb dX7_clear_1 (by decide) ?_
  obtain ⟨_, ⟨q_2, rfl, kq_2, rq_3, t_4⟩, o_c_1⟩ := hH h0 _ k_h0
  refine hg_put (ty := .int) hx hb hG igX7 tyX7 tyX7_ok nmX7 hown hK hS o_c_1 (AF.of k_h0) rfl 1 (by decide) (hG _ mw_188) rfl (by decide +kernel) rfl rfl (Nat.le_of_ble_eq_true rfl) dX7_clear_2 (fun H locs o_c_1 hz oq hS => ?_)
  obtain ⟨G_5, eG_5⟩ : ∃ z : Gh, z = gset G 27 0 := ⟨_, rfl⟩
  have hH : HT g Ty G_5 H := by rw [eG_5]; exact HT.putM 27 0 hH k_h0 ⟨q_2, rfl, kq_2, (rgu (rg_w rl_0 (by decide) (by decide))), t_4⟩ o_c_1 oq (⟨⟨by decide, by decide⟩, t_4⟩)
  have fr_6 : FR [27] [] [] G G_5 := FR.n FR.rf eG_5 (by decide)
  have u_7 : G_5.1 27 = 0 := by rw [eG_5]; exact gs_eq
  clear oq hz
  exact W.vret hx hb hr (fun t ht hWm => ⟨⟨(Ty, G_5), rfl, ⟨rfl, ⟨fr_6, hv.symm.trans (by rw [u_7])⟩⟩, by show HT g Ty G_5 t.heap; rw [ht]; exact hH⟩, hS.F ht⟩) hS.2.2 dX7_clear_5

def F_X7_add_x (m27 : Int32) : Int32 := (if (24 : Int32) ≤ m27 then m27 else (m27 + (1 : Int32)))
set_option maxHeartbeats 4000000 in
set_option maxRecDepth 100000 in
theorem c_X7_add_x (l : Launch) (g : Gx) (Ty : TyM) (G : Gh) (sz : Nat) (h0 : Nat) (j0 : Int64) (k_h0 : Ty h0 = some (17, 0)) (hD1 : LD1 g) : Met l yX7_add (wsG yX7_add cX7_add 3 none) ({ frames := 0, cells := 0, slots := 0, locals := 0 }) (PcT g Ty G sz [.ref h0, .long j0]) (QwV g Ty sz (fun u => u.1 = Ty ∧ FR [27] [] [] G u.2 ∧ F_X7_add_x (G.1 27) = (u.2.1 27))) 0 0 (AF Ty sz) := by
  refine Met.ofW (cc := cX7_add) (maxL := 3) (ret := none) (by decide) rfl ?_
  intro p e s m args below meth c s₁ B hml hv
  obtain ⟨rfl, hsz, hK, hH⟩ := hv
  subst hsz
  have hx := B.exec
  have hb := B.bytes
  have hr := B.returns
  have hts := atoms_spec (ws := (wsG yX7_add cX7_add 3 none)) B.pre
  have hG : ∀ w ∈ GW, w.before ([.ref h0, .long j0] : List Value).toArray s = true := fun w h => hts w (List.mem_cons_of_mem _ h)
  have hown : s.vm.findClass RX7 = some m.cls := findClass_of_methodNamed B.named
  have hlocks := B.notSynchronized
  have hl := lv_entry [.ref h0, .long j0] (n := 3) (Nat.le_of_ble_eq_true rfl)
  rw [lg_entry_eq]
  generalize (lg_sl [.ref h0, .long j0] ++ List.replicate (3 - (lg_sl [.ref h0, .long j0]).length) Slot.unset).toArray = ls at hl ⊢
  have hl : lv_has ls 3 [(0, .ref h0), (1, .long j0)] := hl
  have hv : (if (24 : Int32) ≤ (G.1 27) then (G.1 27) else ((G.1 27) + (1 : Int32))) = F_X7_add_x (G.1 27) := rfl
  have hS : va_S (AF Ty s.heap.size) s.heap s.heap [] := va_S.rf
  refine lv_aload_n hx hb dX7_add_0 rfl (lv_at hl 0 rfl) ?_
  obtain ⟨_, ⟨q_2, rfl, kq_2, rq_3, t_4⟩, o_c_1⟩ := hH h0 _ k_h0
  refine hg_get hx hb hG igX7 hown hK o_c_1 rfl 1 (by decide) (hG _ mw_188) rfl dX7_add_1 ?_
  refine lv_bipush (v := 24) hx hb dX7_add_4 (by decide) ?_
  refine lv_icmp_ge (tgt := 29) hx hb dX7_add_6 (by decide) (fun c_5 => ?_) (fun c_5 => ?_)
  · rw [if_pos c_5] at hv
    have r_6 : rgI (24) (24) (G.1 27) := rg_w (rg_leR rl_24 rq_3 c_5) (by decide) (by decide)
    exact W.vret hx hb hr (fun t ht hWm => ⟨⟨(Ty, G), rfl, ⟨rfl, ⟨FR.rf, hv.symm⟩⟩, by show HT g Ty G t.heap; rw [ht]; exact hH⟩, hS.F ht⟩) hS.2.2 dX7_add_29
  · rw [if_neg c_5] at hv
    have r_7 : rgI (0) (23) (G.1 27) := rg_w (rg_ltL rq_3 rl_24 (nle_lt c_5)) (by decide) (by decide)
    refine lv_aload_n hx hb dX7_add_9 rfl (lv_at hl 0 rfl) ?_
    refine hg_get hx hb hG igX7 hown hK o_c_1 rfl 0 (by decide) (hG _ mw_187) rfl dX7_add_10 ?_
    refine lv_aload_n hx hb dX7_add_13 rfl (lv_at hl 0 rfl) ?_
    refine hg_get hx hb hG igX7 hown hK o_c_1 rfl 1 (by decide) (hG _ mw_188) rfl dX7_add_14 ?_
    refine lv_lload_n hx hb dX7_add_17 rfl (lv_at hl 1 rfl) ?_
    obtain ⟨_, ⟨f_9, rfl⟩, o_c_8⟩ := hH q_2 _ kq_2
    refine hg_last hx hb hK hS o_c_8 (AF.of kq_2) (rg_in (n := 24) r_7 (by decide) (by decide)) dX7_add_18 (fun H locs o_c_8 hz oq hS => ?_)
    generalize hff_10 : vp_updL f_9 _ j0 = f_10 at o_c_8
    have hH : HT g Ty G H := hH.put kq_2 ⟨_, rfl⟩ o_c_8 oq
    have o_c_1 := o_c_1.kept (oq _ (ne_kd k_h0 kq_2 (by decide)))
    clear oq hz
    refine lv_aload_n hx hb dX7_add_19 rfl (lv_at hl 0 rfl) ?_
    refine lv_dup hx hb dX7_add_20 rfl ?_
    refine hg_get hx hb hG igX7 hown hK o_c_1 rfl 1 (by decide) (hG _ mw_188) rfl dX7_add_21 ?_
    refine lv_iconst (v := 1) hx hb dX7_add_24 (by decide) ?_
    refine lv_iadd hx hb dX7_add_25 ?_
    refine lv_topi (fun x_11 ex_11 => ?_)
    try rw [← ex_11] at hv
    have rx_11 : rgI (1) (24) x_11 := by rw [ex_11]; exact rg_w (rg_add r_7 rl_1 (by decide) (by decide)) (by decide) (by decide)
    have qx_11 : x_11.toInt = ((G.1 27) : Int32).toInt + 1 := by rw [ex_11]; exact rg_addE r_7 rl_1 (by decide) (by decide)
    refine hg_put (ty := .int) hx hb hG igX7 tyX7 tyX7_ok nmX7 hown hK hS o_c_1 (AF.of k_h0) rfl 1 (by decide) (hG _ mw_188) rfl (by decide +kernel) rfl rfl (Nat.le_of_ble_eq_true rfl) dX7_add_26 (fun H locs o_c_1 hz oq hS => ?_)
    obtain ⟨G_12, eG_12⟩ : ∃ z : Gh, z = gset G 27 x_11 := ⟨_, rfl⟩
    have hH : HT g Ty G_12 H := by rw [eG_12]; exact HT.putM 27 x_11 hH k_h0 ⟨q_2, rfl, kq_2, (rgu (rg_w rx_11 (by decide) (by decide))), t_4⟩ o_c_1 oq (⟨⟨by decide, by decide⟩, t_4⟩)
    have fr_13 : FR [27] [] [] G G_12 := FR.n FR.rf eG_12 (by decide)
    have u_14 : G_12.1 27 = x_11 := by rw [eG_12]; exact gs_eq
    clear oq hz
    exact W.vret hx hb hr (fun t ht hWm => ⟨⟨(Ty, G_12), rfl, ⟨rfl, ⟨fr_13, hv.symm.trans (by rw [u_14])⟩⟩, by show HT g Ty G_12 t.heap; rw [ht]; exact hH⟩, hS.F ht⟩) hS.2.2 dX7_add_29

def F_X7_tell_x (m27 : Int32) : Int32 := (tu1 (F_X7_clear_x m27) (fun z3 => (tu1 (F_X7_add_x z3) (fun z4 => z4))))
set_option maxHeartbeats 4000000 in
set_option maxRecDepth 100000 in
theorem c_X7_tell_x (l : Launch) (g : Gx) (Ty : TyM) (G : Gh) (sz : Nat) (h0 : Nat) (j0 : Int64) (k_h0 : Ty h0 = some (17, 0)) (hD1 : LD1 g) : Met l yX7_tell (wsG yX7_tell cX7_tell 3 none) ({ frames := 1, cells := 0, slots := 0, locals := 22 }) (PcT g Ty G sz [.ref h0, .long j0]) (QwV g Ty sz (fun u => u.1 = Ty ∧ FR [27] [] [] G u.2 ∧ F_X7_tell_x (G.1 27) = (u.2.1 27))) 0 0 (AF Ty sz) := by
  refine Met.ofW (cc := cX7_tell) (maxL := 3) (ret := none) (by decide) rfl ?_
  intro p e s m args below meth c s₁ B hml hv
  obtain ⟨rfl, hsz, hK, hH⟩ := hv
  subst hsz
  have hx := B.exec
  have hb := B.bytes
  have hr := B.returns
  have hts := atoms_spec (ws := (wsG yX7_tell cX7_tell 3 none)) B.pre
  have hG : ∀ w ∈ GW, w.before ([.ref h0, .long j0] : List Value).toArray s = true := fun w h => hts w (List.mem_cons_of_mem _ h)
  have hown : s.vm.findClass RX7 = some m.cls := findClass_of_methodNamed B.named
  have hlocks := B.notSynchronized
  have hl := lv_entry [.ref h0, .long j0] (n := 3) (Nat.le_of_ble_eq_true rfl)
  rw [lg_entry_eq]
  generalize (lg_sl [.ref h0, .long j0] ++ List.replicate (3 - (lg_sl [.ref h0, .long j0]).length) Slot.unset).toArray = ls at hl ⊢
  have hl : lv_has ls 3 [(0, .ref h0), (1, .long j0)] := hl
  have hv : (tu1 (F_X7_clear_x (G.1 27)) (fun z1 => (tu1 (F_X7_add_x z1) (fun z2 => z2)))) = F_X7_tell_x (G.1 27) := rfl
  have hS : va_S (AF Ty s.heap.size) s.heap s.heap [] := va_S.rf
  refine lv_aload_n hx hb dX7_tell_0 rfl (lv_at hl 0 rfl) ?_
  obtain ⟨_, ⟨q_2, rfl, kq_2, rq_3, t_4⟩, o_c_1⟩ := hH h0 _ k_h0
  refine va_callv (va_runV (As := []) (rest := []) ⟨hx, hb, hml, hown, hts⟩ (c_X7_clear_x l g Ty G s.heap.size h0 k_h0 hD1) (cwV 0 hts (gwV mw_587 mw_588 mw_589 mw_80 mw_590) rfl rfl rfl hv_X7_clear ⟨Nat.le_of_ble_eq_true rfl, Nat.le_of_ble_eq_true rfl⟩) ⟨PcT_blind, hg_recv hK o_c_1 rfl, PcT_pre hK hH⟩ rfl rfl hl.1 rfl (lv_room (Nat.le_of_ble_eq_true rfl)) dX7_tell_1 ⟨Nat.zero_le _, Nat.zero_le _⟩) hS (fun q _ h => AF.mono hS.1 h) (fun q h => AF.mono hS.1 h) (fun ux_5 t H locs ht hvm hx_5 hB hz hk hS => ?_)
  obtain ⟨eTx_5, eGx_5⟩ := hx_5
  obtain ⟨G_6, eG_6⟩ : ∃ z, z = ux_5.2 := ⟨_, rfl⟩
  rw [← eG_6] at eGx_5
  obtain ⟨hfr_7, hex_8⟩ := eGx_5
  have fr_9 : FR [27] [] [] G G_6 := FR.tr FR.rf hfr_7 (by decide) (fun _ _ => trivial) (by decide)
  obtain ⟨n_10, en_10⟩ : ∃ z : Int32, G_6.1 27 = z := ⟨_, rfl⟩
  have hq_11 : F_X7_clear_x (G.1 27) = n_10 := by have q := hex_8; rw [en_10] at q; exact q
  rw [hq_11, tu1_eq] at hv
  have hH : HT g Ty G_6 H := by rw [← ht, ← eTx_5, eG_6]; exact hB
  refine lv_aload_n hx hb dX7_tell_4 rfl (lv_at hl 0 rfl) ?_
  refine lv_lload_n hx hb dX7_tell_5 rfl (lv_at hl 1 rfl) ?_
  obtain ⟨_, ⟨q_13, rfl, kq_13, rq_14, t_15⟩, o_c_12⟩ := hH h0 _ k_h0
  refine va_callv (va_runV (As := [.long j0]) (rest := []) ⟨hx, hb, hml, hown, hts⟩ (c_X7_add_x l g Ty G_6 H.size h0 j0 k_h0 hD1) (cwV 1 hts (gwV mw_591 mw_592 mw_593 mw_80 mw_594) rfl rfl rfl hv_X7_add ⟨Nat.le_of_ble_eq_true rfl, Nat.le_of_ble_eq_true rfl⟩) ⟨PcT_blind, hg_recv hK o_c_12 rfl, PcT_pre hK hH⟩ rfl rfl hl.1 rfl (lv_room (Nat.le_of_ble_eq_true rfl)) dX7_tell_6 ⟨Nat.zero_le _, Nat.zero_le _⟩) hS (fun q _ h => AF.mono hS.1 h) (fun q h => AF.mono hS.1 h) (fun ux_16 t H locs ht hvm hx_16 hB hz hk hS => ?_)
  obtain ⟨eTx_16, eGx_16⟩ := hx_16
  obtain ⟨G_17, eG_17⟩ : ∃ z, z = ux_16.2 := ⟨_, rfl⟩
  rw [← eG_17] at eGx_16
  obtain ⟨hfr_18, hex_19⟩ := eGx_16
  have fr_20 : FR [27] [] [] G G_17 := FR.tr fr_9 hfr_18 (by decide) (fun _ _ => trivial) (by decide)
  obtain ⟨n_21, en_21⟩ : ∃ z : Int32, G_17.1 27 = z := ⟨_, rfl⟩
  have hq_22 : F_X7_add_x n_10 = n_21 := by have q := hex_19; rw [en_10, en_21] at q; exact q
  rw [hq_22, tu1_eq] at hv
  have hH : HT g Ty G_17 H := by rw [← ht, ← eTx_16, eG_17]; exact hB
  exact W.vret hx hb hr (fun t ht hWm => ⟨⟨(Ty, G_17), rfl, ⟨rfl, ⟨fr_20, hv.symm.trans (by rw [en_21])⟩⟩, by show HT g Ty G_17 t.heap; rw [ht]; exact hH⟩, hS.F ht⟩) hS.2.2 dX7_tell_9

def F_X7_tellTwo_x (m27 : Int32) : Int32 := (tu1 (F_X7_clear_x m27) (fun z4 => (tu1 (F_X7_add_x z4) (fun z5 => (tu1 (F_X7_add_x z5) (fun z6 => z6))))))
set_option maxHeartbeats 4000000 in
set_option maxRecDepth 100000 in
theorem c_X7_tellTwo_x (l : Launch) (g : Gx) (Ty : TyM) (G : Gh) (sz : Nat) (h0 : Nat) (j0 : Int64) (j1 : Int64) (k_h0 : Ty h0 = some (17, 0)) (hD1 : LD1 g) : Met l yX7_tellTwo (wsG yX7_tellTwo cX7_tellTwo 5 none) ({ frames := 1, cells := 0, slots := 0, locals := 22 }) (PcT g Ty G sz [.ref h0, .long j0, .long j1]) (QwV g Ty sz (fun u => u.1 = Ty ∧ FR [27] [] [] G u.2 ∧ F_X7_tellTwo_x (G.1 27) = (u.2.1 27))) 0 0 (AF Ty sz) := by
  refine Met.ofW (cc := cX7_tellTwo) (maxL := 5) (ret := none) (by decide) rfl ?_
  intro p e s m args below meth c s₁ B hml hv
  obtain ⟨rfl, hsz, hK, hH⟩ := hv
  subst hsz
  have hx := B.exec
  have hb := B.bytes
  have hr := B.returns
  have hts := atoms_spec (ws := (wsG yX7_tellTwo cX7_tellTwo 5 none)) B.pre
  have hG : ∀ w ∈ GW, w.before ([.ref h0, .long j0, .long j1] : List Value).toArray s = true := fun w h => hts w (List.mem_cons_of_mem _ h)
  have hown : s.vm.findClass RX7 = some m.cls := findClass_of_methodNamed B.named
  have hlocks := B.notSynchronized
  have hl := lv_entry [.ref h0, .long j0, .long j1] (n := 5) (Nat.le_of_ble_eq_true rfl)
  rw [lg_entry_eq]
  generalize (lg_sl [.ref h0, .long j0, .long j1] ++ List.replicate (5 - (lg_sl [.ref h0, .long j0, .long j1]).length) Slot.unset).toArray = ls at hl ⊢
  have hl : lv_has ls 5 [(0, .ref h0), (1, .long j0), (3, .long j1)] := hl
  have hv : (tu1 (F_X7_clear_x (G.1 27)) (fun z1 => (tu1 (F_X7_add_x z1) (fun z2 => (tu1 (F_X7_add_x z2) (fun z3 => z3)))))) = F_X7_tellTwo_x (G.1 27) := rfl
  have hS : va_S (AF Ty s.heap.size) s.heap s.heap [] := va_S.rf
  refine lv_aload_n hx hb dX7_tellTwo_0 rfl (lv_at hl 0 rfl) ?_
  obtain ⟨_, ⟨q_2, rfl, kq_2, rq_3, t_4⟩, o_c_1⟩ := hH h0 _ k_h0
  refine va_callv (va_runV (As := []) (rest := []) ⟨hx, hb, hml, hown, hts⟩ (c_X7_clear_x l g Ty G s.heap.size h0 k_h0 hD1) (cwV 0 hts (gwV mw_587 mw_588 mw_589 mw_80 mw_590) rfl rfl rfl hv_X7_clear ⟨Nat.le_of_ble_eq_true rfl, Nat.le_of_ble_eq_true rfl⟩) ⟨PcT_blind, hg_recv hK o_c_1 rfl, PcT_pre hK hH⟩ rfl rfl hl.1 rfl (lv_room (Nat.le_of_ble_eq_true rfl)) dX7_tellTwo_1 ⟨Nat.zero_le _, Nat.zero_le _⟩) hS (fun q _ h => AF.mono hS.1 h) (fun q h => AF.mono hS.1 h) (fun ux_5 t H locs ht hvm hx_5 hB hz hk hS => ?_)
  obtain ⟨eTx_5, eGx_5⟩ := hx_5
  obtain ⟨G_6, eG_6⟩ : ∃ z, z = ux_5.2 := ⟨_, rfl⟩
  rw [← eG_6] at eGx_5
  obtain ⟨hfr_7, hex_8⟩ := eGx_5
  have fr_9 : FR [27] [] [] G G_6 := FR.tr FR.rf hfr_7 (by decide) (fun _ _ => trivial) (by decide)
  obtain ⟨n_10, en_10⟩ : ∃ z : Int32, G_6.1 27 = z := ⟨_, rfl⟩
  have hq_11 : F_X7_clear_x (G.1 27) = n_10 := by have q := hex_8; rw [en_10] at q; exact q
  rw [hq_11, tu1_eq] at hv
  have hH : HT g Ty G_6 H := by rw [← ht, ← eTx_5, eG_6]; exact hB
  refine lv_aload_n hx hb dX7_tellTwo_4 rfl (lv_at hl 0 rfl) ?_
  refine lv_lload_n hx hb dX7_tellTwo_5 rfl (lv_at hl 1 rfl) ?_
  obtain ⟨_, ⟨q_13, rfl, kq_13, rq_14, t_15⟩, o_c_12⟩ := hH h0 _ k_h0
  refine va_callv (va_runV (As := [.long j0]) (rest := []) ⟨hx, hb, hml, hown, hts⟩ (c_X7_add_x l g Ty G_6 H.size h0 j0 k_h0 hD1) (cwV 1 hts (gwV mw_591 mw_592 mw_593 mw_80 mw_594) rfl rfl rfl hv_X7_add ⟨Nat.le_of_ble_eq_true rfl, Nat.le_of_ble_eq_true rfl⟩) ⟨PcT_blind, hg_recv hK o_c_12 rfl, PcT_pre hK hH⟩ rfl rfl hl.1 rfl (lv_room (Nat.le_of_ble_eq_true rfl)) dX7_tellTwo_6 ⟨Nat.zero_le _, Nat.zero_le _⟩) hS (fun q _ h => AF.mono hS.1 h) (fun q h => AF.mono hS.1 h) (fun ux_16 t H locs ht hvm hx_16 hB hz hk hS => ?_)
  obtain ⟨eTx_16, eGx_16⟩ := hx_16
  obtain ⟨G_17, eG_17⟩ : ∃ z, z = ux_16.2 := ⟨_, rfl⟩
  rw [← eG_17] at eGx_16
  obtain ⟨hfr_18, hex_19⟩ := eGx_16
  have fr_20 : FR [27] [] [] G G_17 := FR.tr fr_9 hfr_18 (by decide) (fun _ _ => trivial) (by decide)
  obtain ⟨n_21, en_21⟩ : ∃ z : Int32, G_17.1 27 = z := ⟨_, rfl⟩
  have hq_22 : F_X7_add_x n_10 = n_21 := by have q := hex_19; rw [en_10, en_21] at q; exact q
  rw [hq_22, tu1_eq] at hv
  have hH : HT g Ty G_17 H := by rw [← ht, ← eTx_16, eG_17]; exact hB
  refine lv_aload_n hx hb dX7_tellTwo_9 rfl (lv_at hl 0 rfl) ?_
  refine lv_lload_n hx hb dX7_tellTwo_10 rfl (lv_at hl 2 rfl) ?_
  obtain ⟨_, ⟨q_24, rfl, kq_24, rq_25, t_26⟩, o_c_23⟩ := hH h0 _ k_h0
  refine va_callv (va_runV (As := [.long j1]) (rest := []) ⟨hx, hb, hml, hown, hts⟩ (c_X7_add_x l g Ty G_17 H.size h0 j1 k_h0 hD1) (cwV 1 hts (gwV mw_591 mw_592 mw_593 mw_80 mw_594) rfl rfl rfl hv_X7_add ⟨Nat.le_of_ble_eq_true rfl, Nat.le_of_ble_eq_true rfl⟩) ⟨PcT_blind, hg_recv hK o_c_23 rfl, PcT_pre hK hH⟩ rfl rfl hl.1 rfl (lv_room (Nat.le_of_ble_eq_true rfl)) dX7_tellTwo_11 ⟨Nat.zero_le _, Nat.zero_le _⟩) hS (fun q _ h => AF.mono hS.1 h) (fun q h => AF.mono hS.1 h) (fun ux_27 t H locs ht hvm hx_27 hB hz hk hS => ?_)
  obtain ⟨eTx_27, eGx_27⟩ := hx_27
  obtain ⟨G_28, eG_28⟩ : ∃ z, z = ux_27.2 := ⟨_, rfl⟩
  rw [← eG_28] at eGx_27
  obtain ⟨hfr_29, hex_30⟩ := eGx_27
  have fr_31 : FR [27] [] [] G G_28 := FR.tr fr_20 hfr_29 (by decide) (fun _ _ => trivial) (by decide)
  obtain ⟨n_32, en_32⟩ : ∃ z : Int32, G_28.1 27 = z := ⟨_, rfl⟩
  have hq_33 : F_X7_add_x n_21 = n_32 := by have q := hex_30; rw [en_21, en_32] at q; exact q
  rw [hq_33, tu1_eq] at hv
  have hH : HT g Ty G_28 H := by rw [← ht, ← eTx_27, eG_28]; exact hB
  exact W.vret hx hb hr (fun t ht hWm => ⟨⟨(Ty, G_28), rfl, ⟨rfl, ⟨fr_31, hv.symm.trans (by rw [en_32])⟩⟩, by show HT g Ty G_28 t.heap; rw [ht]; exact hH⟩, hS.F ht⟩) hS.2.2 dX7_tellTwo_14

def F_X3_measureOf (r0 : Nat → Int32) (r1 : Nat → Int32) (r2 : Nat → Int32) (m20 : Int32) (m21 : Int32) (a0 : Int32) (a1 : Int32) : Int32 := (if a0 = (0 : Int32) then (F_X10_kindOf r1 r2 m20 m21 a1) else (if a0 = (1 : Int32) then (F_X10_stepsTo r0 a1) else (if a0 = (2 : Int32) then (F_X10_dirOf r0 a1) else (if a0 = (3 : Int32) then (F_J6_bitCount_0f7a4 (F_X10_childrenOf r0 a1)) else (F_J6_bitCount_0f7a4 (F_X10_spreadOf r1 r2 a1))))))
set_option maxHeartbeats 4000000 in
set_option maxRecDepth 100000 in
theorem c_X3_measureOf (l : Launch) (g : Gx) (Ty : TyM) (G : Gh) (h0 : Nat) (a0 : Int32) (a1 : Int32) (k_h0 : Ty h0 = some (13, 0)) : Met l yX3_measureOf (wsG yX3_measureOf cX3_measureOf 3 (some .int)) ({ frames := 3, cells := 0, slots := 0, locals := 71 }) (PcH g Ty G [.ref h0, .int a0, .int a1]) (vp_Si (fun r => r = F_X3_measureOf (G.2.1 (g.2.2 70)) (G.2.1 (g.2.2 71)) (G.2.1 (g.2.2 72)) (G.1 20) (G.1 21) a0 a1)) 0 0 (fun _ => False) := by
  refine Met.ofW (cc := cX3_measureOf) (maxL := 3) (ret := (some .int)) (by decide) rfl ?_
  intro p e s m args below meth c s₁ B hml hv
  obtain ⟨rfl, hK, hH⟩ := hv
  have hx := B.exec
  have hb := B.bytes
  have hr := B.returns
  have hts := atoms_spec (ws := (wsG yX3_measureOf cX3_measureOf 3 (some .int))) B.pre
  have hG : ∀ w ∈ GW, w.before ([.ref h0, .int a0, .int a1] : List Value).toArray s = true := fun w h => hts w (List.mem_cons_of_mem _ h)
  have hown : s.vm.findClass RX3 = some m.cls := findClass_of_methodNamed B.named
  have hlocks := B.notSynchronized
  have hl := lv_entry [.ref h0, .int a0, .int a1] (n := 3) (Nat.le_of_ble_eq_true rfl)
  rw [lg_entry_eq]
  generalize (lg_sl [.ref h0, .int a0, .int a1] ++ List.replicate (3 - (lg_sl [.ref h0, .int a0, .int a1]).length) Slot.unset).toArray = ls at hl ⊢
  have hl : lv_has ls 3 [(0, .ref h0), (1, .int a0), (2, .int a1)] := hl
  have hv : (if a0 = (0 : Int32) then (F_X10_kindOf (G.2.1 (g.2.2 71)) (G.2.1 (g.2.2 72)) (G.1 20) (G.1 21) a1) else (if a0 = (1 : Int32) then (F_X10_stepsTo (G.2.1 (g.2.2 70)) a1) else (if a0 = (2 : Int32) then (F_X10_dirOf (G.2.1 (g.2.2 70)) a1) else (if a0 = (3 : Int32) then (F_J6_bitCount_0f7a4 (F_X10_childrenOf (G.2.1 (g.2.2 70)) a1)) else (F_J6_bitCount_0f7a4 (F_X10_spreadOf (G.2.1 (g.2.2 71)) (G.2.1 (g.2.2 72)) a1)))))) = F_X3_measureOf (G.2.1 (g.2.2 70)) (G.2.1 (g.2.2 71)) (G.2.1 (g.2.2 72)) (G.1 20) (G.1 21) a0 a1 := rfl
  refine lv_iload_n hx hb dX3_measureOf_0 rfl (lv_at hl 1 rfl) ?_
  by_cases c_1 : a0 = 0
  · refine lv_tableIn (tgt := 32) hx hb dX3_measureOf_1 (by rw [c_1]; decide) (by rw [c_1]; decide) (off := 31) (by rw [c_1]; rfl) (by decide) ?_
    rw [if_pos c_1] at hv
    have r_2 : rgI (0) (0) a0 := rg_w (rg_eq rl_0 c_1) (by decide) (by decide)
    refine lv_aload_n hx hb dX3_measureOf_32 rfl (lv_at hl 0 rfl) ?_
    obtain ⟨_, ⟨q_5, q_6, rfl, kq_4, kq_5, kq_6, kq_8, rq_7, t_10⟩, o_c_3⟩ := hH h0 _ k_h0
    refine hg_get hx hb hG igX3 hown hK o_c_3 rfl 0 (by decide) (hG _ mw_294) rfl dX3_measureOf_33 ?_
    refine lv_iload_n hx hb dX3_measureOf_36 rfl (lv_at hl 2 rfl) ?_
    obtain ⟨_, ⟨rfl, kq_12, kq_13, kq_14, t_19⟩, o_c_11⟩ := hH (g.2.2 0) _ kq_4
    refine vp_callSi (W.runV (As := [.int a1]) (rest := []) ⟨hx, hb, hml, hown, hts⟩ (c_X10_kindOf l g Ty G (g.2.2 0) a1 kq_4) (cwV 1 hts (gwV mw_1037 mw_694 mw_695 mw_77 mw_696) rfl rfl rfl hv_X10_kindOf ⟨Nat.le_of_ble_eq_true rfl, Nat.le_of_ble_eq_true rfl⟩) ⟨PcH_blind, hg_recv hK o_c_11 rfl, PcH_pre hK hH⟩ rfl rfl hl.1 rfl (lv_room (Nat.le_of_ble_eq_true rfl)) dX3_measureOf_37 ⟨Nat.zero_le _, Nat.zero_le _⟩) (fun x_20 hx_20 => ?_)
    try rw [← hx_20] at hv
    have ex_21 : x_20 = F_X10_kindOf (G.2.1 (g.2.2 71)) (G.2.1 (g.2.2 72)) (G.1 20) (G.1 21) a1 := hx_20
    try rw [← ex_21] at hv
    exact W.iret hx hb hr (fun t ht hW => ⟨x_20, rfl, hv, ht⟩) (fun q h => by cases h) dX3_measureOf_40
  rw [if_neg c_1] at hv
  by_cases c_22 : a0 = 1
  · refine lv_tableIn (tgt := 41) hx hb dX3_measureOf_1 (by rw [c_22]; decide) (by rw [c_22]; decide) (off := 40) (by rw [c_22]; rfl) (by decide) ?_
    rw [if_pos c_22] at hv
    have r_23 : rgI (1) (1) a0 := rg_w (rg_eq rl_1 c_22) (by decide) (by decide)
    refine lv_aload_n hx hb dX3_measureOf_41 rfl (lv_at hl 0 rfl) ?_
    obtain ⟨_, ⟨q_26, q_27, rfl, kq_25, kq_26, kq_27, kq_29, rq_28, t_31⟩, o_c_24⟩ := hH h0 _ k_h0
    refine hg_get hx hb hG igX3 hown hK o_c_24 rfl 0 (by decide) (hG _ mw_294) rfl dX3_measureOf_42 ?_
    refine lv_iload_n hx hb dX3_measureOf_45 rfl (lv_at hl 2 rfl) ?_
    obtain ⟨_, ⟨rfl, kq_33, kq_34, kq_35, t_40⟩, o_c_32⟩ := hH (g.2.2 0) _ kq_25
    refine vp_callSi (W.runV (As := [.int a1]) (rest := []) ⟨hx, hb, hml, hown, hts⟩ (c_X10_stepsTo l g Ty G (g.2.2 0) a1 kq_25) (cwV 1 hts (gwV mw_1038 mw_679 mw_680 mw_77 mw_681) rfl rfl rfl hv_X10_stepsTo ⟨Nat.le_of_ble_eq_true rfl, Nat.le_of_ble_eq_true rfl⟩) ⟨PcH_blind, hg_recv hK o_c_32 rfl, PcH_pre hK hH⟩ rfl rfl hl.1 rfl (lv_room (Nat.le_of_ble_eq_true rfl)) dX3_measureOf_46 ⟨Nat.zero_le _, Nat.zero_le _⟩) (fun x_41 hx_41 => ?_)
    try rw [← hx_41] at hv
    have ex_42 : x_41 = F_X10_stepsTo (G.2.1 (g.2.2 70)) a1 := hx_41
    try rw [← ex_42] at hv
    exact W.iret hx hb hr (fun t ht hW => ⟨x_41, rfl, hv, ht⟩) (fun q h => by cases h) dX3_measureOf_49
  rw [if_neg c_22] at hv
  by_cases c_43 : a0 = 2
  · refine lv_tableIn (tgt := 50) hx hb dX3_measureOf_1 (by rw [c_43]; decide) (by rw [c_43]; decide) (off := 49) (by rw [c_43]; rfl) (by decide) ?_
    rw [if_pos c_43] at hv
    have r_44 : rgI (2) (2) a0 := rg_w (rg_eq rl_2 c_43) (by decide) (by decide)
    refine lv_aload_n hx hb dX3_measureOf_50 rfl (lv_at hl 0 rfl) ?_
    obtain ⟨_, ⟨q_47, q_48, rfl, kq_46, kq_47, kq_48, kq_50, rq_49, t_52⟩, o_c_45⟩ := hH h0 _ k_h0
    refine hg_get hx hb hG igX3 hown hK o_c_45 rfl 0 (by decide) (hG _ mw_294) rfl dX3_measureOf_51 ?_
    refine lv_iload_n hx hb dX3_measureOf_54 rfl (lv_at hl 2 rfl) ?_
    obtain ⟨_, ⟨rfl, kq_54, kq_55, kq_56, t_61⟩, o_c_53⟩ := hH (g.2.2 0) _ kq_46
    refine vp_callSi (W.runV (As := [.int a1]) (rest := []) ⟨hx, hb, hml, hown, hts⟩ (c_X10_dirOf l g Ty G (g.2.2 0) a1 kq_46) (cwV 1 hts (gwV mw_1039 mw_849 mw_850 mw_77 mw_851) rfl rfl rfl hv_X10_dirOf ⟨Nat.le_of_ble_eq_true rfl, Nat.le_of_ble_eq_true rfl⟩) ⟨PcH_blind, hg_recv hK o_c_53 rfl, PcH_pre hK hH⟩ rfl rfl hl.1 rfl (lv_room (Nat.le_of_ble_eq_true rfl)) dX3_measureOf_55 ⟨Nat.zero_le _, Nat.zero_le _⟩) (fun x_62 hx_62 => ?_)
    try rw [← hx_62] at hv
    have ex_63 : x_62 = F_X10_dirOf (G.2.1 (g.2.2 70)) a1 := hx_62
    try rw [← ex_63] at hv
    exact W.iret hx hb hr (fun t ht hW => ⟨x_62, rfl, hv, ht⟩) (fun q h => by cases h) dX3_measureOf_58
  rw [if_neg c_43] at hv
  by_cases c_64 : a0 = 3
  · refine lv_tableIn (tgt := 59) hx hb dX3_measureOf_1 (by rw [c_64]; decide) (by rw [c_64]; decide) (off := 58) (by rw [c_64]; rfl) (by decide) ?_
    rw [if_pos c_64] at hv
    have r_65 : rgI (3) (3) a0 := rg_w (rg_eq rl_3 c_64) (by decide) (by decide)
    refine lv_aload_n hx hb dX3_measureOf_59 rfl (lv_at hl 0 rfl) ?_
    obtain ⟨_, ⟨q_68, q_69, rfl, kq_67, kq_68, kq_69, kq_71, rq_70, t_73⟩, o_c_66⟩ := hH h0 _ k_h0
    refine hg_get hx hb hG igX3 hown hK o_c_66 rfl 0 (by decide) (hG _ mw_294) rfl dX3_measureOf_60 ?_
    refine lv_iload_n hx hb dX3_measureOf_63 rfl (lv_at hl 2 rfl) ?_
    obtain ⟨_, ⟨rfl, kq_75, kq_76, kq_77, t_82⟩, o_c_74⟩ := hH (g.2.2 0) _ kq_67
    refine vp_callSi (W.runV (As := [.int a1]) (rest := []) ⟨hx, hb, hml, hown, hts⟩ (c_X10_childrenOf l g Ty G (g.2.2 0) a1 kq_67) (cwV 1 hts (gwV mw_1040 mw_687 mw_688 mw_77 mw_689) rfl rfl rfl hv_X10_childrenOf ⟨Nat.le_of_ble_eq_true rfl, Nat.le_of_ble_eq_true rfl⟩) ⟨PcH_blind, hg_recv hK o_c_74 rfl, PcH_pre hK hH⟩ rfl rfl hl.1 rfl (lv_room (Nat.le_of_ble_eq_true rfl)) dX3_measureOf_64 ⟨Nat.zero_le _, Nat.zero_le _⟩) (fun x_83 hx_83 => ?_)
    try rw [← hx_83] at hv
    have ex_84 : x_83 = F_X10_childrenOf (G.2.1 (g.2.2 70)) a1 := hx_83
    try rw [← ex_84] at hv
    refine vp_callSi (W.runS (As := [.int x_83]) (rest := []) ⟨hx, hb, hml, hown, hts⟩ (c_J6_bitCount_x l g Ty G x_83 ) (cwSx 1 hts hG (gwC mw_620) mw_99 mw_1041 mw_619 rfl rfl rfl hd_J6_bitCount_0f7a4 ⟨Nat.le_of_ble_eq_true rfl, Nat.le_of_ble_eq_true rfl⟩) ⟨PcH_blind, PcH_pre hK hH⟩ rfl rfl hl.1 rfl (lv_room (Nat.le_of_ble_eq_true rfl)) dX3_measureOf_67 ⟨Nat.zero_le _, Nat.zero_le _⟩) (fun x_85 hx_85 => ?_)
    have rx_85 : rgI (0) (63) x_85 := hx_85.1
    try rw [← hx_85.2] at hv
    try rw [← hx_85.2] at hv
    exact W.iret hx hb hr (fun t ht hW => ⟨x_85, rfl, hv, ht⟩) (fun q h => by cases h) dX3_measureOf_70
  rw [if_neg c_64] at hv
  refine lv_tableOut (tgt := 71) hx hb dX3_measureOf_1 (by have := lv_neT (a := 0) c_1 rfl; have := lv_neT (a := 1) c_22 rfl; have := lv_neT (a := 2) c_43 rfl; have := lv_neT (a := 3) c_64 rfl; omega) (by decide) ?_
  refine lv_aload_n hx hb dX3_measureOf_71 rfl (lv_at hl 0 rfl) ?_
  obtain ⟨_, ⟨q_88, q_89, rfl, kq_87, kq_88, kq_89, kq_91, rq_90, t_93⟩, o_c_86⟩ := hH h0 _ k_h0
  refine hg_get hx hb hG igX3 hown hK o_c_86 rfl 0 (by decide) (hG _ mw_294) rfl dX3_measureOf_72 ?_
  refine lv_iload_n hx hb dX3_measureOf_75 rfl (lv_at hl 2 rfl) ?_
  obtain ⟨_, ⟨rfl, kq_95, kq_96, kq_97, t_102⟩, o_c_94⟩ := hH (g.2.2 0) _ kq_87
  refine vp_callSi (W.runV (As := [.int a1]) (rest := []) ⟨hx, hb, hml, hown, hts⟩ (c_X10_spreadOf l g Ty G (g.2.2 0) a1 kq_87) (cwV 1 hts (gwV mw_1042 mw_650 mw_651 mw_77 mw_652) rfl rfl rfl hv_X10_spreadOf ⟨Nat.le_of_ble_eq_true rfl, Nat.le_of_ble_eq_true rfl⟩) ⟨PcH_blind, hg_recv hK o_c_94 rfl, PcH_pre hK hH⟩ rfl rfl hl.1 rfl (lv_room (Nat.le_of_ble_eq_true rfl)) dX3_measureOf_76 ⟨Nat.zero_le _, Nat.zero_le _⟩) (fun x_103 hx_103 => ?_)
  try rw [← hx_103] at hv
  have ex_104 : x_103 = F_X10_spreadOf (G.2.1 (g.2.2 71)) (G.2.1 (g.2.2 72)) a1 := hx_103
  try rw [← ex_104] at hv
  refine vp_callSi (W.runS (As := [.int x_103]) (rest := []) ⟨hx, hb, hml, hown, hts⟩ (c_J6_bitCount_x l g Ty G x_103 ) (cwSx 1 hts hG (gwC mw_620) mw_99 mw_1041 mw_619 rfl rfl rfl hd_J6_bitCount_0f7a4 ⟨Nat.le_of_ble_eq_true rfl, Nat.le_of_ble_eq_true rfl⟩) ⟨PcH_blind, PcH_pre hK hH⟩ rfl rfl hl.1 rfl (lv_room (Nat.le_of_ble_eq_true rfl)) dX3_measureOf_79 ⟨Nat.zero_le _, Nat.zero_le _⟩) (fun x_105 hx_105 => ?_)
  have rx_105 : rgI (0) (63) x_105 := hx_105.1
  try rw [← hx_105.2] at hv
  try rw [← hx_105.2] at hv
  exact W.iret hx hb hr (fun t ht hW => ⟨x_105, rfl, hv, ht⟩) (fun q h => by cases h) dX3_measureOf_82

def F_X3_measure_2 : Nat → Int32 → Int32 → (Nat → Int32) → (Nat → Int32) → (Nat → Int32) → (Nat → Int32) → Int32 → Int32 → (Nat → Int32)
  | 0, _, _, _, _, _, yr3, _, _ => yr3
  | n + 1, y1, y2, yr0, yr1, yr2, yr3, yn20, yn21 => (if (24 : Int32) ≤ y2 then yr3 else (if (F_X10_has yn20 y2) = (0 : Int32) then (F_X3_measure_2 n y1 (y2 + (1 : Int32)) yr0 yr1 yr2 (upd yr3 (Int32.toNatClampNeg y2) (0 : Int32)) yn20 yn21) else (F_X3_measure_2 n y1 (y2 + (1 : Int32)) yr0 yr1 yr2 (upd yr3 (Int32.toNatClampNeg y2) (F_X3_measureOf yr0 yr1 yr2 yn20 yn21 y1 y2)) yn20 yn21)))
def F_X3_measure (r0 : Nat → Int32) (r1 : Nat → Int32) (r2 : Nat → Int32) (r3 : Nat → Int32) (m20 : Int32) (m21 : Int32) (a0 : Int32) : (Nat → Int32) := (F_X3_measure_2 26 a0 (0 : Int32) r0 r1 r2 r3 m20 m21)
set_option maxHeartbeats 4000000 in
set_option maxRecDepth 100000 in
theorem c_X3_measure (l : Launch) (g : Gx) (Ty : TyM) (G : Gh) (sz : Nat) (h0 : Nat) (a0 : Int32) (k_h0 : Ty h0 = some (13, 0)) (hD1 : LD1 g) : Met l yX3_measure (wsG yX3_measure cX3_measure 3 none) ({ frames := 4, cells := 0, slots := 0, locals := 93 }) (PcT g Ty G sz [.ref h0, .int a0]) (QwV g Ty sz (fun u => u.1 = Ty ∧ FR [] [(g.2.2 74)] [] G u.2 ∧ F_X3_measure (G.2.1 (g.2.2 70)) (G.2.1 (g.2.2 71)) (G.2.1 (g.2.2 72)) (G.2.1 (g.2.2 74)) (G.1 20) (G.1 21) a0 = (u.2.2.1 (g.2.2 74)))) 0 0 (AF Ty sz) := by
  refine Met.ofW (cc := cX3_measure) (maxL := 3) (ret := none) (by decide) rfl ?_
  intro p e s m args below meth c s₁ B hml hv
  obtain ⟨rfl, hsz, hK, hH⟩ := hv
  subst hsz
  have hx := B.exec
  have hb := B.bytes
  have hr := B.returns
  have hts := atoms_spec (ws := (wsG yX3_measure cX3_measure 3 none)) B.pre
  have hG : ∀ w ∈ GW, w.before ([.ref h0, .int a0] : List Value).toArray s = true := fun w h => hts w (List.mem_cons_of_mem _ h)
  have hown : s.vm.findClass RX3 = some m.cls := findClass_of_methodNamed B.named
  have hlocks := B.notSynchronized
  have hl := lv_entry [.ref h0, .int a0] (n := 3) (Nat.le_of_ble_eq_true rfl)
  rw [lg_entry_eq]
  generalize (lg_sl [.ref h0, .int a0] ++ List.replicate (3 - (lg_sl [.ref h0, .int a0]).length) Slot.unset).toArray = ls at hl ⊢
  have hl : lv_has ls 3 [(0, .ref h0), (1, .int a0)] := hl
  have hv : (F_X3_measure_2 26 a0 (0 : Int32) (G.2.1 (g.2.2 70)) (G.2.1 (g.2.2 71)) (G.2.1 (g.2.2 72)) (G.2.1 (g.2.2 74)) (G.1 20) (G.1 21)) = F_X3_measure (G.2.1 (g.2.2 70)) (G.2.1 (g.2.2 71)) (G.2.1 (g.2.2 72)) (G.2.1 (g.2.2 74)) (G.1 20) (G.1 21) a0 := rfl
  have hS : va_S (AF Ty s.heap.size) s.heap s.heap [] := va_S.rf
  have L_2 : ∀ (n_2 : Nat) (H : Heap) (locs : List Loc) (G_2 : Gh) (fl3_2 : Nat → Int32) (y2_2 : Int32) (ls : Array Slot), FR [] [(g.2.2 74)] [] G G_2 → G_2.2.1 (g.2.2 74) = fl3_2 → rgI (0) (24) y2_2 → (24 - (y2_2).toInt).toNat < n_2 → lv_has ls 3 [(0, .ref h0), (1, .int a0), (2, .int y2_2)] → (F_X3_measure_2 n_2 a0 y2_2 (G.2.1 (g.2.2 70)) (G.2.1 (g.2.2 71)) (G.2.1 (g.2.2 72)) fl3_2 (G.1 20) (G.1 21)) = F_X3_measure (G.2.1 (g.2.2 70)) (G.2.1 (g.2.2 71)) (G.2.1 (g.2.2 72)) (G.2.1 (g.2.2 74)) (G.1 20) (G.1 21) a0 → HT g Ty G_2 H → va_S (AF Ty s.heap.size) s.heap H locs → Wm p l e (wsG yX3_measure cX3_measure 3 none) ({ frames := 4, cells := 0, slots := 0, locals := 93 }) s m [.ref h0, .int a0] below meth c H locs (0) (0) (QwV g Ty s.heap.size (fun u => u.1 = Ty ∧ FR [] [(g.2.2 74)] [] G u.2 ∧ F_X3_measure (G.2.1 (g.2.2 70)) (G.2.1 (g.2.2 71)) (G.2.1 (g.2.2 72)) (G.2.1 (g.2.2 74)) (G.1 20) (G.1 21) a0 = (u.2.2.1 (g.2.2 74)))) 0 0 (AF Ty s.heap.size) (F0 m 2 ls []) := by
    intro n_2
    induction n_2 with
    | zero => intro H locs G_2 fl3_2 y2_2 ls frL_2 efl3_2 ry2_2 hm; exact absurd hm (Nat.not_lt_zero _)
    | succ n_2 ih_2 =>
      intro H locs G_2 fl3_2 y2_2 ls frL_2 efl3_2 ry2_2 hm_2 hl hv hH hS
      have L_34 : ∀ (H : Heap) (locs : List Loc) (G_34 : Gh) (fl3_34 : Nat → Int32) (z0_34 : Int32) (ls : Array Slot), FR [] [(g.2.2 74)] [] G G_34 → G_34.2.1 (g.2.2 74) = fl3_34 → rgI (0) (23) y2_2 → rgI (0) (23) y2_2 → Ty (g.2.2 74) = some (30, 24) → lv_has ls 3 [(0, .ref h0), (1, .int a0), (2, .int y2_2)] → (F_X3_measure_2 n_2 a0 (y2_2 + (1 : Int32)) (G.2.1 (g.2.2 70)) (G.2.1 (g.2.2 71)) (G.2.1 (g.2.2 72)) (upd fl3_34 (Int32.toNatClampNeg y2_2) z0_34) (G.1 20) (G.1 21)) = F_X3_measure (G.2.1 (g.2.2 70)) (G.2.1 (g.2.2 71)) (G.2.1 (g.2.2 72)) (G.2.1 (g.2.2 74)) (G.1 20) (G.1 21) a0 → HT g Ty G_34 H → va_S (AF Ty s.heap.size) s.heap H locs → Wm p l e (wsG yX3_measure cX3_measure 3 none) ({ frames := 4, cells := 0, slots := 0, locals := 93 }) s m [.ref h0, .int a0] below meth c H locs (0) (0) (QwV g Ty s.heap.size (fun u => u.1 = Ty ∧ FR [] [(g.2.2 74)] [] G u.2 ∧ F_X3_measure (G.2.1 (g.2.2 70)) (G.2.1 (g.2.2 71)) (G.2.1 (g.2.2 72)) (G.2.1 (g.2.2 74)) (G.1 20) (G.1 21) a0 = (u.2.2.1 (g.2.2 74)))) 0 0 (AF Ty s.heap.size) (F0 m 34 ls [.int z0_34, .int y2_2, .ref (g.2.2 74)]) := by
        intro H locs G_34 fl3_34 z0_34 ls frL_34 efl3_34 ry2_34 rz1_34 kz2_34 hl hv hH hS
        obtain ⟨_, rfl, o_c_1⟩ := hH (g.2.2 74) _ kz2_34
        have o_c_1 : va_at g.1 vwCl ((g.2.2 74), .inl (g.2.1 1, 24, .inl (G_34.2.1 (g.2.2 74)))) H := o_c_1
        refine hg_iast hx hb hK hS o_c_1 (AF.of kz2_34) (rg_in (n := 24) rz1_34 (by decide) (by decide)) dX3_measure_34 (fun H locs o_c_1 hz oq hS => ?_)
        obtain ⟨G_2, eG_2⟩ : ∃ z : Gh, z = aset G_34 (g.2.2 74) (upd (G_34.2.1 (g.2.2 74)) (y2_2 : Int32).toNatClampNeg z0_34) := ⟨_, rfl⟩
        have hH : HT g Ty G_2 H := by rw [eG_2]; exact HT.putA (upd (G_34.2.1 (g.2.2 74)) (y2_2 : Int32).toNatClampNeg z0_34) hH kz2_34 cf30 o_c_1 oq
        obtain ⟨f_3, ef_3⟩ : ∃ z : Nat → Int32, z = (upd fl3_34 (y2_2 : Int32).toNatClampNeg z0_34) := ⟨_, rfl⟩
        have eaf_3 : G_2 = aset G_34 (g.2.2 74) f_3 := by rw [eG_2, ef_3, efl3_34]
        try rw [← ef_3] at hv
        have fr_4 : FR [] [(g.2.2 74)] [] G G_2 := FR.a frL_34 eaf_3 (fun b h => h.1)
        have u_5 : G_2.1 20 = (G.1 20) := by rw [eaf_3]; exact (frL_34.1 20 (by decide))
        have u_6 : G_2.1 21 = (G.1 21) := by rw [eaf_3]; exact (frL_34.1 21 (by decide))
        have w_7 : G_2.2.1 (g.2.2 70) = (G.2.1 (g.2.2 70)) := by rw [eaf_3]; exact (aset_ne (hD1 70 (by decide) 74 (by decide) (by decide))).trans (frL_34.2.1 (g.2.2 70) ⟨(hD1 70 (by decide) 74 (by decide) (by decide)), trivial⟩)
        have w_8 : G_2.2.1 (g.2.2 71) = (G.2.1 (g.2.2 71)) := by rw [eaf_3]; exact (aset_ne (hD1 71 (by decide) 74 (by decide) (by decide))).trans (frL_34.2.1 (g.2.2 71) ⟨(hD1 71 (by decide) 74 (by decide) (by decide)), trivial⟩)
        have w_9 : G_2.2.1 (g.2.2 72) = (G.2.1 (g.2.2 72)) := by rw [eaf_3]; exact (aset_ne (hD1 72 (by decide) 74 (by decide) (by decide))).trans (frL_34.2.1 (g.2.2 72) ⟨(hD1 72 (by decide) 74 (by decide) (by decide)), trivial⟩)
        have w_10 : G_2.2.1 (g.2.2 74) = f_3 := by rw [eaf_3]; exact aset_eq
        clear oq hz
        obtain ⟨x_11, ex_11⟩ : ∃ y : Int32, y = y2_2 + 1 := ⟨_, rfl⟩
        try rw [← ex_11] at hv
        have rx_11 : rgI (1) (24) x_11 := by rw [ex_11]; exact rg_w (rg_add ry2_34 rl_1 (by decide) (by decide)) (by decide) (by decide)
        have qx_11 : x_11.toInt = (y2_2 : Int32).toInt + 1 := by rw [ex_11]; exact rg_addE ry2_34 rl_1 (by decide) (by decide)
        refine lv_iinc (v := x_11) (lv' := [(2, .int x_11), (0, .ref h0), (1, .int a0)]) hx hb dX3_measure_35 hl (k := 2) rfl (by rw [ex_11]; rfl) (by decide) rfl (fun ls hl => ?_)
        refine lv_goto (tgt := 2) hx hb dX3_measure_38 (by decide) ?_
        exact ih_2 H locs G_2 f_3 x_11 ls fr_4 w_10 (rg_w rx_11 (by decide) (by decide)) (by have h1 := qx_11; have h2 := ry2_34.1; have h3 := ry2_34.2; have h4 := hm_2; omega) (lv_sub hl [1, 2, 0] rfl) hv hH hS
      rw [F_X3_measure_2] at hv
      refine lv_iload_n hx hb dX3_measure_2 rfl (lv_at hl 2 rfl) ?_
      refine lv_bipush (v := 24) hx hb dX3_measure_3 (by decide) ?_
      refine lv_icmp_ge (tgt := 41) hx hb dX3_measure_5 (by decide) (fun c_12 => ?_) (fun c_12 => ?_)
      · rw [if_pos c_12] at hv
        have r_13 : rgI (24) (24) y2_2 := rg_w (rg_leR rl_24 ry2_2 c_12) (by decide) (by decide)
        exact W.vret hx hb hr (fun t ht hWm => ⟨⟨(Ty, G_2), rfl, ⟨rfl, ⟨frL_2, hv.symm.trans (by rw [efl3_2])⟩⟩, by show HT g Ty G_2 t.heap; rw [ht]; exact hH⟩, hS.F ht⟩) hS.2.2 dX3_measure_41
      · rw [if_neg c_12] at hv
        have r_14 : rgI (0) (23) y2_2 := rg_w (rg_ltL ry2_2 rl_24 (nle_lt c_12)) (by decide) (by decide)
        refine lv_aload_n hx hb dX3_measure_8 rfl (lv_at hl 0 rfl) ?_
        obtain ⟨_, ⟨q_17, q_18, rfl, kq_16, kq_17, kq_18, kq_20, rq_19, t_22⟩, o_c_15⟩ := hH h0 _ k_h0
        refine hg_get hx hb hG igX3 hown hK o_c_15 rfl 4 (by decide) (hG _ mw_299) rfl dX3_measure_9 ?_
        refine lv_iload_n hx hb dX3_measure_12 rfl (lv_at hl 2 rfl) ?_
        refine lv_aload_n hx hb dX3_measure_13 rfl (lv_at hl 0 rfl) ?_
        refine hg_get hx hb hG igX3 hown hK o_c_15 rfl 0 (by decide) (hG _ mw_294) rfl dX3_measure_14 ?_
        refine lv_iload_n hx hb dX3_measure_17 rfl (lv_at hl 2 rfl) ?_
        obtain ⟨_, ⟨rfl, kq_24, kq_25, kq_26, t_31⟩, o_c_23⟩ := hH (g.2.2 0) _ kq_16
        refine vp_callSi (W.runV (As := [.int y2_2]) (rest := [.int y2_2, .ref (g.2.2 74)]) ⟨hx, hb, hml, hown, hts⟩ (c_X10_has l g Ty G_2 (g.2.2 0) y2_2 kq_16) (cwV 1 hts (gwV mw_1032 mw_604 mw_605 mw_77 mw_606) rfl rfl rfl hv_X10_has ⟨Nat.le_of_ble_eq_true rfl, Nat.le_of_ble_eq_true rfl⟩) ⟨PcH_blind, hg_recv hK o_c_23 rfl, PcH_pre hK hH⟩ rfl rfl hl.1 rfl (lv_room (Nat.le_of_ble_eq_true rfl)) dX3_measure_18 ⟨Nat.zero_le _, Nat.zero_le _⟩) (fun x_32 hx_32 => ?_)
        have rx_32 : rgI (0) (1) x_32 := hx_32.1
        try rw [← hx_32.2.2] at hv
        have ex_33 : x_32 = F_X10_has (G.1 20) y2_2 := hx_32.2.2.trans (by rw [(frL_2.1 20 (by decide))])
        try rw [← ex_33] at hv
        refine lv_if_eq (tgt := 33) hx hb dX3_measure_21 (by decide) (fun c_34 => ?_) (fun c_34 => ?_)
        · rw [if_pos c_34] at hv
          have r_35 : rgI (0) (0) x_32 := rg_w (rg_eq rl_0 c_34) (by decide) (by decide)
          refine lv_iconst (v := 0) hx hb dX3_measure_33 (by decide) ?_
          exact L_34 H locs G_2 fl3_2 0 ls frL_2 efl3_2 r_14 r_14 kq_20 (lv_sub hl [0, 1, 2] rfl) hv hH hS
        · rw [if_neg c_34] at hv
          have r_36 : rgI (1) (1) x_32 := rg_w (rg_neL rx_32 rl_0 c_34) (by decide) (by decide)
          refine lv_aload_n hx hb dX3_measure_24 rfl (lv_at hl 0 rfl) ?_
          refine lv_iload_n hx hb dX3_measure_25 rfl (lv_at hl 1 rfl) ?_
          refine lv_iload_n hx hb dX3_measure_26 rfl (lv_at hl 2 rfl) ?_
          refine vp_callSi (W.runV (As := [.int a0, .int y2_2]) (rest := [.int y2_2, .ref (g.2.2 74)]) ⟨hx, hb, hml, hown, hts⟩ (c_X3_measureOf l g Ty G_2 h0 a0 y2_2 k_h0) (cwV 2 hts (gwV mw_1033 mw_1035 mw_25 mw_85 mw_1036) rfl rfl rfl hv_X3_measureOf ⟨Nat.le_of_ble_eq_true rfl, Nat.le_of_ble_eq_true rfl⟩) ⟨PcH_blind, hg_recv hK o_c_15 rfl, PcH_pre hK hH⟩ rfl rfl hl.1 rfl (lv_room (Nat.le_of_ble_eq_true rfl)) dX3_measure_27 ⟨Nat.zero_le _, Nat.zero_le _⟩) (fun x_37 hx_37 => ?_)
          try rw [← hx_37] at hv
          have ex_38 : x_37 = F_X3_measureOf (G.2.1 (g.2.2 70)) (G.2.1 (g.2.2 71)) (G.2.1 (g.2.2 72)) (G.1 20) (G.1 21) a0 y2_2 := hx_37.trans (by rw [(frL_2.2.1 (g.2.2 70) ⟨(hD1 70 (by decide) 74 (by decide) (by decide)), trivial⟩), (frL_2.2.1 (g.2.2 71) ⟨(hD1 71 (by decide) 74 (by decide) (by decide)), trivial⟩), (frL_2.2.1 (g.2.2 72) ⟨(hD1 72 (by decide) 74 (by decide) (by decide)), trivial⟩), (frL_2.1 20 (by decide)), (frL_2.1 21 (by decide))])
          try rw [← ex_38] at hv
          refine lv_goto (tgt := 34) hx hb dX3_measure_30 (by decide) ?_
          exact L_34 H locs G_2 fl3_2 x_37 ls frL_2 efl3_2 r_14 r_14 kq_20 (lv_sub hl [0, 1, 2] rfl) hv hH hS
  refine lv_iconst (v := 0) hx hb dX3_measure_0 (by decide) ?_
  refine lv_istore_n (lv' := [(2, .int 0), (0, .ref h0), (1, .int a0)]) hx hb dX3_measure_1 rfl hl (by decide) rfl (fun ls hl => ?_)
  exact L_2 26 s.heap [] G (G.2.1 (g.2.2 74)) 0 ls FR.rf rfl (rg_w rl_0 (by decide) (by decide)) (by decide) (lv_sub hl [1, 2, 0] rfl) hv hH hS

def F_X3_soOf_5 : Nat → Int32 → Int32 → Int32 → Int32 → (Nat → Int32) → Int32
  | 0, _, _, y3, _, _ => y3
  | n + 1, y1, y2, y3, y4, yr0 => (if (24 : Int32) ≤ y4 then y3 else (if y1 = (1 : Int32) then (if (yr0 (Int32.toNatClampNeg y4)) < y2 then (F_X3_soOf_5 n y1 y2 y3 (y4 + (1 : Int32)) yr0) else (F_X3_soOf_5 n y1 y2 (y3 ||| ((1 : Int32) <<< (y4 &&& 31))) (y4 + (1 : Int32)) yr0)) else (if y1 = (4 : Int32) then (if (yr0 (Int32.toNatClampNeg y4)) ≤ y2 then (F_X3_soOf_5 n y1 y2 y3 (y4 + (1 : Int32)) yr0) else (F_X3_soOf_5 n y1 y2 (y3 ||| ((1 : Int32) <<< (y4 &&& 31))) (y4 + (1 : Int32)) yr0)) else (if (yr0 (Int32.toNatClampNeg y4)) = y2 then (F_X3_soOf_5 n y1 y2 (y3 ||| ((1 : Int32) <<< (y4 &&& 31))) (y4 + (1 : Int32)) yr0) else (F_X3_soOf_5 n y1 y2 y3 (y4 + (1 : Int32)) yr0)))))
def F_X3_soOf (r0 : Nat → Int32) (a0 : Int32) (a1 : Int32) : Int32 := (F_X3_soOf_5 26 a0 a1 (0 : Int32) (0 : Int32) r0)
set_option maxHeartbeats 4000000 in
set_option maxRecDepth 100000 in
theorem c_X3_soOf (l : Launch) (g : Gx) (Ty : TyM) (G : Gh) (h0 : Nat) (a0 : Int32) (a1 : Int32) (k_h0 : Ty h0 = some (13, 0)) : Met l yX3_soOf (wsG yX3_soOf cX3_soOf 6 (some .int)) ({ frames := 0, cells := 0, slots := 0, locals := 0 }) (PcH g Ty G [.ref h0, .int a0, .int a1]) (vp_Si (fun r => r = F_X3_soOf (G.2.1 (g.2.2 74)) a0 a1)) 0 0 (fun _ => False) := by
  refine Met.ofW (cc := cX3_soOf) (maxL := 6) (ret := (some .int)) (by decide) rfl ?_
  intro p e s m args below meth c s₁ B hml hv
  obtain ⟨rfl, hK, hH⟩ := hv
  have hx := B.exec
  have hb := B.bytes
  have hr := B.returns
  have hts := atoms_spec (ws := (wsG yX3_soOf cX3_soOf 6 (some .int))) B.pre
  have hG : ∀ w ∈ GW, w.before ([.ref h0, .int a0, .int a1] : List Value).toArray s = true := fun w h => hts w (List.mem_cons_of_mem _ h)
  have hown : s.vm.findClass RX3 = some m.cls := findClass_of_methodNamed B.named
  have hlocks := B.notSynchronized
  have hl := lv_entry [.ref h0, .int a0, .int a1] (n := 6) (Nat.le_of_ble_eq_true rfl)
  rw [lg_entry_eq]
  generalize (lg_sl [.ref h0, .int a0, .int a1] ++ List.replicate (6 - (lg_sl [.ref h0, .int a0, .int a1]).length) Slot.unset).toArray = ls at hl ⊢
  have hl : lv_has ls 6 [(0, .ref h0), (1, .int a0), (2, .int a1)] := hl
  have hv : (F_X3_soOf_5 26 a0 a1 (0 : Int32) (0 : Int32) (G.2.1 (g.2.2 74))) = F_X3_soOf (G.2.1 (g.2.2 74)) a0 a1 := rfl
  have L_5 : ∀ (n_5 : Nat) (y3_5 : Int32) (y4_5 : Int32) (ls : Array Slot), rgI (0) (24) y4_5 → (24 - (y4_5).toInt).toNat < n_5 → lv_has ls 6 [(0, .ref h0), (1, .int a0), (2, .int a1), (3, .int y3_5), (4, .int y4_5)] → (F_X3_soOf_5 n_5 a0 a1 y3_5 y4_5 (G.2.1 (g.2.2 74))) = F_X3_soOf (G.2.1 (g.2.2 74)) a0 a1 → Wm p l e (wsG yX3_soOf cX3_soOf 6 (some .int)) ({ frames := 0, cells := 0, slots := 0, locals := 0 }) s m [.ref h0, .int a0, .int a1] below meth c s.heap [] (0) (0) (vp_Si (fun r => r = F_X3_soOf (G.2.1 (g.2.2 74)) a0 a1)) 0 0 (fun _ => False) (F0 m 5 ls []) := by
    intro n_5
    induction n_5 with
    | zero => intro y3_5 y4_5 ls ry4_5 hm; exact absurd hm (Nat.not_lt_zero _)
    | succ n_5 ih_5 =>
      intro y3_5 y4_5 ls ry4_5 hm_5 hl hv
      have L_90 : ∀ (y3_90 : Int32) (ls : Array Slot), rgI (0) (23) y4_5 → lv_has ls 6 [(0, .ref h0), (1, .int a0), (2, .int a1), (3, .int y3_90), (4, .int y4_5)] → (F_X3_soOf_5 n_5 a0 a1 y3_90 (y4_5 + (1 : Int32)) (G.2.1 (g.2.2 74))) = F_X3_soOf (G.2.1 (g.2.2 74)) a0 a1 → Wm p l e (wsG yX3_soOf cX3_soOf 6 (some .int)) ({ frames := 0, cells := 0, slots := 0, locals := 0 }) s m [.ref h0, .int a0, .int a1] below meth c s.heap [] (0) (0) (vp_Si (fun r => r = F_X3_soOf (G.2.1 (g.2.2 74)) a0 a1)) 0 0 (fun _ => False) (F0 m 90 ls []) := by
        intro y3_90 ls ry4_90 hl hv
        obtain ⟨x_1, ex_1⟩ : ∃ y : Int32, y = y4_5 + 1 := ⟨_, rfl⟩
        try rw [← ex_1] at hv
        have rx_1 : rgI (1) (24) x_1 := by rw [ex_1]; exact rg_w (rg_add ry4_90 rl_1 (by decide) (by decide)) (by decide) (by decide)
        have qx_1 : x_1.toInt = (y4_5 : Int32).toInt + 1 := by rw [ex_1]; exact rg_addE ry4_90 rl_1 (by decide) (by decide)
        refine lv_iinc (v := x_1) (lv' := [(4, .int x_1), (0, .ref h0), (1, .int a0), (2, .int a1), (3, .int y3_90)]) hx hb dX3_soOf_90 hl (k := 4) rfl (by rw [ex_1]; rfl) (by decide) rfl (fun ls hl => ?_)
        refine lv_goto (tgt := 5) hx hb dX3_soOf_93 (by decide) ?_
        exact ih_5 y3_90 x_1 ls (rg_w rx_1 (by decide) (by decide)) (by have h1 := qx_1; have h2 := ry4_90.1; have h3 := ry4_90.2; have h4 := hm_5; omega) (lv_sub hl [1, 2, 3, 4, 0] rfl) hv
      have L_76 : ∀ (z0_76 : Int32) (ls : Array Slot), rgI (0) (23) y4_5 → rgI (0) (1) z0_76 → lv_has ls 6 [(0, .ref h0), (1, .int a0), (2, .int a1), (3, .int y3_5), (4, .int y4_5)] → (if z0_76 = (0 : Int32) then (F_X3_soOf_5 n_5 a0 a1 y3_5 (y4_5 + (1 : Int32)) (G.2.1 (g.2.2 74))) else (F_X3_soOf_5 n_5 a0 a1 (y3_5 ||| ((1 : Int32) <<< (y4_5 &&& 31))) (y4_5 + (1 : Int32)) (G.2.1 (g.2.2 74)))) = F_X3_soOf (G.2.1 (g.2.2 74)) a0 a1 → Wm p l e (wsG yX3_soOf cX3_soOf 6 (some .int)) ({ frames := 0, cells := 0, slots := 0, locals := 0 }) s m [.ref h0, .int a0, .int a1] below meth c s.heap [] (0) (0) (vp_Si (fun r => r = F_X3_soOf (G.2.1 (g.2.2 74)) a0 a1)) 0 0 (fun _ => False) (F0 m 76 ls [.int z0_76]) := by
        intro z0_76 ls ry4_76 rz0_76 hl hv
        refine lv_istore (lv' := [(5, .int z0_76), (0, .ref h0), (1, .int a0), (2, .int a1), (3, .int y3_5), (4, .int y4_5)]) hx hb dX3_soOf_76 hl (by decide) rfl (fun ls hl => ?_)
        refine lv_iload hx hb dX3_soOf_78 (lv_at hl 0 rfl) ?_
        refine lv_if_eq (tgt := 90) hx hb dX3_soOf_80 (by decide) (fun c_2 => ?_) (fun c_2 => ?_)
        · rw [if_pos c_2] at hv
          have r_3 : rgI (0) (0) z0_76 := rg_w (rg_eq rl_0 c_2) (by decide) (by decide)
          exact L_90 y3_5 ls ry4_76 (lv_sub hl [1, 2, 3, 4, 5] rfl) hv
        · rw [if_neg c_2] at hv
          have r_4 : rgI (1) (1) z0_76 := rg_w (rg_neL rz0_76 rl_0 c_2) (by decide) (by decide)
          refine lv_iload_n hx hb dX3_soOf_83 rfl (lv_at hl 4 rfl) ?_
          refine lv_iconst (v := 1) hx hb dX3_soOf_84 (by decide) ?_
          refine lv_iload hx hb dX3_soOf_85 (lv_at hl 5 rfl) ?_
          refine lv_ishl hx hb dX3_soOf_87 ?_
          refine lv_topi (fun x_5 ex_5 => ?_)
          try rw [← ex_5] at hv
          refine lv_ior hx hb dX3_soOf_88 ?_
          refine lv_topi (fun x_6 ex_6 => ?_)
          try rw [← ex_6] at hv
          refine lv_istore_n (lv' := [(3, .int x_6), (5, .int z0_76), (0, .ref h0), (1, .int a0), (2, .int a1), (4, .int y4_5)]) hx hb dX3_soOf_89 rfl hl (by decide) rfl (fun ls hl => ?_)
          exact L_90 x_6 ls ry4_76 (lv_sub hl [2, 3, 4, 0, 5] rfl) hv
      rw [F_X3_soOf_5] at hv
      refine lv_iload hx hb dX3_soOf_5 (lv_at hl 4 rfl) ?_
      refine lv_bipush (v := 24) hx hb dX3_soOf_7 (by decide) ?_
      refine lv_icmp_ge (tgt := 96) hx hb dX3_soOf_9 (by decide) (fun c_7 => ?_) (fun c_7 => ?_)
      · rw [if_pos c_7] at hv
        have r_8 : rgI (24) (24) y4_5 := rg_w (rg_leR rl_24 ry4_5 c_7) (by decide) (by decide)
        refine lv_iload_n hx hb dX3_soOf_96 rfl (lv_at hl 3 rfl) ?_
        exact W.iret hx hb hr (fun t ht hW => ⟨y3_5, rfl, hv, ht⟩) (fun q h => by cases h) dX3_soOf_97
      · rw [if_neg c_7] at hv
        have r_9 : rgI (0) (23) y4_5 := rg_w (rg_ltL ry4_5 rl_24 (nle_lt c_7)) (by decide) (by decide)
        refine lv_iload_n hx hb dX3_soOf_12 rfl (lv_at hl 1 rfl) ?_
        refine lv_iconst (v := 1) hx hb dX3_soOf_13 (by decide) ?_
        refine lv_icmp_ne (tgt := 36) hx hb dX3_soOf_14 (by decide) (fun c_10 => ?_) (fun c_10 => ?_)
        · rw [if_neg c_10] at hv
          refine lv_iload_n hx hb dX3_soOf_36 rfl (lv_at hl 1 rfl) ?_
          refine lv_iconst (v := 4) hx hb dX3_soOf_37 (by decide) ?_
          refine lv_icmp_ne (tgt := 60) hx hb dX3_soOf_38 (by decide) (fun c_11 => ?_) (fun c_11 => ?_)
          · rw [if_neg c_11] at hv
            refine lv_aload_n hx hb dX3_soOf_60 rfl (lv_at hl 0 rfl) ?_
            obtain ⟨_, ⟨q_14, q_15, rfl, kq_13, kq_14, kq_15, kq_17, rq_16, t_19⟩, o_c_12⟩ := hH h0 _ k_h0
            refine hg_get hx hb hG igX3 hown hK o_c_12 rfl 4 (by decide) (hG _ mw_299) rfl dX3_soOf_61 ?_
            refine lv_iload hx hb dX3_soOf_64 (lv_at hl 4 rfl) ?_
            obtain ⟨_, rfl, o_c_20⟩ := hH (g.2.2 74) _ kq_17
            have o_c_20 : va_at g.1 vwCl ((g.2.2 74), .inl (g.2.1 1, 24, .inl (G.2.1 (g.2.2 74)))) s.heap := o_c_20
            refine hg_iald hx hb hK o_c_20 (rg_in (n := 24) r_9 (by decide) (by decide)) dX3_soOf_66 ?_
            refine lv_topi (fun x_21 ex_21 => ?_)
            try rw [← ex_21] at hv
            refine lv_iload_n hx hb dX3_soOf_67 rfl (lv_at hl 2 rfl) ?_
            refine lv_icmp_ne (tgt := 75) hx hb dX3_soOf_68 (by decide) (fun c_22 => ?_) (fun c_22 => ?_)
            · rw [if_neg c_22] at hv
              refine lv_iconst (v := 0) hx hb dX3_soOf_75 (by decide) ?_
              exact L_76 0 ls r_9 (rg_w rl_0 (by decide) (by decide)) (lv_sub hl [0, 1, 2, 3, 4] rfl) hv
            · rw [if_pos c_22] at hv
              refine lv_iconst (v := 1) hx hb dX3_soOf_71 (by decide) ?_
              refine lv_goto (tgt := 76) hx hb dX3_soOf_72 (by decide) ?_
              exact L_76 1 ls r_9 (rg_w rl_1 (by decide) (by decide)) (lv_sub hl [0, 1, 2, 3, 4] rfl) hv
          · rw [if_pos c_11] at hv
            have r_23 : rgI (4) (4) a0 := rg_w (rg_eq rl_4 c_11) (by decide) (by decide)
            refine lv_aload_n hx hb dX3_soOf_41 rfl (lv_at hl 0 rfl) ?_
            obtain ⟨_, ⟨q_26, q_27, rfl, kq_25, kq_26, kq_27, kq_29, rq_28, t_31⟩, o_c_24⟩ := hH h0 _ k_h0
            refine hg_get hx hb hG igX3 hown hK o_c_24 rfl 4 (by decide) (hG _ mw_299) rfl dX3_soOf_42 ?_
            refine lv_iload hx hb dX3_soOf_45 (lv_at hl 4 rfl) ?_
            obtain ⟨_, rfl, o_c_32⟩ := hH (g.2.2 74) _ kq_29
            have o_c_32 : va_at g.1 vwCl ((g.2.2 74), .inl (g.2.1 1, 24, .inl (G.2.1 (g.2.2 74)))) s.heap := o_c_32
            refine hg_iald hx hb hK o_c_32 (rg_in (n := 24) r_9 (by decide) (by decide)) dX3_soOf_47 ?_
            refine lv_topi (fun x_33 ex_33 => ?_)
            try rw [← ex_33] at hv
            refine lv_iload_n hx hb dX3_soOf_48 rfl (lv_at hl 2 rfl) ?_
            refine lv_icmp_le (tgt := 56) hx hb dX3_soOf_49 (by decide) (fun c_34 => ?_) (fun c_34 => ?_)
            · rw [if_pos c_34] at hv
              refine lv_iconst (v := 0) hx hb dX3_soOf_56 (by decide) ?_
              refine lv_goto (tgt := 76) hx hb dX3_soOf_57 (by decide) ?_
              exact L_76 0 ls r_9 (rg_w rl_0 (by decide) (by decide)) (lv_sub hl [0, 1, 2, 3, 4] rfl) hv
            · rw [if_neg c_34] at hv
              have r_35 : rgI (-2147483648) (2147483646) a1 := rg_w (rg_ltL (rg_top a1) (rg_top x_33) (nle_lt c_34)) (by decide) (by decide)
              have r_36 : rgI (-2147483647) (2147483647) x_33 := rg_w (rg_ltR (rg_top a1) (rg_top x_33) (nle_lt c_34)) (by decide) (by decide)
              refine lv_iconst (v := 1) hx hb dX3_soOf_52 (by decide) ?_
              refine lv_goto (tgt := 76) hx hb dX3_soOf_53 (by decide) ?_
              exact L_76 1 ls r_9 (rg_w rl_1 (by decide) (by decide)) (lv_sub hl [0, 1, 2, 3, 4] rfl) hv
        · rw [if_pos c_10] at hv
          have r_37 : rgI (1) (1) a0 := rg_w (rg_eq rl_1 c_10) (by decide) (by decide)
          refine lv_aload_n hx hb dX3_soOf_17 rfl (lv_at hl 0 rfl) ?_
          obtain ⟨_, ⟨q_40, q_41, rfl, kq_39, kq_40, kq_41, kq_43, rq_42, t_45⟩, o_c_38⟩ := hH h0 _ k_h0
          refine hg_get hx hb hG igX3 hown hK o_c_38 rfl 4 (by decide) (hG _ mw_299) rfl dX3_soOf_18 ?_
          refine lv_iload hx hb dX3_soOf_21 (lv_at hl 4 rfl) ?_
          obtain ⟨_, rfl, o_c_46⟩ := hH (g.2.2 74) _ kq_43
          have o_c_46 : va_at g.1 vwCl ((g.2.2 74), .inl (g.2.1 1, 24, .inl (G.2.1 (g.2.2 74)))) s.heap := o_c_46
          refine hg_iald hx hb hK o_c_46 (rg_in (n := 24) r_9 (by decide) (by decide)) dX3_soOf_23 ?_
          refine lv_topi (fun x_47 ex_47 => ?_)
          try rw [← ex_47] at hv
          refine lv_iload_n hx hb dX3_soOf_24 rfl (lv_at hl 2 rfl) ?_
          refine lv_icmp_lt (tgt := 32) hx hb dX3_soOf_25 (by decide) (fun c_48 => ?_) (fun c_48 => ?_)
          · rw [if_pos c_48] at hv
            have r_49 : rgI (-2147483648) (2147483646) x_47 := rg_w (rg_ltL (rg_top x_47) (rg_top a1) c_48) (by decide) (by decide)
            have r_50 : rgI (-2147483647) (2147483647) a1 := rg_w (rg_ltR (rg_top x_47) (rg_top a1) c_48) (by decide) (by decide)
            refine lv_iconst (v := 0) hx hb dX3_soOf_32 (by decide) ?_
            refine lv_goto (tgt := 76) hx hb dX3_soOf_33 (by decide) ?_
            exact L_76 0 ls r_9 (rg_w rl_0 (by decide) (by decide)) (lv_sub hl [0, 1, 2, 3, 4] rfl) hv
          · rw [if_neg c_48] at hv
            refine lv_iconst (v := 1) hx hb dX3_soOf_28 (by decide) ?_
            refine lv_goto (tgt := 76) hx hb dX3_soOf_29 (by decide) ?_
            exact L_76 1 ls r_9 (rg_w rl_1 (by decide) (by decide)) (lv_sub hl [0, 1, 2, 3, 4] rfl) hv
  refine lv_iconst (v := 0) hx hb dX3_soOf_0 (by decide) ?_
  refine lv_istore_n (lv' := [(3, .int 0), (0, .ref h0), (1, .int a0), (2, .int a1)]) hx hb dX3_soOf_1 rfl hl (by decide) rfl (fun ls hl => ?_)
  refine lv_iconst (v := 0) hx hb dX3_soOf_2 (by decide) ?_
  refine lv_istore (lv' := [(4, .int 0), (3, .int 0), (0, .ref h0), (1, .int a0), (2, .int a1)]) hx hb dX3_soOf_3 hl (by decide) rfl (fun ls hl => ?_)
  exact L_5 26 0 0 ls (rg_w rl_0 (by decide) (by decide)) (by decide) (lv_sub hl [2, 3, 4, 1, 0] rfl) hv

def F_X3_fitting_10 : Nat → Int32 → Int32 → Int32 → Int32
  | 0, y1, _, _ => y1
  | n + 1, y1, y2, yn20 => y1
def F_X3_fitting (m20 : Int32) : Int32 := (F_X3_fitting_10 14 m20 (0 : Int32) m20)
set_option maxHeartbeats 4000000 in
set_option maxRecDepth 100000 in
theorem c_X3_fitting (l : Launch) (g : Gx) (Ty : TyM) (G : Gh) (sz : Nat) (h0 : Nat) (k_h0 : Ty h0 = some (13, 0)) (h1 : G.1 1 = 0) : Met l yX3_fitting (wsG yX3_fitting cX3_fitting 3 (some .int)) ({ frames := 5, cells := 0, slots := 0, locals := 115 }) (PcT g Ty G sz [.ref h0]) (QwI g Ty sz (fun r u => (r = F_X3_fitting (G.1 20)) ∧ u = (Ty, G))) 0 0 (AF Ty sz) := by
  refine Met.ofW (cc := cX3_fitting) (maxL := 3) (ret := (some .int)) (by decide) rfl ?_
  intro p e s m args below meth c s₁ B hml hv
  obtain ⟨rfl, hsz, hK, hH⟩ := hv
  subst hsz
  have hx := B.exec
  have hb := B.bytes
  have hr := B.returns
  have hts := atoms_spec (ws := (wsG yX3_fitting cX3_fitting 3 (some .int))) B.pre
  have hG : ∀ w ∈ GW, w.before ([.ref h0] : List Value).toArray s = true := fun w h => hts w (List.mem_cons_of_mem _ h)
  have hown : s.vm.findClass RX3 = some m.cls := findClass_of_methodNamed B.named
  have hlocks := B.notSynchronized
  have hl := lv_entry [.ref h0] (n := 3) (Nat.le_of_ble_eq_true rfl)
  rw [lg_entry_eq]
  generalize (lg_sl [.ref h0] ++ List.replicate (3 - (lg_sl [.ref h0]).length) Slot.unset).toArray = ls at hl ⊢
  have hl : lv_has ls 3 [(0, .ref h0)] := hl
  have hv : (F_X3_fitting_10 14 (G.1 20) (0 : Int32) (G.1 20)) = F_X3_fitting (G.1 20) := rfl
  have hS : va_S (AF Ty s.heap.size) s.heap s.heap [] := va_S.rf
  have L_59 : ∀ (H : Heap) (locs : List Loc) (y1_59 : Int32) (ls : Array Slot), lv_has ls 3 [(1, .int y1_59)] → y1_59 = F_X3_fitting (G.1 20) → HT g Ty G H → va_S (AF Ty s.heap.size) s.heap H locs → Wm p l e (wsG yX3_fitting cX3_fitting 3 (some .int)) ({ frames := 5, cells := 0, slots := 0, locals := 115 }) s m [.ref h0] below meth c H locs (0) (0) (QwI g Ty s.heap.size (fun r u => (r = F_X3_fitting (G.1 20)) ∧ u = (Ty, G))) 0 0 (AF Ty s.heap.size) (F0 m 59 ls []) := by
    intro H locs y1_59 ls hl hv hH hS
    refine lv_iload_n hx hb dX3_fitting_59 rfl (lv_at hl 0 rfl) ?_
    exact W.iret hx hb hr (fun t ht hWm => ⟨⟨y1_59, (Ty, G), rfl, ⟨hv, rfl⟩, by show HT g Ty G t.heap; rw [ht]; exact hH⟩, hS.F ht⟩) hS.2.2 dX3_fitting_60
  have L_10 : ∀ (n_10 : Nat) (H : Heap) (locs : List Loc) (y1_10 : Int32) (y2_10 : Int32) (ls : Array Slot), rgI (0) (0) y2_10 → (12 - (y2_10).toInt).toNat < n_10 → lv_has ls 3 [(0, .ref h0), (1, .int y1_10), (2, .int y2_10)] → (F_X3_fitting_10 n_10 y1_10 y2_10 (G.1 20)) = F_X3_fitting (G.1 20) → HT g Ty G H → va_S (AF Ty s.heap.size) s.heap H locs → Wm p l e (wsG yX3_fitting cX3_fitting 3 (some .int)) ({ frames := 5, cells := 0, slots := 0, locals := 115 }) s m [.ref h0] below meth c H locs (0) (0) (QwI g Ty s.heap.size (fun r u => (r = F_X3_fitting (G.1 20)) ∧ u = (Ty, G))) 0 0 (AF Ty s.heap.size) (F0 m 10 ls []) := by
    intro n_10
    induction n_10 with
    | zero => intro H locs y1_10 y2_10 ls ry2_10 hm; exact absurd hm (Nat.not_lt_zero _)
    | succ n_10 ih_10 =>
      intro H locs y1_10 y2_10 ls ry2_10 hm_10 hl hv hH hS
      rw [F_X3_fitting_10] at hv
      refine lv_iload_n hx hb dX3_fitting_10 rfl (lv_at hl 2 rfl) ?_
      refine lv_aload_n hx hb dX3_fitting_11 rfl (lv_at hl 0 rfl) ?_
      obtain ⟨_, ⟨q_3, q_4, rfl, kq_2, kq_3, kq_4, kq_6, rq_5, t_8⟩, o_c_1⟩ := hH h0 _ k_h0
      refine hg_get hx hb hG igX3 hown hK o_c_1 rfl 3 (by decide) (hG _ mw_297) rfl dX3_fitting_12 ?_
      rw [h1]
      refine lv_icmp_ge (tgt := 59) hx hb dX3_fitting_15 (by decide) (fun c_9 => ?_) (fun c_9 => ?_)
      · exact L_59 H locs y1_10 ls (lv_sub hl [1] rfl) hv hH hS
      · exact rg_no ry2_10 rl_0 (nle_lt c_9) (by decide)
  refine lv_aload_n hx hb dX3_fitting_0 rfl (lv_at hl 0 rfl) ?_
  obtain ⟨_, ⟨q_12, q_13, rfl, kq_11, kq_12, kq_13, kq_15, rq_14, t_17⟩, o_c_10⟩ := hH h0 _ k_h0
  refine hg_get hx hb hG igX3 hown hK o_c_10 rfl 0 (by decide) (hG _ mw_294) rfl dX3_fitting_1 ?_
  obtain ⟨_, ⟨rfl, kq_19, kq_20, kq_21, t_26⟩, o_c_18⟩ := hH (g.2.2 0) _ kq_11
  refine hg_getN hx hb hG igX10 hown hK o_c_18 rfl 3 (by decide) ((hK.2.1 _ nwf_119).use rfl) rfl dX3_fitting_4 ?_
  refine lv_istore_n (lv' := [(1, .int (G.1 20)), (0, .ref h0)]) hx hb dX3_fitting_7 rfl hl (by decide) rfl (fun ls hl => ?_)
  refine lv_iconst (v := 0) hx hb dX3_fitting_8 (by decide) ?_
  refine lv_istore_n (lv' := [(2, .int 0), (1, .int (G.1 20)), (0, .ref h0)]) hx hb dX3_fitting_9 rfl hl (by decide) rfl (fun ls hl => ?_)
  exact L_10 14 s.heap [] (G.1 20) 0 ls (rg_w rl_0 (by decide) (by decide)) (by decide) (lv_sub hl [2, 1, 0] rfl) hv hH hS

def F_X0_bindableTree_32 : Nat → Int32 → Int32 → Int32 → Int32 → (Nat → Int32) → Int32 → Int32
  | 0, y2, _, _, _, _, _ => y2
  | n + 1, y2, y3, y4, y5, yr0, yn21 => (if (24 : Int32) ≤ y5 then y2 else (if (F_X10_parentOf yr0 y5) = (24 : Int32) then (F_X0_bindableTree_32 n y2 y3 y4 (y5 + (1 : Int32)) yr0 yn21) else (if (y2 &&& ((1 : Int32) <<< ((F_X10_parentOf yr0 y5) &&& 31))) = (0 : Int32) then (F_X0_bindableTree_32 n y2 y3 y4 (y5 + (1 : Int32)) yr0 yn21) else (if (F_X10_isUnbindable yn21 y5) = (0 : Int32) then (F_X0_bindableTree_32 n (y2 ||| ((1 : Int32) <<< (y5 &&& 31))) y3 y4 (y5 + (1 : Int32)) yr0 yn21) else (F_X0_bindableTree_32 n y2 y3 y4 (y5 + (1 : Int32)) yr0 yn21)))))
def F_X0_bindableTree_9 : Nat → Int32 → Int32 → Int32 → (Nat → Int32) → Int32 → Int32
  | 0, y2, _, _, _, _ => y2
  | n + 1, y2, y3, y4, yr0, yn21 => (if (24 : Int32) ≤ y4 then y2 else (if (F_J6_bitCount_0f7a4 y2) ≤ y3 then y2 else (F_X0_bindableTree_9 n (F_X0_bindableTree_32 26 y2 (F_J6_bitCount_0f7a4 y2) y4 (0 : Int32) yr0 yn21) (F_J6_bitCount_0f7a4 y2) (y4 + (1 : Int32)) yr0 yn21)))
def F_X0_bindableTree (r0 : Nat → Int32) (m21 : Int32) (a0 : Int32) : Int32 := (F_X0_bindableTree_9 26 ((1 : Int32) <<< (a0 &&& 31)) (0 : Int32) (0 : Int32) r0 m21)
set_option maxHeartbeats 4000000 in
set_option maxRecDepth 100000 in
theorem c_X0_bindableTree (l : Launch) (g : Gx) (Ty : TyM) (G : Gh) (h0 : Nat) (a0 : Int32) (k_h0 : Ty h0 = some (10, 0)) : Met l yX0_bindableTree (wsG yX0_bindableTree cX0_bindableTree 7 (some .int)) ({ frames := 1, cells := 0, slots := 0, locals := 21 }) (PcH g Ty G [.ref h0, .int a0]) (vp_Si (fun r => r = F_X0_bindableTree (G.2.1 (g.2.2 70)) (G.1 21) a0)) 0 0 (fun _ => False) := by
  refine Met.ofW (cc := cX0_bindableTree) (maxL := 7) (ret := (some .int)) (by decide) rfl ?_
  intro p e s m args below meth c s₁ B hml hv
  obtain ⟨rfl, hK, hH⟩ := hv
  have hx := B.exec
  have hb := B.bytes
  have hr := B.returns
  have hts := atoms_spec (ws := (wsG yX0_bindableTree cX0_bindableTree 7 (some .int))) B.pre
  have hG : ∀ w ∈ GW, w.before ([.ref h0, .int a0] : List Value).toArray s = true := fun w h => hts w (List.mem_cons_of_mem _ h)
  have hown : s.vm.findClass RX0 = some m.cls := findClass_of_methodNamed B.named
  have hlocks := B.notSynchronized
  have hl := lv_entry [.ref h0, .int a0] (n := 7) (Nat.le_of_ble_eq_true rfl)
  rw [lg_entry_eq]
  generalize (lg_sl [.ref h0, .int a0] ++ List.replicate (7 - (lg_sl [.ref h0, .int a0]).length) Slot.unset).toArray = ls at hl ⊢
  have hl : lv_has ls 7 [(0, .ref h0), (1, .int a0)] := hl
  have hv : (F_X0_bindableTree_9 26 ((1 : Int32) <<< (a0 &&& 31)) (0 : Int32) (0 : Int32) (G.2.1 (g.2.2 70)) (G.1 21)) = F_X0_bindableTree (G.2.1 (g.2.2 70)) (G.1 21) a0 := rfl
  have L_97 : ∀ (y2_97 : Int32) (ls : Array Slot), lv_has ls 7 [(2, .int y2_97)] → y2_97 = F_X0_bindableTree (G.2.1 (g.2.2 70)) (G.1 21) a0 → Wm p l e (wsG yX0_bindableTree cX0_bindableTree 7 (some .int)) ({ frames := 1, cells := 0, slots := 0, locals := 21 }) s m [.ref h0, .int a0] below meth c s.heap [] (0) (0) (vp_Si (fun r => r = F_X0_bindableTree (G.2.1 (g.2.2 70)) (G.1 21) a0)) 0 0 (fun _ => False) (F0 m 97 ls []) := by
    intro y2_97 ls hl hv
    refine lv_iload_n hx hb dX0_bindableTree_97 rfl (lv_at hl 0 rfl) ?_
    exact W.iret hx hb hr (fun t ht hW => ⟨y2_97, rfl, hv, ht⟩) (fun q h => by cases h) dX0_bindableTree_98
  have L_9 : ∀ (n_9 : Nat) (y2_9 : Int32) (y3_9 : Int32) (y4_9 : Int32) (ls : Array Slot), rgI (0) (63) y3_9 → rgI (0) (24) y4_9 → (24 - (y4_9).toInt).toNat < n_9 → lv_has ls 7 [(0, .ref h0), (2, .int y2_9), (3, .int y3_9), (4, .int y4_9)] → (F_X0_bindableTree_9 n_9 y2_9 y3_9 y4_9 (G.2.1 (g.2.2 70)) (G.1 21)) = F_X0_bindableTree (G.2.1 (g.2.2 70)) (G.1 21) a0 → Wm p l e (wsG yX0_bindableTree cX0_bindableTree 7 (some .int)) ({ frames := 1, cells := 0, slots := 0, locals := 21 }) s m [.ref h0, .int a0] below meth c s.heap [] (0) (0) (vp_Si (fun r => r = F_X0_bindableTree (G.2.1 (g.2.2 70)) (G.1 21) a0)) 0 0 (fun _ => False) (F0 m 9 ls []) := by
    intro n_9
    induction n_9 with
    | zero => intro y2_9 y3_9 y4_9 ls ry3_9 ry4_9 hm; exact absurd hm (Nat.not_lt_zero _)
    | succ n_9 ih_9 =>
      intro y2_9 y3_9 y4_9 ls ry3_9 ry4_9 hm_9 hl hv
      have L_32 : ∀ (n_32 : Nat) (y2_32 : Int32) (y3_32 : Int32) (y5_32 : Int32) (ls : Array Slot), rgI (0) (63) y3_32 → rgI (0) (23) y4_9 → rgI (0) (24) y5_32 → (24 - (y5_32).toInt).toNat < n_32 → lv_has ls 7 [(0, .ref h0), (2, .int y2_32), (3, .int y3_32), (4, .int y4_9), (5, .int y5_32)] → (F_X0_bindableTree_9 n_9 (F_X0_bindableTree_32 n_32 y2_32 y3_32 y4_9 y5_32 (G.2.1 (g.2.2 70)) (G.1 21)) y3_32 (y4_9 + (1 : Int32)) (G.2.1 (g.2.2 70)) (G.1 21)) = F_X0_bindableTree (G.2.1 (g.2.2 70)) (G.1 21) a0 → Wm p l e (wsG yX0_bindableTree cX0_bindableTree 7 (some .int)) ({ frames := 1, cells := 0, slots := 0, locals := 21 }) s m [.ref h0, .int a0] below meth c s.heap [] (0) (0) (vp_Si (fun r => r = F_X0_bindableTree (G.2.1 (g.2.2 70)) (G.1 21) a0)) 0 0 (fun _ => False) (F0 m 32 ls []) := by
        intro n_32
        induction n_32 with
        | zero => intro y2_32 y3_32 y5_32 ls ry3_32 ry4_32 ry5_32 hm; exact absurd hm (Nat.not_lt_zero _)
        | succ n_32 ih_32 =>
          intro y2_32 y3_32 y5_32 ls ry3_32 ry4_32 ry5_32 hm_32 hl hv
          have L_85 : ∀ (y2_85 : Int32) (ls : Array Slot), rgI (0) (63) y3_32 → rgI (0) (23) y4_9 → rgI (0) (23) y5_32 → lv_has ls 7 [(0, .ref h0), (2, .int y2_85), (3, .int y3_32), (4, .int y4_9), (5, .int y5_32)] → (F_X0_bindableTree_9 n_9 (F_X0_bindableTree_32 n_32 y2_85 y3_32 y4_9 (y5_32 + (1 : Int32)) (G.2.1 (g.2.2 70)) (G.1 21)) y3_32 (y4_9 + (1 : Int32)) (G.2.1 (g.2.2 70)) (G.1 21)) = F_X0_bindableTree (G.2.1 (g.2.2 70)) (G.1 21) a0 → Wm p l e (wsG yX0_bindableTree cX0_bindableTree 7 (some .int)) ({ frames := 1, cells := 0, slots := 0, locals := 21 }) s m [.ref h0, .int a0] below meth c s.heap [] (0) (0) (vp_Si (fun r => r = F_X0_bindableTree (G.2.1 (g.2.2 70)) (G.1 21) a0)) 0 0 (fun _ => False) (F0 m 85 ls []) := by
            intro y2_85 ls ry3_85 ry4_85 ry5_85 hl hv
            obtain ⟨x_1, ex_1⟩ : ∃ y : Int32, y = y5_32 + 1 := ⟨_, rfl⟩
            try rw [← ex_1] at hv
            have rx_1 : rgI (1) (24) x_1 := by rw [ex_1]; exact rg_w (rg_add ry5_85 rl_1 (by decide) (by decide)) (by decide) (by decide)
            have qx_1 : x_1.toInt = (y5_32 : Int32).toInt + 1 := by rw [ex_1]; exact rg_addE ry5_85 rl_1 (by decide) (by decide)
            refine lv_iinc (v := x_1) (lv' := [(5, .int x_1), (0, .ref h0), (2, .int y2_85), (3, .int y3_32), (4, .int y4_9)]) hx hb dX0_bindableTree_85 hl (k := 4) rfl (by rw [ex_1]; rfl) (by decide) rfl (fun ls hl => ?_)
            refine lv_goto (tgt := 32) hx hb dX0_bindableTree_88 (by decide) ?_
            exact ih_32 y2_85 y3_32 x_1 ls ry3_85 ry4_85 (rg_w rx_1 (by decide) (by decide)) (by have h1 := qx_1; have h2 := ry5_85.1; have h3 := ry5_85.2; have h4 := hm_32; omega) (lv_sub hl [1, 2, 3, 4, 0] rfl) hv
          rw [F_X0_bindableTree_32] at hv
          refine lv_iload hx hb dX0_bindableTree_32 (lv_at hl 4 rfl) ?_
          refine lv_bipush (v := 24) hx hb dX0_bindableTree_34 (by decide) ?_
          refine lv_icmp_ge (tgt := 91) hx hb dX0_bindableTree_36 (by decide) (fun c_2 => ?_) (fun c_2 => ?_)
          · rw [if_pos c_2] at hv
            have r_3 : rgI (24) (24) y5_32 := rg_w (rg_leR rl_24 ry5_32 c_2) (by decide) (by decide)
            obtain ⟨x_4, ex_4⟩ : ∃ y : Int32, y = y4_9 + 1 := ⟨_, rfl⟩
            try rw [← ex_4] at hv
            have rx_4 : rgI (1) (24) x_4 := by rw [ex_4]; exact rg_w (rg_add ry4_32 rl_1 (by decide) (by decide)) (by decide) (by decide)
            have qx_4 : x_4.toInt = (y4_9 : Int32).toInt + 1 := by rw [ex_4]; exact rg_addE ry4_32 rl_1 (by decide) (by decide)
            refine lv_iinc (v := x_4) (lv' := [(4, .int x_4), (0, .ref h0), (2, .int y2_32), (3, .int y3_32), (5, .int y5_32)]) hx hb dX0_bindableTree_91 hl (k := 3) rfl (by rw [ex_4]; rfl) (by decide) rfl (fun ls hl => ?_)
            refine lv_goto (tgt := 9) hx hb dX0_bindableTree_94 (by decide) ?_
            exact ih_9 y2_32 y3_32 x_4 ls ry3_32 (rg_w rx_4 (by decide) (by decide)) (by have h1 := qx_4; have h2 := ry4_32.1; have h3 := ry4_32.2; have h4 := hm_9; omega) (lv_sub hl [1, 2, 3, 0] rfl) hv
          · rw [if_neg c_2] at hv
            have r_5 : rgI (0) (23) y5_32 := rg_w (rg_ltL ry5_32 rl_24 (nle_lt c_2)) (by decide) (by decide)
            refine lv_aload_n hx hb dX0_bindableTree_39 rfl (lv_at hl 0 rfl) ?_
            obtain ⟨_, ⟨rfl, kq_7, kq_8, kq_9⟩, o_c_6⟩ := hH h0 _ k_h0
            refine hg_get hx hb hG igX0 hown hK o_c_6 rfl 0 (by decide) (hG _ mw_239) rfl dX0_bindableTree_40 ?_
            refine lv_iload hx hb dX0_bindableTree_43 (lv_at hl 4 rfl) ?_
            obtain ⟨_, ⟨rfl, kq_11, kq_12, kq_13, t_18⟩, o_c_10⟩ := hH (g.2.2 0) _ kq_7
            refine vp_callSi (W.runV (As := [.int y5_32]) (rest := []) ⟨hx, hb, hml, hown, hts⟩ (c_X10_parentOf l g Ty G (g.2.2 0) y5_32 kq_7) (cwV 1 hts (gwV mw_783 mw_683 mw_684 mw_77 mw_685) rfl rfl rfl hv_X10_parentOf ⟨Nat.le_of_ble_eq_true rfl, Nat.le_of_ble_eq_true rfl⟩) ⟨PcH_blind, hg_recv hK o_c_10 rfl, PcH_pre hK hH⟩ rfl rfl hl.1 rfl (lv_room (Nat.le_of_ble_eq_true rfl)) dX0_bindableTree_45 ⟨Nat.zero_le _, Nat.zero_le _⟩) (fun x_19 hx_19 => ?_)
            try rw [← hx_19] at hv
            have ex_20 : x_19 = F_X10_parentOf (G.2.1 (g.2.2 70)) y5_32 := hx_19
            try rw [← ex_20] at hv
            refine lv_istore (lv' := [(6, .int x_19), (0, .ref h0), (2, .int y2_32), (3, .int y3_32), (4, .int y4_9), (5, .int y5_32)]) hx hb dX0_bindableTree_48 hl (by decide) rfl (fun ls hl => ?_)
            refine lv_iload hx hb dX0_bindableTree_50 (lv_at hl 0 rfl) ?_
            refine lv_bipush (v := 24) hx hb dX0_bindableTree_52 (by decide) ?_
            refine lv_icmp_eq (tgt := 85) hx hb dX0_bindableTree_54 (by decide) (fun c_21 => ?_) (fun c_21 => ?_)
            · rw [if_pos c_21] at hv
              have r_22 : rgI (24) (24) x_19 := rg_w (rg_eq rl_24 c_21) (by decide) (by decide)
              exact L_85 y2_32 ls ry3_32 ry4_32 r_5 (lv_sub hl [1, 2, 3, 4, 5] rfl) hv
            · rw [if_neg c_21] at hv
              refine lv_iload_n hx hb dX0_bindableTree_57 rfl (lv_at hl 2 rfl) ?_
              refine lv_iconst (v := 1) hx hb dX0_bindableTree_58 (by decide) ?_
              refine lv_iload hx hb dX0_bindableTree_59 (lv_at hl 0 rfl) ?_
              refine lv_ishl hx hb dX0_bindableTree_61 ?_
              refine lv_topi (fun x_23 ex_23 => ?_)
              try rw [← ex_23] at hv
              refine lv_iand hx hb dX0_bindableTree_62 ?_
              refine lv_topi (fun x_24 ex_24 => ?_)
              try rw [← ex_24] at hv
              refine lv_if_eq (tgt := 85) hx hb dX0_bindableTree_63 (by decide) (fun c_25 => ?_) (fun c_25 => ?_)
              · rw [if_pos c_25] at hv
                have r_26 : rgI (0) (0) x_24 := rg_w (rg_eq rl_0 c_25) (by decide) (by decide)
                exact L_85 y2_32 ls ry3_32 ry4_32 r_5 (lv_sub hl [1, 2, 3, 4, 5] rfl) hv
              · rw [if_neg c_25] at hv
                refine lv_aload_n hx hb dX0_bindableTree_66 rfl (lv_at hl 1 rfl) ?_
                refine hg_get hx hb hG igX0 hown hK o_c_6 rfl 0 (by decide) (hG _ mw_239) rfl dX0_bindableTree_67 ?_
                refine lv_iload hx hb dX0_bindableTree_70 (lv_at hl 5 rfl) ?_
                refine vp_callSi (W.runV (As := [.int y5_32]) (rest := []) ⟨hx, hb, hml, hown, hts⟩ (c_X10_isUnbindable l g Ty G (g.2.2 0) y5_32 kq_7) (cwV 1 hts (gwV mw_766 mw_767 mw_768 mw_77 mw_769) rfl rfl rfl hv_X10_isUnbindable ⟨Nat.le_of_ble_eq_true rfl, Nat.le_of_ble_eq_true rfl⟩) ⟨PcH_blind, hg_recv hK o_c_10 rfl, PcH_pre hK hH⟩ rfl rfl hl.1 rfl (lv_room (Nat.le_of_ble_eq_true rfl)) dX0_bindableTree_72 ⟨Nat.zero_le _, Nat.zero_le _⟩) (fun x_27 hx_27 => ?_)
                have rx_27 : rgI (0) (1) x_27 := hx_27.1
                try rw [← hx_27.2.2] at hv
                have ex_28 : x_27 = F_X10_isUnbindable (G.1 21) y5_32 := hx_27.2.2
                try rw [← ex_28] at hv
                refine lv_if_ne (tgt := 85) hx hb dX0_bindableTree_75 (by decide) (fun c_29 => ?_) (fun c_29 => ?_)
                · rw [if_neg c_29] at hv
                  have r_30 : rgI (1) (1) x_27 := rg_w (rg_neL rx_27 rl_0 c_29) (by decide) (by decide)
                  exact L_85 y2_32 ls ry3_32 ry4_32 r_5 (lv_sub hl [1, 2, 3, 4, 5] rfl) hv
                · rw [if_pos c_29] at hv
                  have r_31 : rgI (0) (0) x_27 := rg_w (rg_eq rl_0 c_29) (by decide) (by decide)
                  refine lv_iload_n hx hb dX0_bindableTree_78 rfl (lv_at hl 2 rfl) ?_
                  refine lv_iconst (v := 1) hx hb dX0_bindableTree_79 (by decide) ?_
                  refine lv_iload hx hb dX0_bindableTree_80 (lv_at hl 5 rfl) ?_
                  refine lv_ishl hx hb dX0_bindableTree_82 ?_
                  refine lv_topi (fun x_32 ex_32 => ?_)
                  try rw [← ex_32] at hv
                  refine lv_ior hx hb dX0_bindableTree_83 ?_
                  refine lv_topi (fun x_33 ex_33 => ?_)
                  try rw [← ex_33] at hv
                  refine lv_istore_n (lv' := [(2, .int x_33), (6, .int x_19), (0, .ref h0), (3, .int y3_32), (4, .int y4_9), (5, .int y5_32)]) hx hb dX0_bindableTree_84 rfl hl (by decide) rfl (fun ls hl => ?_)
                  exact L_85 x_33 ls ry3_32 ry4_32 r_5 (lv_sub hl [2, 0, 3, 4, 5] rfl) hv
      rw [F_X0_bindableTree_9] at hv
      refine lv_iload hx hb dX0_bindableTree_9 (lv_at hl 3 rfl) ?_
      refine lv_bipush (v := 24) hx hb dX0_bindableTree_11 (by decide) ?_
      refine lv_icmp_ge (tgt := 97) hx hb dX0_bindableTree_13 (by decide) (fun c_34 => ?_) (fun c_34 => ?_)
      · rw [if_pos c_34] at hv
        have r_35 : rgI (24) (24) y4_9 := rg_w (rg_leR rl_24 ry4_9 c_34) (by decide) (by decide)
        exact L_97 y2_9 ls (lv_sub hl [1] rfl) hv
      · rw [if_neg c_34] at hv
        have r_36 : rgI (0) (23) y4_9 := rg_w (rg_ltL ry4_9 rl_24 (nle_lt c_34)) (by decide) (by decide)
        refine lv_iload_n hx hb dX0_bindableTree_16 rfl (lv_at hl 1 rfl) ?_
        refine vp_callSi (W.runS (As := [.int y2_9]) (rest := []) ⟨hx, hb, hml, hown, hts⟩ (c_J6_bitCount_x l g Ty G y2_9 ) (cwSx 1 hts hG (gwC mw_620) mw_99 mw_713 mw_619 rfl rfl rfl hd_J6_bitCount_0f7a4 ⟨Nat.le_of_ble_eq_true rfl, Nat.le_of_ble_eq_true rfl⟩) ⟨PcH_blind, PcH_pre hK hH⟩ rfl rfl hl.1 rfl (lv_room (Nat.le_of_ble_eq_true rfl)) dX0_bindableTree_17 ⟨Nat.zero_le _, Nat.zero_le _⟩) (fun x_37 hx_37 => ?_)
        have rx_37 : rgI (0) (63) x_37 := hx_37.1
        try rw [← hx_37.2] at hv
        try rw [← hx_37.2] at hv
        refine lv_iload_n hx hb dX0_bindableTree_20 rfl (lv_at hl 2 rfl) ?_
        refine lv_icmp_le (tgt := 97) hx hb dX0_bindableTree_21 (by decide) (fun c_38 => ?_) (fun c_38 => ?_)
        · rw [if_pos c_38] at hv
          exact L_97 y2_9 ls (lv_sub hl [1] rfl) hv
        · rw [if_neg c_38] at hv
          have r_39 : rgI (0) (62) y3_9 := rg_w (rg_ltL ry3_9 rx_37 (nle_lt c_38)) (by decide) (by decide)
          have r_40 : rgI (1) (63) x_37 := rg_w (rg_ltR ry3_9 rx_37 (nle_lt c_38)) (by decide) (by decide)
          refine lv_iload_n hx hb dX0_bindableTree_24 rfl (lv_at hl 1 rfl) ?_
          refine vp_callSi (W.runS (As := [.int y2_9]) (rest := []) ⟨hx, hb, hml, hown, hts⟩ (c_J6_bitCount_x l g Ty G y2_9 ) (cwSx 1 hts hG (gwC mw_620) mw_99 mw_713 mw_619 rfl rfl rfl hd_J6_bitCount_0f7a4 ⟨Nat.le_of_ble_eq_true rfl, Nat.le_of_ble_eq_true rfl⟩) ⟨PcH_blind, PcH_pre hK hH⟩ rfl rfl hl.1 rfl (lv_room (Nat.le_of_ble_eq_true rfl)) dX0_bindableTree_25 ⟨Nat.zero_le _, Nat.zero_le _⟩) (fun x_41 hx_41 => ?_)
          have rx_41 : rgI (0) (63) x_41 := hx_41.1
          try rw [← hx_41.2] at hv
          try rw [← hx_41.2] at hv
          have edx_41 : x_41 = x_37 := Eq.trans (hx_41.2) (Eq.symm (hx_37.2))
          rw [edx_41]
          refine lv_istore_n (lv' := [(3, .int x_37), (0, .ref h0), (2, .int y2_9), (4, .int y4_9)]) hx hb dX0_bindableTree_28 rfl hl (by decide) rfl (fun ls hl => ?_)
          refine lv_iconst (v := 0) hx hb dX0_bindableTree_29 (by decide) ?_
          refine lv_istore (lv' := [(5, .int 0), (3, .int x_37), (0, .ref h0), (2, .int y2_9), (4, .int y4_9)]) hx hb dX0_bindableTree_30 hl (by decide) rfl (fun ls hl => ?_)
          exact L_32 26 y2_9 x_37 0 ls rx_37 r_36 (rg_w rl_0 (by decide) (by decide)) (by decide) (lv_sub hl [2, 3, 1, 4, 0] rfl) hv
  refine lv_iconst (v := 1) hx hb dX0_bindableTree_0 (by decide) ?_
  refine lv_iload_n hx hb dX0_bindableTree_1 rfl (lv_at hl 1 rfl) ?_
  refine lv_ishl hx hb dX0_bindableTree_2 ?_
  refine lv_topi (fun x_42 ex_42 => ?_)
  try rw [← ex_42] at hv
  refine lv_istore_n (lv' := [(2, .int x_42), (0, .ref h0), (1, .int a0)]) hx hb dX0_bindableTree_3 rfl hl (by decide) rfl (fun ls hl => ?_)
  refine lv_iconst (v := 0) hx hb dX0_bindableTree_4 (by decide) ?_
  refine lv_istore_n (lv' := [(3, .int 0), (2, .int x_42), (0, .ref h0), (1, .int a0)]) hx hb dX0_bindableTree_5 rfl hl (by decide) rfl (fun ls hl => ?_)
  refine lv_iconst (v := 0) hx hb dX0_bindableTree_6 (by decide) ?_
  refine lv_istore (lv' := [(4, .int 0), (3, .int 0), (2, .int x_42), (0, .ref h0), (1, .int a0)]) hx hb dX0_bindableTree_7 hl (by decide) rfl (fun ls hl => ?_)
  exact L_9 26 x_42 0 0 ls (rg_w rl_0 (by decide) (by decide)) (rg_w rl_0 (by decide) (by decide)) (by decide) (lv_sub hl [3, 2, 1, 0] rfl) hv

def F_X0_move (r0 : Nat → Int32) (r1 : Nat → Int32) (m20 : Int32) (m22 : Int32) (a0 : Int32) (a1 : Int32) (a2 : Int32) : Int32 × (Nat → Int32) × Int32 := (if (F_X10_has m20 a0) = (0 : Int32) then ((-1 : Int32), r0, m22) else (if (F_X10_hasPlace m20 a1 a2) = (0 : Int32) then ((-1 : Int32), r0, m22) else (if (F_X10_mountAt r0 a1 a2) = (24 : Int32) then (if a0 = (0 : Int32) then ((-3 : Int32), r0, m22) else (if a0 = a1 then ((-3 : Int32), r0, m22) else (if (F_X10_isIn r0 a1 a0) = (0 : Int32) then (if (F_X10_groupOf r1 (F_X10_parentOf r0 a0)) = (0 : Int32) then (if (F_X10_groupOf r1 a1) = (0 : Int32) then (tu1 (F_X10_carry r0 m20 a0 a1 a2) (fun z2 => ((((100 : Int32) * (F_X10_parentOf r0 a0)) + (F_X10_dirOf r0 a0)), z2, (m22 + (1 : Int32))))) else ((-6 : Int32), r0, m22)) else ((-5 : Int32), r0, m22)) else ((-3 : Int32), r0, m22)))) else ((-2 : Int32), r0, m22))))
set_option maxHeartbeats 4000000 in
set_option maxRecDepth 100000 in
theorem c_X0_move (l : Launch) (g : Gx) (Ty : TyM) (G : Gh) (sz : Nat) (h0 : Nat) (a0 : Int32) (a1 : Int32) (a2 : Int32) (k_h0 : Ty h0 = some (10, 0)) (hD1 : LD1 g) : Met l yX0_move (wsG yX0_move cX0_move 6 (some .int)) ({ frames := 2, cells := 0, slots := 0, locals := 45 }) (PcT g Ty G sz [.ref h0, .int a0, .int a1, .int a2]) (QwI g Ty sz (fun r u => u.1 = Ty ∧ FR [22] [(g.2.2 70)] [] G u.2 ∧ F_X0_move (G.2.1 (g.2.2 70)) (G.2.1 (g.2.2 71)) (G.1 20) (G.1 22) a0 a1 a2 = (r, (u.2.2.1 (g.2.2 70)), (u.2.1 22)))) 0 0 (AF Ty sz) := by
  refine Met.ofW (cc := cX0_move) (maxL := 6) (ret := (some .int)) (by decide) rfl ?_
  intro p e s m args below meth c s₁ B hml hv
  obtain ⟨rfl, hsz, hK, hH⟩ := hv
  subst hsz
  have hx := B.exec
  have hb := B.bytes
  have hr := B.returns
  have hts := atoms_spec (ws := (wsG yX0_move cX0_move 6 (some .int))) B.pre
  have hG : ∀ w ∈ GW, w.before ([.ref h0, .int a0, .int a1, .int a2] : List Value).toArray s = true := fun w h => hts w (List.mem_cons_of_mem _ h)
  have hown : s.vm.findClass RX0 = some m.cls := findClass_of_methodNamed B.named
  have hlocks := B.notSynchronized
  have hl := lv_entry [.ref h0, .int a0, .int a1, .int a2] (n := 6) (Nat.le_of_ble_eq_true rfl)
  rw [lg_entry_eq]
  generalize (lg_sl [.ref h0, .int a0, .int a1, .int a2] ++ List.replicate (6 - (lg_sl [.ref h0, .int a0, .int a1, .int a2]).length) Slot.unset).toArray = ls at hl ⊢
  have hl : lv_has ls 6 [(0, .ref h0), (1, .int a0), (2, .int a1), (3, .int a2)] := hl
  have hv : (if (F_X10_has (G.1 20) a0) = (0 : Int32) then ((-1 : Int32), (G.2.1 (g.2.2 70)), (G.1 22)) else (if (F_X10_hasPlace (G.1 20) a1 a2) = (0 : Int32) then ((-1 : Int32), (G.2.1 (g.2.2 70)), (G.1 22)) else (if (F_X10_mountAt (G.2.1 (g.2.2 70)) a1 a2) = (24 : Int32) then (if a0 = (0 : Int32) then ((-3 : Int32), (G.2.1 (g.2.2 70)), (G.1 22)) else (if a0 = a1 then ((-3 : Int32), (G.2.1 (g.2.2 70)), (G.1 22)) else (if (F_X10_isIn (G.2.1 (g.2.2 70)) a1 a0) = (0 : Int32) then (if (F_X10_groupOf (G.2.1 (g.2.2 71)) (F_X10_parentOf (G.2.1 (g.2.2 70)) a0)) = (0 : Int32) then (if (F_X10_groupOf (G.2.1 (g.2.2 71)) a1) = (0 : Int32) then (tu1 (F_X10_carry (G.2.1 (g.2.2 70)) (G.1 20) a0 a1 a2) (fun z1 => ((((100 : Int32) * (F_X10_parentOf (G.2.1 (g.2.2 70)) a0)) + (F_X10_dirOf (G.2.1 (g.2.2 70)) a0)), z1, ((G.1 22) + (1 : Int32))))) else ((-6 : Int32), (G.2.1 (g.2.2 70)), (G.1 22))) else ((-5 : Int32), (G.2.1 (g.2.2 70)), (G.1 22))) else ((-3 : Int32), (G.2.1 (g.2.2 70)), (G.1 22))))) else ((-2 : Int32), (G.2.1 (g.2.2 70)), (G.1 22))))) = F_X0_move (G.2.1 (g.2.2 70)) (G.2.1 (g.2.2 71)) (G.1 20) (G.1 22) a0 a1 a2 := rfl
  have hS : va_S (AF Ty s.heap.size) s.heap s.heap [] := va_S.rf
  have L_63 : ∀ (H : Heap) (locs : List Loc) (G_63 : Gh) (fl0_63 : Nat → Int32) (nl22_63 : Int32) (ls : Array Slot), FR [22] [(g.2.2 70)] [] G G_63 → G_63.2.1 (g.2.2 70) = fl0_63 → G_63.1 22 = nl22_63 → lv_has ls 6 [] → ((-3 : Int32), fl0_63, nl22_63) = F_X0_move (G.2.1 (g.2.2 70)) (G.2.1 (g.2.2 71)) (G.1 20) (G.1 22) a0 a1 a2 → HT g Ty G_63 H → va_S (AF Ty s.heap.size) s.heap H locs → Wm p l e (wsG yX0_move cX0_move 6 (some .int)) ({ frames := 2, cells := 0, slots := 0, locals := 45 }) s m [.ref h0, .int a0, .int a1, .int a2] below meth c H locs (0) (0) (QwI g Ty s.heap.size (fun r u => u.1 = Ty ∧ FR [22] [(g.2.2 70)] [] G u.2 ∧ F_X0_move (G.2.1 (g.2.2 70)) (G.2.1 (g.2.2 71)) (G.1 20) (G.1 22) a0 a1 a2 = (r, (u.2.2.1 (g.2.2 70)), (u.2.1 22)))) 0 0 (AF Ty s.heap.size) (F0 m 63 ls []) := by
    intro H locs G_63 fl0_63 nl22_63 ls frL_63 efl0_63 enl22_63 hl hv hH hS
    refine lv_bipush (v := (-3)) hx hb dX0_move_63 (by decide) ?_
    exact W.iret hx hb hr (fun t ht hWm => ⟨⟨(-3), (Ty, G_63), rfl, ⟨rfl, ⟨frL_63, hv.symm.trans (by rw [efl0_63, enl22_63])⟩⟩, by show HT g Ty G_63 t.heap; rw [ht]; exact hH⟩, hS.F ht⟩) hS.2.2 dX0_move_65
  have L_23 : ∀ (H : Heap) (locs : List Loc) (G_23 : Gh) (fl0_23 : Nat → Int32) (nl22_23 : Int32) (ls : Array Slot), FR [22] [(g.2.2 70)] [] G G_23 → G_23.2.1 (g.2.2 70) = fl0_23 → G_23.1 22 = nl22_23 → lv_has ls 6 [] → ((-1 : Int32), fl0_23, nl22_23) = F_X0_move (G.2.1 (g.2.2 70)) (G.2.1 (g.2.2 71)) (G.1 20) (G.1 22) a0 a1 a2 → HT g Ty G_23 H → va_S (AF Ty s.heap.size) s.heap H locs → Wm p l e (wsG yX0_move cX0_move 6 (some .int)) ({ frames := 2, cells := 0, slots := 0, locals := 45 }) s m [.ref h0, .int a0, .int a1, .int a2] below meth c H locs (0) (0) (QwI g Ty s.heap.size (fun r u => u.1 = Ty ∧ FR [22] [(g.2.2 70)] [] G u.2 ∧ F_X0_move (G.2.1 (g.2.2 70)) (G.2.1 (g.2.2 71)) (G.1 20) (G.1 22) a0 a1 a2 = (r, (u.2.2.1 (g.2.2 70)), (u.2.1 22)))) 0 0 (AF Ty s.heap.size) (F0 m 23 ls []) := by
    intro H locs G_23 fl0_23 nl22_23 ls frL_23 efl0_23 enl22_23 hl hv hH hS
    refine lv_iconst (v := (-1)) hx hb dX0_move_23 (by decide) ?_
    exact W.iret hx hb hr (fun t ht hWm => ⟨⟨(-1), (Ty, G_23), rfl, ⟨rfl, ⟨frL_23, hv.symm.trans (by rw [efl0_23, enl22_23])⟩⟩, by show HT g Ty G_23 t.heap; rw [ht]; exact hH⟩, hS.F ht⟩) hS.2.2 dX0_move_24
  refine lv_aload_n hx hb dX0_move_0 rfl (lv_at hl 0 rfl) ?_
  obtain ⟨_, ⟨rfl, kq_2, kq_3, kq_4⟩, o_c_1⟩ := hH h0 _ k_h0
  refine hg_get hx hb hG igX0 hown hK o_c_1 rfl 0 (by decide) (hG _ mw_239) rfl dX0_move_1 ?_
  refine lv_iload_n hx hb dX0_move_4 rfl (lv_at hl 1 rfl) ?_
  obtain ⟨_, ⟨rfl, kq_6, kq_7, kq_8, t_13⟩, o_c_5⟩ := hH (g.2.2 0) _ kq_2
  refine vp_callSi (W.runV (As := [.int a0]) (rest := []) ⟨hx, hb, hml, hown, hts⟩ (c_X10_has l g Ty G (g.2.2 0) a0 kq_2) (cwV 1 hts (gwV mw_765 mw_604 mw_605 mw_77 mw_606) rfl rfl rfl hv_X10_has ⟨Nat.le_of_ble_eq_true rfl, Nat.le_of_ble_eq_true rfl⟩) ⟨PcH_blind, hg_recv hK o_c_5 rfl, PcH_pre hK hH⟩ rfl rfl hl.1 rfl (lv_room (Nat.le_of_ble_eq_true rfl)) dX0_move_5 ⟨Nat.zero_le _, Nat.zero_le _⟩) (fun x_14 hx_14 => ?_)
  have rx_14 : rgI (0) (1) x_14 := hx_14.1
  try rw [← hx_14.2.2] at hv
  have ex_15 : x_14 = F_X10_has (G.1 20) a0 := hx_14.2.2
  try rw [← ex_15] at hv
  refine lv_if_eq (tgt := 23) hx hb dX0_move_8 (by decide) (fun c_16 => ?_) (fun c_16 => ?_)
  · rw [if_pos c_16] at hv
    have r_17 : rgI (0) (0) x_14 := rg_w (rg_eq rl_0 c_16) (by decide) (by decide)
    exact L_23 s.heap [] G (G.2.1 (g.2.2 70)) (G.1 22) ls FR.rf rfl rfl (lv_sub hl [] rfl) hv hH hS
  · rw [if_neg c_16] at hv
    have r_18 : rgI (1) (1) x_14 := rg_w (rg_neL rx_14 rl_0 c_16) (by decide) (by decide)
    have r_19 : rgI (0) (23) a0 := rg_w (hx_14.2.1.resolve_left c_16) (by decide) (by decide)
    refine lv_aload_n hx hb dX0_move_11 rfl (lv_at hl 0 rfl) ?_
    refine hg_get hx hb hG igX0 hown hK o_c_1 rfl 0 (by decide) (hG _ mw_239) rfl dX0_move_12 ?_
    refine lv_iload_n hx hb dX0_move_15 rfl (lv_at hl 2 rfl) ?_
    refine lv_iload_n hx hb dX0_move_16 rfl (lv_at hl 3 rfl) ?_
    refine vp_callSi (W.runV (As := [.int a1, .int a2]) (rest := []) ⟨hx, hb, hml, hown, hts⟩ (c_X10_hasPlace l g Ty G (g.2.2 0) a1 a2 kq_2) (cwV 2 hts (gwV mw_640 mw_641 mw_642 mw_77 mw_643) rfl rfl rfl hv_X10_hasPlace ⟨Nat.le_of_ble_eq_true rfl, Nat.le_of_ble_eq_true rfl⟩) ⟨PcH_blind, hg_recv hK o_c_5 rfl, PcH_pre hK hH⟩ rfl rfl hl.1 rfl (lv_room (Nat.le_of_ble_eq_true rfl)) dX0_move_17 ⟨Nat.zero_le _, Nat.zero_le _⟩) (fun x_20 hx_20 => ?_)
    have rx_20 : rgI (0) (1) x_20 := hx_20.1
    try rw [← hx_20.2.2] at hv
    have ex_21 : x_20 = F_X10_hasPlace (G.1 20) a1 a2 := hx_20.2.2
    try rw [← ex_21] at hv
    refine lv_if_ne (tgt := 25) hx hb dX0_move_20 (by decide) (fun c_22 => ?_) (fun c_22 => ?_)
    · rw [if_neg c_22] at hv
      have r_23 : rgI (1) (1) x_20 := rg_w (rg_neL rx_20 rl_0 c_22) (by decide) (by decide)
      have r_24 : rgI (0) (23) a1 := rg_w (hx_20.2.1.resolve_left c_22) (by decide) (by decide)
      refine lv_aload_n hx hb dX0_move_25 rfl (lv_at hl 0 rfl) ?_
      refine hg_get hx hb hG igX0 hown hK o_c_1 rfl 0 (by decide) (hG _ mw_239) rfl dX0_move_26 ?_
      refine lv_iload_n hx hb dX0_move_29 rfl (lv_at hl 2 rfl) ?_
      refine lv_iload_n hx hb dX0_move_30 rfl (lv_at hl 3 rfl) ?_
      refine vp_callSi (W.runV (As := [.int a1, .int a2]) (rest := []) ⟨hx, hb, hml, hown, hts⟩ (c_X10_mountAt l g Ty G (g.2.2 0) a1 a2 kq_2) (cwV 2 hts (gwV mw_778 mw_579 mw_580 mw_77 mw_581) rfl rfl rfl hv_X10_mountAt ⟨Nat.le_of_ble_eq_true rfl, Nat.le_of_ble_eq_true rfl⟩) ⟨PcH_blind, hg_recv hK o_c_5 rfl, PcH_pre hK hH⟩ rfl rfl hl.1 rfl (lv_room (Nat.le_of_ble_eq_true rfl)) dX0_move_31 ⟨Nat.zero_le _, Nat.zero_le _⟩) (fun x_25 hx_25 => ?_)
      have rx_25 : rgI (0) (24) x_25 := hx_25.1
      try rw [← hx_25.2] at hv
      have ex_26 : x_25 = F_X10_mountAt (G.2.1 (g.2.2 70)) a1 a2 := hx_25.2
      try rw [← ex_26] at hv
      refine lv_bipush (v := 24) hx hb dX0_move_34 (by decide) ?_
      refine lv_icmp_eq (tgt := 42) hx hb dX0_move_36 (by decide) (fun c_27 => ?_) (fun c_27 => ?_)
      · rw [if_pos c_27] at hv
        have r_28 : rgI (24) (24) x_25 := rg_w (rg_eq rl_24 c_27) (by decide) (by decide)
        refine lv_iload_n hx hb dX0_move_42 rfl (lv_at hl 1 rfl) ?_
        refine lv_if_eq (tgt := 63) hx hb dX0_move_43 (by decide) (fun c_29 => ?_) (fun c_29 => ?_)
        · rw [if_pos c_29] at hv
          have r_30 : rgI (0) (0) a0 := rg_w (rg_eq rl_0 c_29) (by decide) (by decide)
          exact L_63 s.heap [] G (G.2.1 (g.2.2 70)) (G.1 22) ls FR.rf rfl rfl (lv_sub hl [] rfl) hv hH hS
        · rw [if_neg c_29] at hv
          have r_31 : rgI (1) (23) a0 := rg_w (rg_neL r_19 rl_0 c_29) (by decide) (by decide)
          refine lv_iload_n hx hb dX0_move_46 rfl (lv_at hl 1 rfl) ?_
          refine lv_iload_n hx hb dX0_move_47 rfl (lv_at hl 2 rfl) ?_
          refine lv_icmp_eq (tgt := 63) hx hb dX0_move_48 (by decide) (fun c_32 => ?_) (fun c_32 => ?_)
          · rw [if_pos c_32] at hv
            exact L_63 s.heap [] G (G.2.1 (g.2.2 70)) (G.1 22) ls FR.rf rfl rfl (lv_sub hl [] rfl) hv hH hS
          · rw [if_neg c_32] at hv
            refine lv_aload_n hx hb dX0_move_51 rfl (lv_at hl 0 rfl) ?_
            refine hg_get hx hb hG igX0 hown hK o_c_1 rfl 0 (by decide) (hG _ mw_239) rfl dX0_move_52 ?_
            refine lv_iload_n hx hb dX0_move_55 rfl (lv_at hl 2 rfl) ?_
            refine lv_iload_n hx hb dX0_move_56 rfl (lv_at hl 1 rfl) ?_
            refine vp_callSi (W.runV (As := [.int a1, .int a0]) (rest := []) ⟨hx, hb, hml, hown, hts⟩ (c_X10_isIn l g Ty G (g.2.2 0) a1 a0 kq_2) (cwV 2 hts (gwV mw_844 mw_845 mw_846 mw_77 mw_847) rfl rfl rfl hv_X10_isIn ⟨Nat.le_of_ble_eq_true rfl, Nat.le_of_ble_eq_true rfl⟩) ⟨PcH_blind, hg_recv hK o_c_5 rfl, PcH_pre hK hH⟩ rfl rfl hl.1 rfl (lv_room (Nat.le_of_ble_eq_true rfl)) dX0_move_57 ⟨Nat.zero_le _, Nat.zero_le _⟩) (fun x_33 hx_33 => ?_)
            have rx_33 : rgI (0) (1) x_33 := hx_33.1
            try rw [← hx_33.2] at hv
            have ex_34 : x_33 = F_X10_isIn (G.2.1 (g.2.2 70)) a1 a0 := hx_33.2
            try rw [← ex_34] at hv
            refine lv_if_eq (tgt := 66) hx hb dX0_move_60 (by decide) (fun c_35 => ?_) (fun c_35 => ?_)
            · rw [if_pos c_35] at hv
              have r_36 : rgI (0) (0) x_33 := rg_w (rg_eq rl_0 c_35) (by decide) (by decide)
              refine lv_aload_n hx hb dX0_move_66 rfl (lv_at hl 0 rfl) ?_
              refine hg_get hx hb hG igX0 hown hK o_c_1 rfl 0 (by decide) (hG _ mw_239) rfl dX0_move_67 ?_
              refine lv_iload_n hx hb dX0_move_70 rfl (lv_at hl 1 rfl) ?_
              refine vp_callSi (W.runV (As := [.int a0]) (rest := []) ⟨hx, hb, hml, hown, hts⟩ (c_X10_parentOf l g Ty G (g.2.2 0) a0 kq_2) (cwV 1 hts (gwV mw_783 mw_683 mw_684 mw_77 mw_685) rfl rfl rfl hv_X10_parentOf ⟨Nat.le_of_ble_eq_true rfl, Nat.le_of_ble_eq_true rfl⟩) ⟨PcH_blind, hg_recv hK o_c_5 rfl, PcH_pre hK hH⟩ rfl rfl hl.1 rfl (lv_room (Nat.le_of_ble_eq_true rfl)) dX0_move_71 ⟨Nat.zero_le _, Nat.zero_le _⟩) (fun x_37 hx_37 => ?_)
              try rw [← hx_37] at hv
              have ex_38 : x_37 = F_X10_parentOf (G.2.1 (g.2.2 70)) a0 := hx_37
              try rw [← ex_38] at hv
              refine lv_istore (lv' := [(4, .int x_37), (0, .ref h0), (1, .int a0), (2, .int a1), (3, .int a2)]) hx hb dX0_move_74 hl (by decide) rfl (fun ls hl => ?_)
              refine lv_aload_n hx hb dX0_move_76 rfl (lv_at hl 1 rfl) ?_
              refine hg_get hx hb hG igX0 hown hK o_c_1 rfl 0 (by decide) (hG _ mw_239) rfl dX0_move_77 ?_
              refine lv_iload hx hb dX0_move_80 (lv_at hl 0 rfl) ?_
              refine vp_callSi (W.runV (As := [.int x_37]) (rest := []) ⟨hx, hb, hml, hown, hts⟩ (c_X10_groupOf l g Ty G (g.2.2 0) x_37 kq_2) (cwV 1 hts (gwV mw_718 mw_608 mw_609 mw_77 mw_610) rfl rfl rfl hv_X10_groupOf ⟨Nat.le_of_ble_eq_true rfl, Nat.le_of_ble_eq_true rfl⟩) ⟨PcH_blind, hg_recv hK o_c_5 rfl, PcH_pre hK hH⟩ rfl rfl hl.1 rfl (lv_room (Nat.le_of_ble_eq_true rfl)) dX0_move_82 ⟨Nat.zero_le _, Nat.zero_le _⟩) (fun x_39 hx_39 => ?_)
              try rw [← hx_39] at hv
              have ex_40 : x_39 = F_X10_groupOf (G.2.1 (g.2.2 71)) x_37 := hx_39
              try rw [← ex_40] at hv
              refine lv_if_eq (tgt := 91) hx hb dX0_move_85 (by decide) (fun c_41 => ?_) (fun c_41 => ?_)
              · rw [if_pos c_41] at hv
                have r_42 : rgI (0) (0) x_39 := rg_w (rg_eq rl_0 c_41) (by decide) (by decide)
                refine lv_aload_n hx hb dX0_move_91 rfl (lv_at hl 1 rfl) ?_
                refine hg_get hx hb hG igX0 hown hK o_c_1 rfl 0 (by decide) (hG _ mw_239) rfl dX0_move_92 ?_
                refine lv_iload_n hx hb dX0_move_95 rfl (lv_at hl 3 rfl) ?_
                refine vp_callSi (W.runV (As := [.int a1]) (rest := []) ⟨hx, hb, hml, hown, hts⟩ (c_X10_groupOf l g Ty G (g.2.2 0) a1 kq_2) (cwV 1 hts (gwV mw_718 mw_608 mw_609 mw_77 mw_610) rfl rfl rfl hv_X10_groupOf ⟨Nat.le_of_ble_eq_true rfl, Nat.le_of_ble_eq_true rfl⟩) ⟨PcH_blind, hg_recv hK o_c_5 rfl, PcH_pre hK hH⟩ rfl rfl hl.1 rfl (lv_room (Nat.le_of_ble_eq_true rfl)) dX0_move_96 ⟨Nat.zero_le _, Nat.zero_le _⟩) (fun x_43 hx_43 => ?_)
                try rw [← hx_43] at hv
                have ex_44 : x_43 = F_X10_groupOf (G.2.1 (g.2.2 71)) a1 := hx_43
                try rw [← ex_44] at hv
                refine lv_if_eq (tgt := 105) hx hb dX0_move_99 (by decide) (fun c_45 => ?_) (fun c_45 => ?_)
                · rw [if_pos c_45] at hv
                  have r_46 : rgI (0) (0) x_43 := rg_w (rg_eq rl_0 c_45) (by decide) (by decide)
                  refine lv_bipush (v := 100) hx hb dX0_move_105 (by decide) ?_
                  refine lv_iload hx hb dX0_move_107 (lv_at hl 0 rfl) ?_
                  refine lv_imul hx hb dX0_move_109 ?_
                  refine lv_topi (fun x_47 ex_47 => ?_)
                  try rw [← ex_47] at hv
                  refine lv_aload_n hx hb dX0_move_110 rfl (lv_at hl 1 rfl) ?_
                  refine hg_get hx hb hG igX0 hown hK o_c_1 rfl 0 (by decide) (hG _ mw_239) rfl dX0_move_111 ?_
                  refine lv_iload_n hx hb dX0_move_114 rfl (lv_at hl 2 rfl) ?_
                  refine vp_callSi (W.runV (As := [.int a0]) (rest := [.int x_47]) ⟨hx, hb, hml, hown, hts⟩ (c_X10_dirOf l g Ty G (g.2.2 0) a0 kq_2) (cwV 1 hts (gwV mw_848 mw_849 mw_850 mw_77 mw_851) rfl rfl rfl hv_X10_dirOf ⟨Nat.le_of_ble_eq_true rfl, Nat.le_of_ble_eq_true rfl⟩) ⟨PcH_blind, hg_recv hK o_c_5 rfl, PcH_pre hK hH⟩ rfl rfl hl.1 rfl (lv_room (Nat.le_of_ble_eq_true rfl)) dX0_move_115 ⟨Nat.zero_le _, Nat.zero_le _⟩) (fun x_48 hx_48 => ?_)
                  try rw [← hx_48] at hv
                  have ex_49 : x_48 = F_X10_dirOf (G.2.1 (g.2.2 70)) a0 := hx_48
                  try rw [← ex_49] at hv
                  refine lv_iadd hx hb dX0_move_118 ?_
                  refine lv_topi (fun x_50 ex_50 => ?_)
                  try rw [← ex_50] at hv
                  refine lv_istore (lv' := [(5, .int x_50), (4, .int x_37), (0, .ref h0), (1, .int a0), (2, .int a1), (3, .int a2)]) hx hb dX0_move_119 hl (by decide) rfl (fun ls hl => ?_)
                  refine lv_aload_n hx hb dX0_move_121 rfl (lv_at hl 2 rfl) ?_
                  refine hg_get hx hb hG igX0 hown hK o_c_1 rfl 0 (by decide) (hG _ mw_239) rfl dX0_move_122 ?_
                  refine lv_iload_n hx hb dX0_move_125 rfl (lv_at hl 3 rfl) ?_
                  refine lv_iload_n hx hb dX0_move_126 rfl (lv_at hl 4 rfl) ?_
                  refine lv_iload_n hx hb dX0_move_127 rfl (lv_at hl 5 rfl) ?_
                  refine va_callv (va_runV (As := [.int a0, .int a1, .int a2]) (rest := []) ⟨hx, hb, hml, hown, hts⟩ (c_X10_carry l g Ty G s.heap.size (g.2.2 0) a0 a1 a2 kq_2 hD1) (cwV 3 hts (gwV mw_852 mw_853 mw_854 mw_77 mw_855) rfl rfl rfl hv_X10_carry ⟨Nat.le_of_ble_eq_true rfl, Nat.le_of_ble_eq_true rfl⟩) ⟨PcT_blind, hg_recv hK o_c_5 rfl, PcT_pre hK hH⟩ rfl rfl hl.1 rfl (lv_room (Nat.le_of_ble_eq_true rfl)) dX0_move_128 ⟨Nat.zero_le _, Nat.zero_le _⟩) hS (fun q _ h => AF.mono hS.1 h) (fun q h => AF.mono hS.1 h) (fun ux_51 t H locs ht hvm hx_51 hB hz hk hS => ?_)
                  obtain ⟨eTx_51, eGx_51⟩ := hx_51
                  obtain ⟨G_52, eG_52⟩ : ∃ z, z = ux_51.2 := ⟨_, rfl⟩
                  rw [← eG_52] at eGx_51
                  obtain ⟨hfr_53, hex_54⟩ := eGx_51
                  have fr_55 : FR [22] [(g.2.2 70)] [] G G_52 := FR.tr FR.rf hfr_53 (by decide) (fun b h => ⟨h.1, trivial⟩) (by decide)
                  have u_56 : G_52.1 20 = (G.1 20) := (hfr_53.1 20 (by decide))
                  have u_57 : G_52.1 22 = (G.1 22) := (hfr_53.1 22 (by decide))
                  have w_58 : G_52.2.1 (g.2.2 71) = (G.2.1 (g.2.2 71)) := (hfr_53.2.1 (g.2.2 71) ⟨(hD1 71 (by decide) 70 (by decide) (by decide)), trivial⟩)
                  obtain ⟨f_59, ef_59⟩ : ∃ z : Nat → Int32, G_52.2.1 (g.2.2 70) = z := ⟨_, rfl⟩
                  have hq_60 : F_X10_carry (G.2.1 (g.2.2 70)) (G.1 20) a0 a1 a2 = f_59 := by have q := hex_54; rw [ef_59] at q; exact q
                  rw [hq_60, tu1_eq] at hv
                  have hH : HT g Ty G_52 H := by rw [← ht, ← eTx_51, eG_52]; exact hB
                  refine lv_aload_n hx hb dX0_move_131 rfl (lv_at hl 2 rfl) ?_
                  obtain ⟨_, ⟨rfl, kq_62, kq_63, kq_64⟩, o_c_61⟩ := hH h0 _ k_h0
                  refine hg_get hx hb hG igX0 hown hK o_c_61 rfl 0 (by decide) (hG _ mw_239) rfl dX0_move_132 ?_
                  refine lv_dup hx hb dX0_move_135 rfl ?_
                  obtain ⟨_, ⟨rfl, kq_66, kq_67, kq_68, t_73⟩, o_c_65⟩ := hH (g.2.2 0) _ kq_62
                  refine hg_getN hx hb hG igX10 hown hK o_c_65 rfl 5 (by decide) ((hK.2.1 _ nwf_125).use rfl) rfl dX0_move_136 ?_
                  rw [u_57]
                  refine lv_iconst (v := 1) hx hb dX0_move_139 (by decide) ?_
                  refine lv_iadd hx hb dX0_move_140 ?_
                  refine lv_topi (fun x_74 ex_74 => ?_)
                  try rw [← ex_74] at hv
                  refine hg_putN (ty := .int) hx hb hG igX10 tyX10 tyX10_ok nmX10 hown hK hS o_c_65 (AF.of kq_62) rfl 5 (by decide) ((hK.2.1 _ nwf_125).use rfl) rfl (by decide +kernel) rfl rfl (Nat.le_of_ble_eq_true rfl) dX0_move_141 (fun H locs o_c_65 hz oq hS => ?_)
                  obtain ⟨G_75, eG_75⟩ : ∃ z : Gh, z = gset G_52 22 x_74 := ⟨_, rfl⟩
                  have hH : HT g Ty G_75 H := by rw [eG_75]; exact HT.putM 22 x_74 hH kq_62 ⟨rfl, kq_66, kq_67, kq_68, t_73⟩ o_c_65 oq (⟨⟨by decide, by decide⟩, t_73⟩)
                  have fr_76 : FR [22] [(g.2.2 70)] [] G G_75 := FR.n fr_55 eG_75 (by decide)
                  have u_77 : G_75.1 20 = (G.1 20) := by rw [eG_75]; exact (gs_ne (by decide)).trans u_56
                  have u_78 : G_75.1 22 = x_74 := by rw [eG_75]; exact gs_eq
                  have w_79 : G_75.2.1 (g.2.2 71) = (G.2.1 (g.2.2 71)) := by rw [eG_75]; exact w_58
                  have w_80 : G_75.2.1 (g.2.2 70) = f_59 := by rw [eG_75]; exact ef_59
                  clear oq hz
                  refine lv_iload hx hb dX0_move_144 (lv_at hl 0 rfl) ?_
                  exact W.iret hx hb hr (fun t ht hWm => ⟨⟨x_50, (Ty, G_75), rfl, ⟨rfl, ⟨fr_76, hv.symm.trans (by rw [w_80, u_78])⟩⟩, by show HT g Ty G_75 t.heap; rw [ht]; exact hH⟩, hS.F ht⟩) hS.2.2 dX0_move_146
                · rw [if_neg c_45] at hv
                  refine lv_bipush (v := (-6)) hx hb dX0_move_102 (by decide) ?_
                  exact W.iret hx hb hr (fun t ht hWm => ⟨⟨(-6), (Ty, G), rfl, ⟨rfl, ⟨FR.rf, hv.symm⟩⟩, by show HT g Ty G t.heap; rw [ht]; exact hH⟩, hS.F ht⟩) hS.2.2 dX0_move_104
              · rw [if_neg c_41] at hv
                refine lv_bipush (v := (-5)) hx hb dX0_move_88 (by decide) ?_
                exact W.iret hx hb hr (fun t ht hWm => ⟨⟨(-5), (Ty, G), rfl, ⟨rfl, ⟨FR.rf, hv.symm⟩⟩, by show HT g Ty G t.heap; rw [ht]; exact hH⟩, hS.F ht⟩) hS.2.2 dX0_move_90
            · rw [if_neg c_35] at hv
              have r_81 : rgI (1) (1) x_33 := rg_w (rg_neL rx_33 rl_0 c_35) (by decide) (by decide)
              exact L_63 s.heap [] G (G.2.1 (g.2.2 70)) (G.1 22) ls FR.rf rfl rfl (lv_sub hl [] rfl) hv hH hS
      · rw [if_neg c_27] at hv
        have r_82 : rgI (0) (23) x_25 := rg_w (rg_neR rx_25 rl_24 c_27) (by decide) (by decide)
        refine lv_bipush (v := (-2)) hx hb dX0_move_39 (by decide) ?_
        exact W.iret hx hb hr (fun t ht hWm => ⟨⟨(-2), (Ty, G), rfl, ⟨rfl, ⟨FR.rf, hv.symm⟩⟩, by show HT g Ty G t.heap; rw [ht]; exact hH⟩, hS.F ht⟩) hS.2.2 dX0_move_41
    · rw [if_pos c_22] at hv
      have r_83 : rgI (0) (0) x_20 := rg_w (rg_eq rl_0 c_22) (by decide) (by decide)
      exact L_23 s.heap [] G (G.2.1 (g.2.2 70)) (G.1 22) ls FR.rf rfl rfl (lv_sub hl [] rfl) hv hH hS
