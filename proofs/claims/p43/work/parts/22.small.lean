set_option maxHeartbeats 4000000 in
set_option maxRecDepth 100000 in
theorem c_X9_signAt (l : Launch) (g : Gx) (Ty : TyM) (G : Gh) (h0 : Nat) (a0 : Int32) (k_h0 : Ty h0 = some (19, 0)) : Met l yX9_signAt (wsG yX9_signAt cX9_signAt 2 (some .int)) ({ frames := 0, cells := 0, slots := 0, locals := 0 }) (PcH g Ty G [.ref h0, .int a0]) (vp_Si (fun r => True)) 0 0 (fun _ => False) := by
  refine Met.ofW (cc := cX9_signAt) (maxL := 2) (ret := (some .int)) (by decide) rfl ?_
  intro p e s m args below meth c s₁ B hml hv
  obtain ⟨rfl, hK, hH⟩ := hv
  have hx := B.exec
  have hb := B.bytes
  have hr := B.returns
  have hts := atoms_spec (ws := (wsG yX9_signAt cX9_signAt 2 (some .int))) B.pre
  have hG : ∀ w ∈ GW, w.before ([.ref h0, .int a0] : List Value).toArray s = true := fun w h => hts w (List.mem_cons_of_mem _ h)
  have hown : s.vm.findClass RX9 = some m.cls := findClass_of_methodNamed B.named
  have hlocks := B.notSynchronized
  have hl := lv_entry [.ref h0, .int a0] (n := 2) (Nat.le_of_ble_eq_true rfl)
  rw [lg_entry_eq]
  generalize (lg_sl [.ref h0, .int a0] ++ List.replicate (2 - (lg_sl [.ref h0, .int a0]).length) Slot.unset).toArray = ls at hl ⊢
  have hl : lv_has ls 2 [(0, .ref h0), (1, .int a0)] := hl
  have L_21 : ∀ (ls : Array Slot), lv_has ls 2 [] → Wm p l e (wsG yX9_signAt cX9_signAt 2 (some .int)) ({ frames := 0, cells := 0, slots := 0, locals := 0 }) s m [.ref h0, .int a0] below meth c s.heap [] (0) (0) (vp_Si (fun r => True)) 0 0 (fun _ => False) (F0 m 21 ls []) := by
    intro ls hl
    refine lv_iconst (v := (-1)) hx hb dX9_signAt_21 (by decide) ?_
    exact W.iret hx hb hr (fun t ht hW => ⟨(-1), rfl, trivial, ht⟩) (fun q h => by cases h) dX9_signAt_22
  refine lv_iload_n hx hb dX9_signAt_0 rfl (lv_at hl 1 rfl) ?_
  refine lv_if_lt (tgt := 21) hx hb dX9_signAt_1 (by decide) (fun c_1 => ?_) (fun c_1 => ?_)
  · have r_2 : rgI (-2147483648) (-1) a0 := rg_w (rg_ltL (rg_top a0) rl_0 c_1) (by decide) (by decide)
    exact L_21  ls (lv_sub hl [] rfl)
  · have r_3 : rgI (0) (2147483647) a0 := rg_w (rg_leR rl_0 (rg_top a0) (nlt_le c_1)) (by decide) (by decide)
    refine lv_iload_n hx hb dX9_signAt_4 rfl (lv_at hl 1 rfl) ?_
    refine lv_aload_n hx hb dX9_signAt_5 rfl (lv_at hl 0 rfl) ?_
    obtain ⟨_, ⟨q_5, rfl, kq_5, rq_6, t_7⟩, o_c_4⟩ := hH h0 _ k_h0
    refine hg_get hx hb hG igX9 hown hK o_c_4 rfl 1 (by decide) (hG _ mw_172) rfl dX9_signAt_6 ?_
    refine lv_icmp_ge (tgt := 21) hx hb dX9_signAt_9 (by decide) (fun c_8 => ?_) (fun c_8 => ?_)
    · exact L_21  ls (lv_sub hl [] rfl)
    · have r_9 : rgI (0) (79) a0 := rg_w (rg_ltL r_3 rq_6 (nle_lt c_8)) (by decide) (by decide)
      have r_10 : rgI (1) (80) (G.1 0) := rg_w (rg_ltR r_3 rq_6 (nle_lt c_8)) (by decide) (by decide)
      refine lv_aload_n hx hb dX9_signAt_12 rfl (lv_at hl 0 rfl) ?_
      refine hg_get hx hb hG igX9 hown hK o_c_4 rfl 0 (by decide) (hG _ mw_171) rfl dX9_signAt_13 ?_
      refine lv_iload_n hx hb dX9_signAt_16 rfl (lv_at hl 1 rfl) ?_
      obtain ⟨_, ⟨f_12, rfl⟩, o_c_11⟩ := hH q_5 _ kq_5
      refine hg_iald hx hb hK o_c_11 (rg_in (n := 80) r_9 (by decide) (by decide)) dX9_signAt_17 ?_
      refine lv_topi (fun x_13 ex_13 => ?_)
      refine lv_goto (tgt := 22) hx hb dX9_signAt_18 (by decide) ?_
      exact W.iret hx hb hr (fun t ht hW => ⟨x_13, rfl, trivial, ht⟩) (fun q h => by cases h) dX9_signAt_22

set_option maxHeartbeats 4000000 in
set_option maxRecDepth 100000 in
theorem c_X9_dirAt (l : Launch) (g : Gx) (Ty : TyM) (G : Gh) (h0 : Nat) (a0 : Int32) (k_h0 : Ty h0 = some (19, 0)) : Met l yX9_dirAt (wsG yX9_dirAt cX9_dirAt 3 (some .int)) ({ frames := 1, cells := 0, slots := 0, locals := 21 }) (PcH g Ty G [.ref h0, .int a0]) (vp_Si (fun r => rgI (-1) (3) r)) 0 0 (fun _ => False) := by
  refine Met.ofW (cc := cX9_dirAt) (maxL := 3) (ret := (some .int)) (by decide) rfl ?_
  intro p e s m args below meth c s₁ B hml hv
  obtain ⟨rfl, hK, hH⟩ := hv
  have hx := B.exec
  have hb := B.bytes
  have hr := B.returns
  have hts := atoms_spec (ws := (wsG yX9_dirAt cX9_dirAt 3 (some .int))) B.pre
  have hG : ∀ w ∈ GW, w.before ([.ref h0, .int a0] : List Value).toArray s = true := fun w h => hts w (List.mem_cons_of_mem _ h)
  have hown : s.vm.findClass RX9 = some m.cls := findClass_of_methodNamed B.named
  have hlocks := B.notSynchronized
  have hl := lv_entry [.ref h0, .int a0] (n := 3) (Nat.le_of_ble_eq_true rfl)
  rw [lg_entry_eq]
  generalize (lg_sl [.ref h0, .int a0] ++ List.replicate (3 - (lg_sl [.ref h0, .int a0]).length) Slot.unset).toArray = ls at hl ⊢
  have hl : lv_has ls 3 [(0, .ref h0), (1, .int a0)] := hl
  have L_25 : ∀ (ls : Array Slot), lv_has ls 3 [] → Wm p l e (wsG yX9_dirAt cX9_dirAt 3 (some .int)) ({ frames := 1, cells := 0, slots := 0, locals := 21 }) s m [.ref h0, .int a0] below meth c s.heap [] (0) (0) (vp_Si (fun r => rgI (-1) (3) r)) 0 0 (fun _ => False) (F0 m 25 ls []) := by
    intro ls hl
    refine lv_iconst (v := (-1)) hx hb dX9_dirAt_25 (by decide) ?_
    exact W.iret hx hb hr (fun t ht hW => ⟨(-1), rfl, rg_w rl_m1 (by decide) (by decide), ht⟩) (fun q h => by cases h) dX9_dirAt_26
  refine lv_aload_n hx hb dX9_dirAt_0 rfl (lv_at hl 0 rfl) ?_
  refine lv_iload_n hx hb dX9_dirAt_1 rfl (lv_at hl 1 rfl) ?_
  obtain ⟨_, ⟨q_2, rfl, kq_2, rq_3, t_4⟩, o_c_1⟩ := hH h0 _ k_h0
  refine vp_callSi (W.runV (As := [.int a0]) (rest := []) ⟨hx, hb, hml, hown, hts⟩ (c_X9_signAt l g Ty G h0 a0 k_h0) (cwV 1 hts (gwV mw_577 mw_428 mw_429 mw_79 mw_430) rfl rfl rfl hv_X9_signAt ⟨Nat.le_of_ble_eq_true rfl, Nat.le_of_ble_eq_true rfl⟩) ⟨PcH_blind, hg_recv hK o_c_1 rfl, PcH_pre hK hH⟩ rfl rfl hl.1 rfl (lv_room (Nat.le_of_ble_eq_true rfl)) dX9_dirAt_2 ⟨Nat.zero_le _, Nat.zero_le _⟩) (fun x_5 hx_5 => ?_)
  refine lv_istore_n (lv' := [(2, .int x_5), (0, .ref h0), (1, .int a0)]) hx hb dX9_dirAt_5 rfl hl (by decide) rfl (fun ls hl => ?_)
  refine lv_iload_n hx hb dX9_dirAt_6 rfl (lv_at hl 0 rfl) ?_
  refine lv_bipush (v := 97) hx hb dX9_dirAt_7 (by decide) ?_
  refine lv_icmp_lt (tgt := 25) hx hb dX9_dirAt_9 (by decide) (fun c_6 => ?_) (fun c_6 => ?_)
  · have r_7 : rgI (-2147483648) (96) x_5 := rg_w (rg_ltL (rg_top x_5) rl_97 c_6) (by decide) (by decide)
    exact L_25  ls (lv_sub hl [] rfl)
  · have r_8 : rgI (97) (2147483647) x_5 := rg_w (rg_leR rl_97 (rg_top x_5) (nlt_le c_6)) (by decide) (by decide)
    refine lv_iload_n hx hb dX9_dirAt_12 rfl (lv_at hl 0 rfl) ?_
    refine lv_bipush (v := 100) hx hb dX9_dirAt_13 (by decide) ?_
    refine lv_icmp_gt (tgt := 25) hx hb dX9_dirAt_15 (by decide) (fun c_9 => ?_) (fun c_9 => ?_)
    · have r_10 : rgI (101) (2147483647) x_5 := rg_w (rg_ltR rl_100 r_8 c_9) (by decide) (by decide)
      exact L_25  ls (lv_sub hl [] rfl)
    · have r_11 : rgI (97) (100) x_5 := rg_w (rg_leL r_8 rl_100 (nlt_le c_9)) (by decide) (by decide)
      refine lv_iload_n hx hb dX9_dirAt_18 rfl (lv_at hl 0 rfl) ?_
      refine lv_bipush (v := 97) hx hb dX9_dirAt_19 (by decide) ?_
      refine lv_isub hx hb dX9_dirAt_21 ?_
      refine lv_topi (fun x_12 ex_12 => ?_)
      have rx_12 : rgI (0) (3) x_12 := by rw [ex_12]; exact rg_w (rg_sub r_11 rl_97 (by decide) (by decide)) (by decide) (by decide)
      refine lv_goto (tgt := 26) hx hb dX9_dirAt_22 (by decide) ?_
      exact W.iret hx hb hr (fun t ht hW => ⟨x_12, rfl, rg_w rx_12 (by decide) (by decide), ht⟩) (fun q h => by cases h) dX9_dirAt_26

set_option maxHeartbeats 4000000 in
set_option maxRecDepth 100000 in
theorem c_X7_clear (l : Launch) (g : Gx) (Ty : TyM) (G : Gh) (sz : Nat) (h0 : Nat) (k_h0 : Ty h0 = some (17, 0)) : Met l yX7_clear (wsG yX7_clear cX7_clear 1 none) ({ frames := 0, cells := 0, slots := 0, locals := 0 }) (PcT g Ty G sz [.ref h0]) (QwV g Ty sz (fun u => u = (Ty, G))) 0 0 (AF Ty sz) := by
  refine Met.ofW (cc := cX7_clear) (maxL := 1) (ret := none) (by decide) rfl ?_
  intro p e s m args below meth c s₁ B hml hv
  obtain ⟨rfl, hsz, hK, hH⟩ := hv
  subst hsz
  have hx := B.exec
  have hb := B.bytes
  have hr := B.returns
  have hts := atoms_spec (ws := (wsG yX7_clear cX7_clear 1 none)) B.pre
  have hG : ∀ w ∈ GW, w.before ([.ref h0] : List Value).toArray s = true := fun w h => hts w (List.mem_cons_of_mem _ h)
  have hown : s.vm.findClass RX7 = some m.cls := findClass_of_methodNamed B.named
  have hlocks := B.notSynchronized
  have hl := lv_entry [.ref h0] (n := 1) (Nat.le_of_ble_eq_true rfl)
  rw [lg_entry_eq]
  generalize (lg_sl [.ref h0] ++ List.replicate (1 - (lg_sl [.ref h0]).length) Slot.unset).toArray = ls at hl ⊢
  have hl : lv_has ls 1 [(0, .ref h0)] := hl
  have hS : va_S (AF Ty s.heap.size) s.heap s.heap [] := va_S.rf
  refine lv_aload_n hx hb dX7_clear_0 rfl (lv_at hl 0 rfl) ?_
  refine lv_iconst (v := 0) hx hb dX7_clear_1 (by decide) ?_
  obtain ⟨_, ⟨q_2, q_3, rfl, kq_2, rq_3⟩, o_c_1⟩ := hH h0 _ k_h0
  refine hg_put (ty := .int) hx hb hG igX7 tyX7 tyX7_ok nmX7 hown hK hS o_c_1 (AF.of k_h0) rfl 1 (by decide) (hG _ mw_188) rfl (by decide +kernel) rfl rfl (Nat.le_of_ble_eq_true rfl) dX7_clear_2 (fun H locs o_c_1 hz oq hS => ?_)
  have o_c_1 : va_at g.1 vwCl (h0, .inr (7, [.ref q_2, .int 0])) H := o_c_1
  have hH : HT g Ty G H := hH.put k_h0 ⟨q_2, 0, rfl, kq_2, (rg_w rl_0 (by decide) (by decide))⟩ o_c_1 oq
  clear oq hz
  exact W.vret hx hb hr (fun t ht hWm => ⟨⟨(Ty, G), rfl, rfl, by show HT g Ty G t.heap; rw [ht]; exact hH⟩, hS.F ht⟩) hS.2.2 dX7_clear_5

set_option maxHeartbeats 4000000 in
set_option maxRecDepth 100000 in
theorem c_X7_add (l : Launch) (g : Gx) (Ty : TyM) (G : Gh) (sz : Nat) (h0 : Nat) (j0 : Int64) (k_h0 : Ty h0 = some (17, 0)) : Met l yX7_add (wsG yX7_add cX7_add 3 none) ({ frames := 0, cells := 0, slots := 0, locals := 0 }) (PcT g Ty G sz [.ref h0, .long j0]) (QwV g Ty sz (fun u => u = (Ty, G))) 0 0 (AF Ty sz) := by
  refine Met.ofW (cc := cX7_add) (maxL := 3) (ret := none) (by decide) rfl ?_
  intro p e s m args below meth c s₁ B hml hv
  obtain ⟨rfl, hsz, hK, hH⟩ := hv
  subst hsz
  have hx := B.exec
  have hb := B.bytes
  have hr := B.returns
  have hts := atoms_spec (ws := (wsG yX7_add cX7_add 3 none)) B.pre
  have hG : ∀ w ∈ GW, w.before ([.ref h0, .long j0] : List Value).toArray s = true := fun w h => hts w (List.mem_cons_of_mem _ h)
  have hown : s.vm.findClass RX7 = some m.cls := findClass_of_methodNamed B.named
  have hlocks := B.notSynchronized
  have hl := lv_entry [.ref h0, .long j0] (n := 3) (Nat.le_of_ble_eq_true rfl)
  rw [lg_entry_eq]
  generalize (lg_sl [.ref h0, .long j0] ++ List.replicate (3 - (lg_sl [.ref h0, .long j0]).length) Slot.unset).toArray = ls at hl ⊢
  have hl : lv_has ls 3 [(0, .ref h0), (1, .long j0)] := hl
  have hS : va_S (AF Ty s.heap.size) s.heap s.heap [] := va_S.rf
  refine lv_aload_n hx hb dX7_add_0 rfl (lv_at hl 0 rfl) ?_
  obtain ⟨_, ⟨q_2, q_3, rfl, kq_2, rq_3⟩, o_c_1⟩ := hH h0 _ k_h0
  refine hg_get hx hb hG igX7 hown hK o_c_1 rfl 1 (by decide) (hG _ mw_188) rfl dX7_add_1 ?_
  refine lv_bipush (v := 24) hx hb dX7_add_4 (by decide) ?_
  refine lv_icmp_ge (tgt := 29) hx hb dX7_add_6 (by decide) (fun c_4 => ?_) (fun c_4 => ?_)
  · have r_5 : rgI (24) (24) q_3 := rg_w (rg_leR rl_24 rq_3 c_4) (by decide) (by decide)
    exact W.vret hx hb hr (fun t ht hWm => ⟨⟨(Ty, G), rfl, rfl, by show HT g Ty G t.heap; rw [ht]; exact hH⟩, hS.F ht⟩) hS.2.2 dX7_add_29
  · have r_6 : rgI (0) (23) q_3 := rg_w (rg_ltL rq_3 rl_24 (nle_lt c_4)) (by decide) (by decide)
    refine lv_aload_n hx hb dX7_add_9 rfl (lv_at hl 0 rfl) ?_
    refine hg_get hx hb hG igX7 hown hK o_c_1 rfl 0 (by decide) (hG _ mw_187) rfl dX7_add_10 ?_
    refine lv_aload_n hx hb dX7_add_13 rfl (lv_at hl 0 rfl) ?_
    refine hg_get hx hb hG igX7 hown hK o_c_1 rfl 1 (by decide) (hG _ mw_188) rfl dX7_add_14 ?_
    refine lv_lload_n hx hb dX7_add_17 rfl (lv_at hl 1 rfl) ?_
    obtain ⟨_, ⟨f_8, rfl⟩, o_c_7⟩ := hH q_2 _ kq_2
    refine hg_last hx hb hK hS o_c_7 (AF.of kq_2) (rg_in (n := 24) r_6 (by decide) (by decide)) dX7_add_18 (fun H locs o_c_7 hz oq hS => ?_)
    generalize hff_9 : vp_updL f_8 _ j0 = f_9 at o_c_7
    have hH : HT g Ty G H := hH.put kq_2 ⟨_, rfl⟩ o_c_7 oq
    have o_c_1 := o_c_1.kept (oq _ (ne_kd k_h0 kq_2 (by decide)))
    clear oq hz
    refine lv_aload_n hx hb dX7_add_19 rfl (lv_at hl 0 rfl) ?_
    refine lv_dup hx hb dX7_add_20 rfl ?_
    refine hg_get hx hb hG igX7 hown hK o_c_1 rfl 1 (by decide) (hG _ mw_188) rfl dX7_add_21 ?_
    refine lv_iconst (v := 1) hx hb dX7_add_24 (by decide) ?_
    refine lv_iadd hx hb dX7_add_25 ?_
    refine lv_topi (fun x_10 ex_10 => ?_)
    have rx_10 : rgI (1) (24) x_10 := by rw [ex_10]; exact rg_w (rg_add r_6 rl_1 (by decide) (by decide)) (by decide) (by decide)
    have qx_10 : x_10.toInt = (q_3 : Int32).toInt + 1 := by rw [ex_10]; exact rg_addE r_6 rl_1 (by decide) (by decide)
    refine hg_put (ty := .int) hx hb hG igX7 tyX7 tyX7_ok nmX7 hown hK hS o_c_1 (AF.of k_h0) rfl 1 (by decide) (hG _ mw_188) rfl (by decide +kernel) rfl rfl (Nat.le_of_ble_eq_true rfl) dX7_add_26 (fun H locs o_c_1 hz oq hS => ?_)
    have o_c_1 : va_at g.1 vwCl (h0, .inr (7, [.ref q_2, .int x_10])) H := o_c_1
    have hH : HT g Ty G H := hH.put k_h0 ⟨q_2, x_10, rfl, kq_2, (rg_w rx_10 (by decide) (by decide))⟩ o_c_1 oq
    have o_c_7 := o_c_7.kept (oq _ (ne_kd kq_2 k_h0 (by decide)))
    clear oq hz
    exact W.vret hx hb hr (fun t ht hWm => ⟨⟨(Ty, G), rfl, rfl, by show HT g Ty G t.heap; rw [ht]; exact hH⟩, hS.F ht⟩) hS.2.2 dX7_add_29

set_option maxHeartbeats 4000000 in
set_option maxRecDepth 100000 in
theorem c_X7_drop (l : Launch) (g : Gx) (Ty : TyM) (G : Gh) (sz : Nat) (h0 : Nat) (k_h0 : Ty h0 = some (17, 0)) : Met l yX7_drop (wsG yX7_drop cX7_drop 1 none) ({ frames := 0, cells := 0, slots := 0, locals := 0 }) (PcT g Ty G sz [.ref h0]) (QwV g Ty sz (fun u => u = (Ty, G))) 0 0 (AF Ty sz) := by
  refine Met.ofW (cc := cX7_drop) (maxL := 1) (ret := none) (by decide) rfl ?_
  intro p e s m args below meth c s₁ B hml hv
  obtain ⟨rfl, hsz, hK, hH⟩ := hv
  subst hsz
  have hx := B.exec
  have hb := B.bytes
  have hr := B.returns
  have hts := atoms_spec (ws := (wsG yX7_drop cX7_drop 1 none)) B.pre
  have hG : ∀ w ∈ GW, w.before ([.ref h0] : List Value).toArray s = true := fun w h => hts w (List.mem_cons_of_mem _ h)
  have hown : s.vm.findClass RX7 = some m.cls := findClass_of_methodNamed B.named
  have hlocks := B.notSynchronized
  have hl := lv_entry [.ref h0] (n := 1) (Nat.le_of_ble_eq_true rfl)
  rw [lg_entry_eq]
  generalize (lg_sl [.ref h0] ++ List.replicate (1 - (lg_sl [.ref h0]).length) Slot.unset).toArray = ls at hl ⊢
  have hl : lv_has ls 1 [(0, .ref h0)] := hl
  have hS : va_S (AF Ty s.heap.size) s.heap s.heap [] := va_S.rf
  refine lv_aload_n hx hb dX7_drop_0 rfl (lv_at hl 0 rfl) ?_
  obtain ⟨_, ⟨q_2, q_3, rfl, kq_2, rq_3⟩, o_c_1⟩ := hH h0 _ k_h0
  refine hg_get hx hb hG igX7 hown hK o_c_1 rfl 1 (by decide) (hG _ mw_188) rfl dX7_drop_1 ?_
  refine lv_if_le (tgt := 17) hx hb dX7_drop_4 (by decide) (fun c_4 => ?_) (fun c_4 => ?_)
  · have r_5 : rgI (0) (0) q_3 := rg_w (rg_leL rq_3 rl_0 c_4) (by decide) (by decide)
    exact W.vret hx hb hr (fun t ht hWm => ⟨⟨(Ty, G), rfl, rfl, by show HT g Ty G t.heap; rw [ht]; exact hH⟩, hS.F ht⟩) hS.2.2 dX7_drop_17
  · have r_6 : rgI (1) (24) q_3 := rg_w (rg_ltR rl_0 rq_3 (nle_lt c_4)) (by decide) (by decide)
    refine lv_aload_n hx hb dX7_drop_7 rfl (lv_at hl 0 rfl) ?_
    refine lv_dup hx hb dX7_drop_8 rfl ?_
    refine hg_get hx hb hG igX7 hown hK o_c_1 rfl 1 (by decide) (hG _ mw_188) rfl dX7_drop_9 ?_
    refine lv_iconst (v := 1) hx hb dX7_drop_12 (by decide) ?_
    refine lv_isub hx hb dX7_drop_13 ?_
    refine lv_topi (fun x_7 ex_7 => ?_)
    have rx_7 : rgI (0) (23) x_7 := by rw [ex_7]; exact rg_w (rg_sub r_6 rl_1 (by decide) (by decide)) (by decide) (by decide)
    refine hg_put (ty := .int) hx hb hG igX7 tyX7 tyX7_ok nmX7 hown hK hS o_c_1 (AF.of k_h0) rfl 1 (by decide) (hG _ mw_188) rfl (by decide +kernel) rfl rfl (Nat.le_of_ble_eq_true rfl) dX7_drop_14 (fun H locs o_c_1 hz oq hS => ?_)
    have o_c_1 : va_at g.1 vwCl (h0, .inr (7, [.ref q_2, .int x_7])) H := o_c_1
    have hH : HT g Ty G H := hH.put k_h0 ⟨q_2, x_7, rfl, kq_2, (rg_w rx_7 (by decide) (by decide))⟩ o_c_1 oq
    clear oq hz
    exact W.vret hx hb hr (fun t ht hWm => ⟨⟨(Ty, G), rfl, rfl, by show HT g Ty G t.heap; rw [ht]; exact hH⟩, hS.F ht⟩) hS.2.2 dX7_drop_17

set_option maxHeartbeats 4000000 in
set_option maxRecDepth 100000 in
theorem c_X7_tell (l : Launch) (g : Gx) (Ty : TyM) (G : Gh) (sz : Nat) (h0 : Nat) (j0 : Int64) (k_h0 : Ty h0 = some (17, 0)) : Met l yX7_tell (wsG yX7_tell cX7_tell 3 none) ({ frames := 1, cells := 0, slots := 0, locals := 22 }) (PcT g Ty G sz [.ref h0, .long j0]) (QwV g Ty sz (fun u => u = (Ty, G))) 0 0 (AF Ty sz) := by
  refine Met.ofW (cc := cX7_tell) (maxL := 3) (ret := none) (by decide) rfl ?_
  intro p e s m args below meth c s₁ B hml hv
  obtain ⟨rfl, hsz, hK, hH⟩ := hv
  subst hsz
  have hx := B.exec
  have hb := B.bytes
  have hr := B.returns
  have hts := atoms_spec (ws := (wsG yX7_tell cX7_tell 3 none)) B.pre
  have hG : ∀ w ∈ GW, w.before ([.ref h0, .long j0] : List Value).toArray s = true := fun w h => hts w (List.mem_cons_of_mem _ h)
  have hown : s.vm.findClass RX7 = some m.cls := findClass_of_methodNamed B.named
  have hlocks := B.notSynchronized
  have hl := lv_entry [.ref h0, .long j0] (n := 3) (Nat.le_of_ble_eq_true rfl)
  rw [lg_entry_eq]
  generalize (lg_sl [.ref h0, .long j0] ++ List.replicate (3 - (lg_sl [.ref h0, .long j0]).length) Slot.unset).toArray = ls at hl ⊢
  have hl : lv_has ls 3 [(0, .ref h0), (1, .long j0)] := hl
  have hS : va_S (AF Ty s.heap.size) s.heap s.heap [] := va_S.rf
  refine lv_aload_n hx hb dX7_tell_0 rfl (lv_at hl 0 rfl) ?_
  obtain ⟨_, ⟨q_2, q_3, rfl, kq_2, rq_3⟩, o_c_1⟩ := hH h0 _ k_h0
  refine va_callv (va_runV (As := []) (rest := []) ⟨hx, hb, hml, hown, hts⟩ (c_X7_clear l g Ty G s.heap.size h0 k_h0) (cwV 0 hts (gwV mw_587 mw_588 mw_589 mw_80 mw_590) rfl rfl rfl hv_X7_clear ⟨Nat.le_of_ble_eq_true rfl, Nat.le_of_ble_eq_true rfl⟩) ⟨PcT_blind, hg_recv hK o_c_1 rfl, PcT_pre hK hH⟩ rfl rfl hl.1 rfl (lv_room (Nat.le_of_ble_eq_true rfl)) dX7_tell_1 ⟨Nat.zero_le _, Nat.zero_le _⟩) hS (fun q _ h => AF.mono hS.1 h) (fun q h => AF.mono hS.1 h) (fun ux_4 t H locs ht hvm hx_4 hB hz hk hS => ?_)
  have hH : HT g Ty G H := by rw [← ht]; rw [hx_4] at hB; exact hB
  refine lv_aload_n hx hb dX7_tell_4 rfl (lv_at hl 0 rfl) ?_
  refine lv_lload_n hx hb dX7_tell_5 rfl (lv_at hl 1 rfl) ?_
  obtain ⟨_, ⟨q_6, q_7, rfl, kq_6, rq_7⟩, o_c_5⟩ := hH h0 _ k_h0
  refine va_callv (va_runV (As := [.long j0]) (rest := []) ⟨hx, hb, hml, hown, hts⟩ (c_X7_add l g Ty G H.size h0 j0 k_h0) (cwV 1 hts (gwV mw_591 mw_592 mw_593 mw_80 mw_594) rfl rfl rfl hv_X7_add ⟨Nat.le_of_ble_eq_true rfl, Nat.le_of_ble_eq_true rfl⟩) ⟨PcT_blind, hg_recv hK o_c_5 rfl, PcT_pre hK hH⟩ rfl rfl hl.1 rfl (lv_room (Nat.le_of_ble_eq_true rfl)) dX7_tell_6 ⟨Nat.zero_le _, Nat.zero_le _⟩) hS (fun q _ h => AF.mono hS.1 h) (fun q h => AF.mono hS.1 h) (fun ux_8 t H locs ht hvm hx_8 hB hz hk hS => ?_)
  have hH : HT g Ty G H := by rw [← ht]; rw [hx_8] at hB; exact hB
  exact W.vret hx hb hr (fun t ht hWm => ⟨⟨(Ty, G), rfl, rfl, by show HT g Ty G t.heap; rw [ht]; exact hH⟩, hS.F ht⟩) hS.2.2 dX7_tell_9

set_option maxHeartbeats 4000000 in
set_option maxRecDepth 100000 in
theorem c_X7_tellTwo (l : Launch) (g : Gx) (Ty : TyM) (G : Gh) (sz : Nat) (h0 : Nat) (j0 : Int64) (j1 : Int64) (k_h0 : Ty h0 = some (17, 0)) : Met l yX7_tellTwo (wsG yX7_tellTwo cX7_tellTwo 5 none) ({ frames := 1, cells := 0, slots := 0, locals := 22 }) (PcT g Ty G sz [.ref h0, .long j0, .long j1]) (QwV g Ty sz (fun u => u = (Ty, G))) 0 0 (AF Ty sz) := by
  refine Met.ofW (cc := cX7_tellTwo) (maxL := 5) (ret := none) (by decide) rfl ?_
  intro p e s m args below meth c s₁ B hml hv
  obtain ⟨rfl, hsz, hK, hH⟩ := hv
  subst hsz
  have hx := B.exec
  have hb := B.bytes
  have hr := B.returns
  have hts := atoms_spec (ws := (wsG yX7_tellTwo cX7_tellTwo 5 none)) B.pre
  have hG : ∀ w ∈ GW, w.before ([.ref h0, .long j0, .long j1] : List Value).toArray s = true := fun w h => hts w (List.mem_cons_of_mem _ h)
  have hown : s.vm.findClass RX7 = some m.cls := findClass_of_methodNamed B.named
  have hlocks := B.notSynchronized
  have hl := lv_entry [.ref h0, .long j0, .long j1] (n := 5) (Nat.le_of_ble_eq_true rfl)
  rw [lg_entry_eq]
  generalize (lg_sl [.ref h0, .long j0, .long j1] ++ List.replicate (5 - (lg_sl [.ref h0, .long j0, .long j1]).length) Slot.unset).toArray = ls at hl ⊢
  have hl : lv_has ls 5 [(0, .ref h0), (1, .long j0), (3, .long j1)] := hl
  have hS : va_S (AF Ty s.heap.size) s.heap s.heap [] := va_S.rf
  refine lv_aload_n hx hb dX7_tellTwo_0 rfl (lv_at hl 0 rfl) ?_
  obtain ⟨_, ⟨q_2, q_3, rfl, kq_2, rq_3⟩, o_c_1⟩ := hH h0 _ k_h0
  refine va_callv (va_runV (As := []) (rest := []) ⟨hx, hb, hml, hown, hts⟩ (c_X7_clear l g Ty G s.heap.size h0 k_h0) (cwV 0 hts (gwV mw_587 mw_588 mw_589 mw_80 mw_590) rfl rfl rfl hv_X7_clear ⟨Nat.le_of_ble_eq_true rfl, Nat.le_of_ble_eq_true rfl⟩) ⟨PcT_blind, hg_recv hK o_c_1 rfl, PcT_pre hK hH⟩ rfl rfl hl.1 rfl (lv_room (Nat.le_of_ble_eq_true rfl)) dX7_tellTwo_1 ⟨Nat.zero_le _, Nat.zero_le _⟩) hS (fun q _ h => AF.mono hS.1 h) (fun q h => AF.mono hS.1 h) (fun ux_4 t H locs ht hvm hx_4 hB hz hk hS => ?_)
  have hH : HT g Ty G H := by rw [← ht]; rw [hx_4] at hB; exact hB
  refine lv_aload_n hx hb dX7_tellTwo_4 rfl (lv_at hl 0 rfl) ?_
  refine lv_lload_n hx hb dX7_tellTwo_5 rfl (lv_at hl 1 rfl) ?_
  obtain ⟨_, ⟨q_6, q_7, rfl, kq_6, rq_7⟩, o_c_5⟩ := hH h0 _ k_h0
  refine va_callv (va_runV (As := [.long j0]) (rest := []) ⟨hx, hb, hml, hown, hts⟩ (c_X7_add l g Ty G H.size h0 j0 k_h0) (cwV 1 hts (gwV mw_591 mw_592 mw_593 mw_80 mw_594) rfl rfl rfl hv_X7_add ⟨Nat.le_of_ble_eq_true rfl, Nat.le_of_ble_eq_true rfl⟩) ⟨PcT_blind, hg_recv hK o_c_5 rfl, PcT_pre hK hH⟩ rfl rfl hl.1 rfl (lv_room (Nat.le_of_ble_eq_true rfl)) dX7_tellTwo_6 ⟨Nat.zero_le _, Nat.zero_le _⟩) hS (fun q _ h => AF.mono hS.1 h) (fun q h => AF.mono hS.1 h) (fun ux_8 t H locs ht hvm hx_8 hB hz hk hS => ?_)
  have hH : HT g Ty G H := by rw [← ht]; rw [hx_8] at hB; exact hB
  refine lv_aload_n hx hb dX7_tellTwo_9 rfl (lv_at hl 0 rfl) ?_
  refine lv_lload_n hx hb dX7_tellTwo_10 rfl (lv_at hl 2 rfl) ?_
  obtain ⟨_, ⟨q_10, q_11, rfl, kq_10, rq_11⟩, o_c_9⟩ := hH h0 _ k_h0
  refine va_callv (va_runV (As := [.long j1]) (rest := []) ⟨hx, hb, hml, hown, hts⟩ (c_X7_add l g Ty G H.size h0 j1 k_h0) (cwV 1 hts (gwV mw_591 mw_592 mw_593 mw_80 mw_594) rfl rfl rfl hv_X7_add ⟨Nat.le_of_ble_eq_true rfl, Nat.le_of_ble_eq_true rfl⟩) ⟨PcT_blind, hg_recv hK o_c_9 rfl, PcT_pre hK hH⟩ rfl rfl hl.1 rfl (lv_room (Nat.le_of_ble_eq_true rfl)) dX7_tellTwo_11 ⟨Nat.zero_le _, Nat.zero_le _⟩) hS (fun q _ h => AF.mono hS.1 h) (fun q h => AF.mono hS.1 h) (fun ux_12 t H locs ht hvm hx_12 hB hz hk hS => ?_)
  have hH : HT g Ty G H := by rw [← ht]; rw [hx_12] at hB; exact hB
  exact W.vret hx hb hr (fun t ht hWm => ⟨⟨(Ty, G), rfl, rfl, by show HT g Ty G t.heap; rw [ht]; exact hH⟩, hS.F ht⟩) hS.2.2 dX7_tellTwo_14

set_option maxHeartbeats 4000000 in
set_option maxRecDepth 100000 in
theorem c_X7_numberAt (l : Launch) (g : Gx) (Ty : TyM) (G : Gh) (h0 : Nat) (a0 : Int32) (k_h0 : Ty h0 = some (17, 0)) : Met l yX7_numberAt (wsG yX7_numberAt cX7_numberAt 2 (some .long)) ({ frames := 0, cells := 0, slots := 0, locals := 0 }) (PcH g Ty G [.ref h0, .int a0]) (vp_Sl (fun _ => True)) 0 0 (fun _ => False) := by
  refine Met.ofW (cc := cX7_numberAt) (maxL := 2) (ret := (some .long)) (by decide) rfl ?_
  intro p e s m args below meth c s₁ B hml hv
  obtain ⟨rfl, hK, hH⟩ := hv
  have hx := B.exec
  have hb := B.bytes
  have hr := B.returns
  have hts := atoms_spec (ws := (wsG yX7_numberAt cX7_numberAt 2 (some .long))) B.pre
  have hG : ∀ w ∈ GW, w.before ([.ref h0, .int a0] : List Value).toArray s = true := fun w h => hts w (List.mem_cons_of_mem _ h)
  have hown : s.vm.findClass RX7 = some m.cls := findClass_of_methodNamed B.named
  have hlocks := B.notSynchronized
  have hl := lv_entry [.ref h0, .int a0] (n := 2) (Nat.le_of_ble_eq_true rfl)
  rw [lg_entry_eq]
  generalize (lg_sl [.ref h0, .int a0] ++ List.replicate (2 - (lg_sl [.ref h0, .int a0]).length) Slot.unset).toArray = ls at hl ⊢
  have hl : lv_has ls 2 [(0, .ref h0), (1, .int a0)] := hl
  have L_21 : ∀ (ls : Array Slot), lv_has ls 2 [] → Wm p l e (wsG yX7_numberAt cX7_numberAt 2 (some .long)) ({ frames := 0, cells := 0, slots := 0, locals := 0 }) s m [.ref h0, .int a0] below meth c s.heap [] (0) (0) (vp_Sl (fun _ => True)) 0 0 (fun _ => False) (F0 m 21 ls []) := by
    intro ls hl
    refine lv_lconst (v := 0) hx hb dX7_numberAt_21 (by decide) ?_
    exact W.lret hx hb hr (fun t ht hW => ⟨0, rfl, trivial, ht⟩) (fun q h => by cases h) dX7_numberAt_22
  refine lv_iload_n hx hb dX7_numberAt_0 rfl (lv_at hl 1 rfl) ?_
  refine lv_if_lt (tgt := 21) hx hb dX7_numberAt_1 (by decide) (fun c_1 => ?_) (fun c_1 => ?_)
  · have r_2 : rgI (-2147483648) (-1) a0 := rg_w (rg_ltL (rg_top a0) rl_0 c_1) (by decide) (by decide)
    exact L_21  ls (lv_sub hl [] rfl)
  · have r_3 : rgI (0) (2147483647) a0 := rg_w (rg_leR rl_0 (rg_top a0) (nlt_le c_1)) (by decide) (by decide)
    refine lv_iload_n hx hb dX7_numberAt_4 rfl (lv_at hl 1 rfl) ?_
    refine lv_aload_n hx hb dX7_numberAt_5 rfl (lv_at hl 0 rfl) ?_
    obtain ⟨_, ⟨q_5, q_6, rfl, kq_5, rq_6⟩, o_c_4⟩ := hH h0 _ k_h0
    refine hg_get hx hb hG igX7 hown hK o_c_4 rfl 1 (by decide) (hG _ mw_188) rfl dX7_numberAt_6 ?_
    refine lv_icmp_ge (tgt := 21) hx hb dX7_numberAt_9 (by decide) (fun c_7 => ?_) (fun c_7 => ?_)
    · exact L_21  ls (lv_sub hl [] rfl)
    · have r_8 : rgI (0) (23) a0 := rg_w (rg_ltL r_3 rq_6 (nle_lt c_7)) (by decide) (by decide)
      have r_9 : rgI (1) (24) q_6 := rg_w (rg_ltR r_3 rq_6 (nle_lt c_7)) (by decide) (by decide)
      refine lv_aload_n hx hb dX7_numberAt_12 rfl (lv_at hl 0 rfl) ?_
      refine hg_get hx hb hG igX7 hown hK o_c_4 rfl 0 (by decide) (hG _ mw_187) rfl dX7_numberAt_13 ?_
      refine lv_iload_n hx hb dX7_numberAt_16 rfl (lv_at hl 1 rfl) ?_
      obtain ⟨_, ⟨f_11, rfl⟩, o_c_10⟩ := hH q_5 _ kq_5
      refine hg_lald hx hb hK o_c_10 (rg_in (n := 24) r_8 (by decide) (by decide)) dX7_numberAt_17 ?_
      refine lv_topl (fun u_12 eu_12 => ?_)
      refine lv_goto (tgt := 22) hx hb dX7_numberAt_18 (by decide) ?_
      exact W.lret hx hb hr (fun t ht hW => ⟨u_12, rfl, trivial, ht⟩) (fun q h => by cases h) dX7_numberAt_22

set_option maxHeartbeats 4000000 in
set_option maxRecDepth 100000 in
theorem c_X7_turn (l : Launch) (g : Gx) (Ty : TyM) (G : Gh) (sz : Nat) (h0 : Nat) (k_h0 : Ty h0 = some (17, 0)) : Met l yX7_turn (wsG yX7_turn cX7_turn 4 none) ({ frames := 0, cells := 0, slots := 0, locals := 0 }) (PcT g Ty G sz [.ref h0]) (QwV g Ty sz (fun u => u = (Ty, G))) 0 0 (AF Ty sz) := by
  refine Met.ofW (cc := cX7_turn) (maxL := 4) (ret := none) (by decide) rfl ?_
  intro p e s m args below meth c s₁ B hml hv
  obtain ⟨rfl, hsz, hK, hH⟩ := hv
  subst hsz
  have hx := B.exec
  have hb := B.bytes
  have hr := B.returns
  have hts := atoms_spec (ws := (wsG yX7_turn cX7_turn 4 none)) B.pre
  have hG : ∀ w ∈ GW, w.before ([.ref h0] : List Value).toArray s = true := fun w h => hts w (List.mem_cons_of_mem _ h)
  have hown : s.vm.findClass RX7 = some m.cls := findClass_of_methodNamed B.named
  have hlocks := B.notSynchronized
  have hl := lv_entry [.ref h0] (n := 4) (Nat.le_of_ble_eq_true rfl)
  rw [lg_entry_eq]
  generalize (lg_sl [.ref h0] ++ List.replicate (4 - (lg_sl [.ref h0]).length) Slot.unset).toArray = ls at hl ⊢
  have hl : lv_has ls 4 [(0, .ref h0)] := hl
  have hS : va_S (AF Ty s.heap.size) s.heap s.heap [] := va_S.rf
  have L_2 : ∀ (n : Nat) (H : Heap) (locs : List Loc) (y1_2 : Int32) (ls : Array Slot), rgI (0) (23) y1_2 → (12 - (y1_2).toInt).toNat < n → lv_has ls 4 [(0, .ref h0), (1, .int y1_2)] → HT g Ty G H → va_S (AF Ty s.heap.size) s.heap H locs → Wm p l e (wsG yX7_turn cX7_turn 4 none) ({ frames := 0, cells := 0, slots := 0, locals := 0 }) s m [.ref h0] below meth c H locs (0) (0) (QwV g Ty s.heap.size (fun u => u = (Ty, G))) 0 0 (AF Ty s.heap.size) (F0 m 2 ls []) := by
    intro n
    induction n with
    | zero => intro H locs y1_2 ls ry1_2 hm; exact absurd hm (Nat.not_lt_zero _)
    | succ n ih_2 =>
      intro H locs y1_2 ls ry1_2 hm_2 hl hH hS
      refine lv_iload_n hx hb dX7_turn_2 rfl (lv_at hl 1 rfl) ?_
      refine lv_aload_n hx hb dX7_turn_3 rfl (lv_at hl 0 rfl) ?_
      obtain ⟨_, ⟨q_2, q_3, rfl, kq_2, rq_3⟩, o_c_1⟩ := hH h0 _ k_h0
      refine hg_get hx hb hG igX7 hown hK o_c_1 rfl 1 (by decide) (hG _ mw_188) rfl dX7_turn_4 ?_
      refine lv_iconst (v := 2) hx hb dX7_turn_7 (by decide) ?_
      refine lv_idiv hx hb dX7_turn_8 (by decide) ?_
      refine lv_topi (fun x_4 ex_4 => ?_)
      have rx_4 : rgI (0) (12) x_4 := by rw [ex_4]; exact rg_w (rg_div rq_3 rl_2 (by decide) (by decide)) (by decide) (by decide)
      refine lv_icmp_ge (tgt := 58) hx hb dX7_turn_9 (by decide) (fun c_5 => ?_) (fun c_5 => ?_)
      · exact W.vret hx hb hr (fun t ht hWm => ⟨⟨(Ty, G), rfl, rfl, by show HT g Ty G t.heap; rw [ht]; exact hH⟩, hS.F ht⟩) hS.2.2 dX7_turn_58
      · have r_6 : rgI (0) (11) y1_2 := rg_w (rg_ltL ry1_2 rx_4 (nle_lt c_5)) (by decide) (by decide)
        have r_7 : rgI (1) (12) x_4 := rg_w (rg_ltR ry1_2 rx_4 (nle_lt c_5)) (by decide) (by decide)
        refine lv_aload_n hx hb dX7_turn_12 rfl (lv_at hl 0 rfl) ?_
        refine hg_get hx hb hG igX7 hown hK o_c_1 rfl 0 (by decide) (hG _ mw_187) rfl dX7_turn_13 ?_
        refine lv_iload_n hx hb dX7_turn_16 rfl (lv_at hl 1 rfl) ?_
        obtain ⟨_, ⟨f_9, rfl⟩, o_c_8⟩ := hH q_2 _ kq_2
        refine hg_lald hx hb hK o_c_8 (rg_in (n := 24) r_6 (by decide) (by decide)) dX7_turn_17 ?_
        refine lv_topl (fun u_10 eu_10 => ?_)
        refine lv_lstore_n (lv' := [(2, .long u_10), (0, .ref h0), (1, .int y1_2)]) hx hb dX7_turn_18 rfl hl (by decide) rfl (fun ls hl => ?_)
        refine lv_aload_n hx hb dX7_turn_19 rfl (lv_at hl 1 rfl) ?_
        refine hg_get hx hb hG igX7 hown hK o_c_1 rfl 0 (by decide) (hG _ mw_187) rfl dX7_turn_20 ?_
        refine lv_iload_n hx hb dX7_turn_23 rfl (lv_at hl 2 rfl) ?_
        refine lv_aload_n hx hb dX7_turn_24 rfl (lv_at hl 1 rfl) ?_
        refine hg_get hx hb hG igX7 hown hK o_c_1 rfl 0 (by decide) (hG _ mw_187) rfl dX7_turn_25 ?_
        refine lv_aload_n hx hb dX7_turn_28 rfl (lv_at hl 1 rfl) ?_
        refine hg_get hx hb hG igX7 hown hK o_c_1 rfl 1 (by decide) (hG _ mw_188) rfl dX7_turn_29 ?_
        refine lv_iconst (v := 1) hx hb dX7_turn_32 (by decide) ?_
        refine lv_isub hx hb dX7_turn_33 ?_
        refine lv_topi (fun x_11 ex_11 => ?_)
        have rx_11 : rgI (-1) (23) x_11 := by rw [ex_11]; exact rg_w (rg_sub rq_3 rl_1 (by decide) (by decide)) (by decide) (by decide)
        refine lv_iload_n hx hb dX7_turn_34 rfl (lv_at hl 2 rfl) ?_
        refine lv_isub hx hb dX7_turn_35 ?_
        refine lv_topi (fun x_12 ex_12 => ?_)
        have rx_12 : rgI (-12) (23) x_12 := by rw [ex_12]; exact rg_w (rg_sub rx_11 r_6 (by decide) (by decide)) (by decide) (by decide)
        have in_13 : vp_in x_12 24 := turn_in rq_3 r_6 ex_4 (nle_lt c_5) ex_11 ex_12
        refine hg_lald hx hb hK o_c_8 in_13 dX7_turn_36 ?_
        refine lv_topl (fun u_14 eu_14 => ?_)
        refine hg_last hx hb hK hS o_c_8 (AF.of kq_2) (rg_in (n := 24) r_6 (by decide) (by decide)) dX7_turn_37 (fun H locs o_c_8 hz oq hS => ?_)
        generalize hff_15 : vp_updL f_9 _ u_14 = f_15 at o_c_8
        have hH : HT g Ty G H := hH.put kq_2 ⟨_, rfl⟩ o_c_8 oq
        have o_c_1 := o_c_1.kept (oq _ (ne_kd k_h0 kq_2 (by decide)))
        clear oq hz
        refine lv_aload_n hx hb dX7_turn_38 rfl (lv_at hl 1 rfl) ?_
        refine hg_get hx hb hG igX7 hown hK o_c_1 rfl 0 (by decide) (hG _ mw_187) rfl dX7_turn_39 ?_
        refine lv_aload_n hx hb dX7_turn_42 rfl (lv_at hl 1 rfl) ?_
        refine hg_get hx hb hG igX7 hown hK o_c_1 rfl 1 (by decide) (hG _ mw_188) rfl dX7_turn_43 ?_
        refine lv_iconst (v := 1) hx hb dX7_turn_46 (by decide) ?_
        refine lv_isub hx hb dX7_turn_47 ?_
        refine lv_topi (fun x_16 ex_16 => ?_)
        have rx_16 : rgI (-1) (23) x_16 := by rw [ex_16]; exact rg_w (rg_sub rq_3 rl_1 (by decide) (by decide)) (by decide) (by decide)
        refine lv_iload_n hx hb dX7_turn_48 rfl (lv_at hl 2 rfl) ?_
        refine lv_isub hx hb dX7_turn_49 ?_
        refine lv_topi (fun x_17 ex_17 => ?_)
        have rx_17 : rgI (-12) (23) x_17 := by rw [ex_17]; exact rg_w (rg_sub rx_16 r_6 (by decide) (by decide)) (by decide) (by decide)
        refine lv_lload_n hx hb dX7_turn_50 rfl (lv_at hl 0 rfl) ?_
        have in_18 : vp_in x_17 24 := turn_in rq_3 r_6 ex_4 (nle_lt c_5) ex_16 ex_17
        refine hg_last hx hb hK hS o_c_8 (AF.of kq_2) in_18 dX7_turn_51 (fun H locs o_c_8 hz oq hS => ?_)
        generalize hff_19 : vp_updL f_15 _ u_10 = f_19 at o_c_8
        have hH : HT g Ty G H := hH.put kq_2 ⟨_, rfl⟩ o_c_8 oq
        have o_c_1 := o_c_1.kept (oq _ (ne_kd k_h0 kq_2 (by decide)))
        clear oq hz
        obtain ⟨x_20, ex_20⟩ : ∃ y : Int32, y = y1_2 + 1 := ⟨_, rfl⟩
        have rx_20 : rgI (1) (12) x_20 := by rw [ex_20]; exact rg_w (rg_add r_6 rl_1 (by decide) (by decide)) (by decide) (by decide)
        have qx_20 : x_20.toInt = (y1_2 : Int32).toInt + 1 := by rw [ex_20]; exact rg_addE r_6 rl_1 (by decide) (by decide)
        refine lv_iinc (v := x_20) (lv' := [(1, .int x_20), (2, .long u_10), (0, .ref h0)]) hx hb dX7_turn_52 hl (k := 2) rfl (by rw [ex_20]; rfl) (by decide) rfl (fun ls hl => ?_)
        refine lv_goto (tgt := 2) hx hb dX7_turn_55 (by decide) ?_
        exact ih_2 H locs x_20 ls (rg_w rx_20 (by decide) (by decide)) (by have h1 := qx_20; have h2 := r_6.1; have h3 := r_6.2; have h4 := hm_2; omega) (lv_sub hl [2, 0] rfl) hH hS
  refine lv_iconst (v := 0) hx hb dX7_turn_0 (by decide) ?_
  refine lv_istore_n (lv' := [(1, .int 0), (0, .ref h0)]) hx hb dX7_turn_1 rfl hl (by decide) rfl (fun ls hl => ?_)
  exact L_2 _ s.heap [] 0 ls (rg_w rl_0 (by decide) (by decide)) (Nat.lt_succ_self _) (lv_sub hl [1, 0] rfl) hH hS

set_option maxHeartbeats 4000000 in
set_option maxRecDepth 100000 in
theorem c_X6_walk (l : Launch) (g : Gx) (Ty : TyM) (G : Gh) (sz : Nat) (h0 : Nat) (b0 : Nat) (b1 : Nat) (a2 : Int32) (k_h0 : Ty h0 = some (16, 0)) (k_b0 : Ty b0 = some (20, 0)) (k_b1 : Ty b1 = some (19, 0)) : Met l yX6_walk (wsG yX6_walk cX6_walk 7 (some .int)) ({ frames := 2, cells := 0, slots := 0, locals := 43 }) (PcT g Ty G sz [.ref h0, .ref b0, .ref b1, .int a2]) (QwI g Ty sz (fun r u => u = (Ty, G))) 0 0 (AF Ty sz) := by
  refine Met.ofW (cc := cX6_walk) (maxL := 7) (ret := (some .int)) (by decide) rfl ?_
  intro p e s m args below meth c s₁ B hml hv
  obtain ⟨rfl, hsz, hK, hH⟩ := hv
  subst hsz
  have hx := B.exec
  have hb := B.bytes
  have hr := B.returns
  have hts := atoms_spec (ws := (wsG yX6_walk cX6_walk 7 (some .int))) B.pre
  have hG : ∀ w ∈ GW, w.before ([.ref h0, .ref b0, .ref b1, .int a2] : List Value).toArray s = true := fun w h => hts w (List.mem_cons_of_mem _ h)
  have hown : s.vm.findClass RX6 = some m.cls := findClass_of_methodNamed B.named
  have hlocks := B.notSynchronized
  have hl := lv_entry [.ref h0, .ref b0, .ref b1, .int a2] (n := 7) (Nat.le_of_ble_eq_true rfl)
  rw [lg_entry_eq]
  generalize (lg_sl [.ref h0, .ref b0, .ref b1, .int a2] ++ List.replicate (7 - (lg_sl [.ref h0, .ref b0, .ref b1, .int a2]).length) Slot.unset).toArray = ls at hl ⊢
  have hl : lv_has ls 7 [(0, .ref h0), (1, .ref b0), (2, .ref b1), (3, .int a2)] := hl
  have hS : va_S (AF Ty s.heap.size) s.heap s.heap [] := va_S.rf
  have L_13 : ∀ (n : Nat) (H : Heap) (locs : List Loc) (y4_13 : Int32) (ls : Array Slot), rgI (0) (12) y4_13 → (12 - (y4_13).toInt).toNat < n → lv_has ls 7 [(0, .ref h0), (1, .ref b0), (2, .ref b1), (3, .int a2), (4, .int y4_13)] → HT g Ty G H → va_S (AF Ty s.heap.size) s.heap H locs → Wm p l e (wsG yX6_walk cX6_walk 7 (some .int)) ({ frames := 2, cells := 0, slots := 0, locals := 43 }) s m [.ref h0, .ref b0, .ref b1, .int a2] below meth c H locs (0) (0) (QwI g Ty s.heap.size (fun r u => u = (Ty, G))) 0 0 (AF Ty s.heap.size) (F0 m 13 ls []) := by
    intro n
    induction n with
    | zero => intro H locs y4_13 ls ry4_13 hm; exact absurd hm (Nat.not_lt_zero _)
    | succ n ih_13 =>
      intro H locs y4_13 ls ry4_13 hm_13 hl hH hS
      have L_78 : ∀ (H : Heap) (locs : List Loc) (y5_78 : Int32) (ls : Array Slot), rgI (0) (11) y4_13 → rgI (0) (3) y5_78 → lv_has ls 7 [(0, .ref h0), (1, .ref b0), (2, .ref b1), (3, .int a2), (4, .int y4_13), (5, .int y5_78)] → HT g Ty G H → va_S (AF Ty s.heap.size) s.heap H locs → Wm p l e (wsG yX6_walk cX6_walk 7 (some .int)) ({ frames := 2, cells := 0, slots := 0, locals := 43 }) s m [.ref h0, .ref b0, .ref b1, .int a2] below meth c H locs (0) (0) (QwI g Ty s.heap.size (fun r u => u = (Ty, G))) 0 0 (AF Ty s.heap.size) (F0 m 78 ls []) := by
        intro H locs y5_78 ls ry4_78 ry5_78 hl hH hS
        refine lv_aload_n hx hb dX6_walk_78 rfl (lv_at hl 0 rfl) ?_
        refine lv_iload hx hb dX6_walk_79 (lv_at hl 5 rfl) ?_
        obtain ⟨_, ⟨q_2, q_3, rfl⟩, o_c_1⟩ := hH h0 _ k_h0
        refine hg_put (ty := .int) hx hb hG igX6 tyX6 tyX6_ok nmX6 hown hK hS o_c_1 (AF.of k_h0) rfl 1 (by decide) (hG _ mw_258) rfl (by decide +kernel) rfl rfl (Nat.le_of_ble_eq_true rfl) dX6_walk_81 (fun H locs o_c_1 hz oq hS => ?_)
        have o_c_1 : va_at g.1 vwCl (h0, .inr (6, [.int q_2, .int y5_78])) H := o_c_1
        have hH : HT g Ty G H := hH.put k_h0 ⟨q_2, y5_78, rfl⟩ o_c_1 oq
        clear oq hz
        obtain ⟨x_4, ex_4⟩ : ∃ y : Int32, y = y4_13 + 1 := ⟨_, rfl⟩
        have rx_4 : rgI (1) (12) x_4 := by rw [ex_4]; exact rg_w (rg_add ry4_78 rl_1 (by decide) (by decide)) (by decide) (by decide)
        have qx_4 : x_4.toInt = (y4_13 : Int32).toInt + 1 := by rw [ex_4]; exact rg_addE ry4_78 rl_1 (by decide) (by decide)
        refine lv_iinc (v := x_4) (lv' := [(4, .int x_4), (0, .ref h0), (1, .ref b0), (2, .ref b1), (3, .int a2), (5, .int y5_78)]) hx hb dX6_walk_84 hl (k := 4) rfl (by rw [ex_4]; rfl) (by decide) rfl (fun ls hl => ?_)
        refine lv_goto (tgt := 13) hx hb dX6_walk_87 (by decide) ?_
        exact ih_13 H locs x_4 ls (rg_w rx_4 (by decide) (by decide)) (by have h1 := qx_4; have h2 := ry4_78.1; have h3 := ry4_78.2; have h4 := hm_13; omega) (lv_sub hl [1, 2, 3, 4, 0] rfl) hH hS
      refine lv_iload hx hb dX6_walk_13 (lv_at hl 4 rfl) ?_
      refine lv_bipush (v := 12) hx hb dX6_walk_15 (by decide) ?_
      refine lv_icmp_ge (tgt := 90) hx hb dX6_walk_17 (by decide) (fun c_5 => ?_) (fun c_5 => ?_)
      · have r_6 : rgI (12) (12) y4_13 := rg_w (rg_leR rl_12 ry4_13 c_5) (by decide) (by decide)
        refine lv_iload_n hx hb dX6_walk_90 rfl (lv_at hl 3 rfl) ?_
        refine lv_bipush (v := 12) hx hb dX6_walk_91 (by decide) ?_
        refine lv_iadd hx hb dX6_walk_93 ?_
        refine lv_topi (fun x_7 ex_7 => ?_)
        exact W.iret hx hb hr (fun t ht hWm => ⟨⟨x_7, (Ty, G), rfl, rfl, by show HT g Ty G t.heap; rw [ht]; exact hH⟩, hS.F ht⟩) hS.2.2 dX6_walk_94
      · have r_8 : rgI (0) (11) y4_13 := rg_w (rg_ltL ry4_13 rl_12 (nle_lt c_5)) (by decide) (by decide)
        refine lv_aload_n hx hb dX6_walk_20 rfl (lv_at hl 2 rfl) ?_
        refine lv_iload_n hx hb dX6_walk_21 rfl (lv_at hl 3 rfl) ?_
        refine lv_iload hx hb dX6_walk_22 (lv_at hl 4 rfl) ?_
        refine lv_iadd hx hb dX6_walk_24 ?_
        refine lv_topi (fun x_9 ex_9 => ?_)
        obtain ⟨_, ⟨q_11, rfl, kq_11, rq_12, t_13⟩, o_c_10⟩ := hH b1 _ k_b1
        refine vp_callSi (W.runV (As := [.int x_9]) (rest := []) ⟨hx, hb, hml, hown, hts⟩ (c_X9_dirAt l g Ty G b1 x_9 k_b1) (cwV 1 hts (gwV mw_573 mw_574 mw_575 mw_79 mw_576) rfl rfl rfl hv_X9_dirAt ⟨Nat.le_of_ble_eq_true rfl, Nat.le_of_ble_eq_true rfl⟩) ⟨PcH_blind, hg_recv hK o_c_10 rfl, PcH_pre hK hH⟩ rfl rfl hl.1 rfl (lv_room (Nat.le_of_ble_eq_true rfl)) dX6_walk_25 ⟨Nat.zero_le _, Nat.zero_le _⟩) (fun x_14 hx_14 => ?_)
        have rx_14 : rgI (-1) (3) x_14 := hx_14
        refine lv_istore (lv' := [(5, .int x_14), (0, .ref h0), (1, .ref b0), (2, .ref b1), (3, .int a2), (4, .int y4_13)]) hx hb dX6_walk_28 hl (by decide) rfl (fun ls hl => ?_)
        refine lv_iload hx hb dX6_walk_30 (lv_at hl 0 rfl) ?_
        refine lv_iconst (v := (-1)) hx hb dX6_walk_32 (by decide) ?_
        refine lv_icmp_ne (tgt := 41) hx hb dX6_walk_33 (by decide) (fun c_15 => ?_) (fun c_15 => ?_)
        · have r_16 : rgI (0) (3) x_14 := rg_w (rg_neL rx_14 rl_m1 c_15) (by decide) (by decide)
          refine lv_iload hx hb dX6_walk_41 (lv_at hl 5 rfl) ?_
          refine lv_if_le (tgt := 78) hx hb dX6_walk_43 (by decide) (fun c_17 => ?_) (fun c_17 => ?_)
          · have r_18 : rgI (0) (0) y4_13 := rg_w (rg_leL r_8 rl_0 c_17) (by decide) (by decide)
            exact L_78 H locs x_14 ls (rg_w r_18 (by decide) (by decide)) r_16 (lv_sub hl [1, 2, 3, 4, 5, 0] rfl) hH hS
          · have r_19 : rgI (1) (11) y4_13 := rg_w (rg_ltR rl_0 r_8 (nle_lt c_17)) (by decide) (by decide)
            refine lv_aload_n hx hb dX6_walk_46 rfl (lv_at hl 2 rfl) ?_
            refine lv_aload_n hx hb dX6_walk_47 rfl (lv_at hl 1 rfl) ?_
            obtain ⟨_, ⟨q_21, q_22, rfl⟩, o_c_20⟩ := hH h0 _ k_h0
            refine hg_get hx hb hG igX6 hown hK o_c_20 rfl 0 (by decide) (hG _ mw_255) rfl dX6_walk_48 ?_
            refine lv_aload_n hx hb dX6_walk_51 rfl (lv_at hl 1 rfl) ?_
            refine hg_get hx hb hG igX6 hown hK o_c_20 rfl 1 (by decide) (hG _ mw_258) rfl dX6_walk_52 ?_
            obtain ⟨_, ⟨q_24, q_25, q_26, q_27, q_28, q_29, q_30, rfl, kq_24, kq_25, kq_26⟩, o_c_23⟩ := hH b0 _ k_b0
            refine vp_callSi (W.runV (As := [.int q_21, .int q_22]) (rest := []) ⟨hx, hb, hml, hown, hts⟩ (c_X10_mountAt l g Ty G b0 q_21 q_22 k_b0) (cwV 2 hts (gwV mw_578 mw_579 mw_580 mw_77 mw_581) rfl rfl rfl hv_X10_mountAt ⟨Nat.le_of_ble_eq_true rfl, Nat.le_of_ble_eq_true rfl⟩) ⟨PcH_blind, hg_recv hK o_c_23 rfl, PcH_pre hK hH⟩ rfl rfl hl.1 rfl (lv_room (Nat.le_of_ble_eq_true rfl)) dX6_walk_55 ⟨Nat.zero_le _, Nat.zero_le _⟩) (fun x_31 hx_31 => ?_)
            refine lv_istore (lv' := [(6, .int x_31), (5, .int x_14), (0, .ref h0), (1, .ref b0), (2, .ref b1), (3, .int a2), (4, .int y4_13)]) hx hb dX6_walk_58 hl (by decide) rfl (fun ls hl => ?_)
            refine lv_iload hx hb dX6_walk_60 (lv_at hl 0 rfl) ?_
            refine lv_bipush (v := 24) hx hb dX6_walk_62 (by decide) ?_
            refine lv_icmp_ne (tgt := 72) hx hb dX6_walk_64 (by decide) (fun c_32 => ?_) (fun c_32 => ?_)
            · refine lv_aload_n hx hb dX6_walk_72 rfl (lv_at hl 2 rfl) ?_
              refine lv_iload hx hb dX6_walk_73 (lv_at hl 0 rfl) ?_
              refine hg_put (ty := .int) hx hb hG igX6 tyX6 tyX6_ok nmX6 hown hK hS o_c_20 (AF.of k_h0) rfl 0 (by decide) (hG _ mw_255) rfl (by decide +kernel) rfl rfl (Nat.le_of_ble_eq_true rfl) dX6_walk_75 (fun H locs o_c_20 hz oq hS => ?_)
              have o_c_20 : va_at g.1 vwCl (h0, .inr (6, [.int x_31, .int q_22])) H := o_c_20
              have hH : HT g Ty G H := hH.put k_h0 ⟨x_31, q_22, rfl⟩ o_c_20 oq
              have o_c_10 := o_c_10.kept (oq _ (ne_kd k_b1 k_h0 (by decide)))
              have o_c_23 := o_c_23.kept (oq _ (ne_kd k_b0 k_h0 (by decide)))
              clear oq hz
              exact L_78 H locs x_14 ls (rg_w r_19 (by decide) (by decide)) r_16 (lv_sub hl [2, 3, 4, 5, 6, 1] rfl) hH hS
            · have r_33 : rgI (24) (24) x_31 := rg_w (rg_eq rl_24 c_32) (by decide) (by decide)
              refine lv_iload_n hx hb dX6_walk_67 rfl (lv_at hl 5 rfl) ?_
              refine lv_iload hx hb dX6_walk_68 (lv_at hl 6 rfl) ?_
              refine lv_iadd hx hb dX6_walk_70 ?_
              refine lv_topi (fun x_34 ex_34 => ?_)
              exact W.iret hx hb hr (fun t ht hWm => ⟨⟨x_34, (Ty, G), rfl, rfl, by show HT g Ty G t.heap; rw [ht]; exact hH⟩, hS.F ht⟩) hS.2.2 dX6_walk_71
        · have r_35 : rgI (-1) (-1) x_14 := rg_w (rg_eq rl_m1 c_15) (by decide) (by decide)
          refine lv_iload_n hx hb dX6_walk_36 rfl (lv_at hl 4 rfl) ?_
          refine lv_iload hx hb dX6_walk_37 (lv_at hl 5 rfl) ?_
          refine lv_iadd hx hb dX6_walk_39 ?_
          refine lv_topi (fun x_36 ex_36 => ?_)
          exact W.iret hx hb hr (fun t ht hWm => ⟨⟨x_36, (Ty, G), rfl, rfl, by show HT g Ty G t.heap; rw [ht]; exact hH⟩, hS.F ht⟩) hS.2.2 dX6_walk_40
  refine lv_aload_n hx hb dX6_walk_0 rfl (lv_at hl 0 rfl) ?_
  refine lv_iconst (v := 0) hx hb dX6_walk_1 (by decide) ?_
  obtain ⟨_, ⟨q_38, q_39, rfl⟩, o_c_37⟩ := hH h0 _ k_h0
  refine hg_put (ty := .int) hx hb hG igX6 tyX6 tyX6_ok nmX6 hown hK hS o_c_37 (AF.of k_h0) rfl 0 (by decide) (hG _ mw_255) rfl (by decide +kernel) rfl rfl (Nat.le_of_ble_eq_true rfl) dX6_walk_2 (fun H locs o_c_37 hz oq hS => ?_)
  have o_c_37 : va_at g.1 vwCl (h0, .inr (6, [.int 0, .int q_39])) H := o_c_37
  have hH : HT g Ty G H := hH.put k_h0 ⟨0, q_39, rfl⟩ o_c_37 oq
  clear oq hz
  refine lv_aload_n hx hb dX6_walk_5 rfl (lv_at hl 0 rfl) ?_
  refine lv_iconst (v := (-1)) hx hb dX6_walk_6 (by decide) ?_
  refine hg_put (ty := .int) hx hb hG igX6 tyX6 tyX6_ok nmX6 hown hK hS o_c_37 (AF.of k_h0) rfl 1 (by decide) (hG _ mw_258) rfl (by decide +kernel) rfl rfl (Nat.le_of_ble_eq_true rfl) dX6_walk_7 (fun H locs o_c_37 hz oq hS => ?_)
  have o_c_37 : va_at g.1 vwCl (h0, .inr (6, [.int 0, .int (-1)])) H := o_c_37
  have hH : HT g Ty G H := hH.put k_h0 ⟨0, (-1), rfl⟩ o_c_37 oq
  clear oq hz
  refine lv_iconst (v := 0) hx hb dX6_walk_10 (by decide) ?_
  refine lv_istore (lv' := [(4, .int 0), (0, .ref h0), (1, .ref b0), (2, .ref b1), (3, .int a2)]) hx hb dX6_walk_11 hl (by decide) rfl (fun ls hl => ?_)
  exact L_13 _ H locs 0 ls (rg_w rl_0 (by decide) (by decide)) (Nat.lt_succ_self _) (lv_sub hl [1, 2, 3, 4, 0] rfl) hH hS
