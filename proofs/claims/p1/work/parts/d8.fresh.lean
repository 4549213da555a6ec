set_option maxHeartbeats 4000000 in
set_option maxRecDepth 100000 in
theorem c_X4_pop (l : Launch) (g : Gx) (Ty : TyM) (G : Gh) (sz : Nat) (h0 : Nat) (b0 : Nat) (k_h0 : Ty h0 = some (14, 0)) (k_b0 : Ty b0 = some (24, 0)) (h28 : G.1 28 = 0) : Met l yX4_pop (wsG yX4_pop cX4_pop 3 (some .boolean)) ({ frames := 1, cells := 0, slots := 0, locals := 22 }) (PcT g Ty G sz [.ref h0, .ref b0]) (QwI g Ty sz (fun r u => (rgI (0) (0) r) ∧ u = (Ty, G))) 0 0 (AF Ty sz) := by
  refine Met.ofW (cc := cX4_pop) (maxL := 3) (ret := (some .boolean)) (by decide) rfl ?_
  intro p e s m args below meth c s₁ B hml hv
  obtain ⟨rfl, hsz, hK, hH⟩ := hv
  subst hsz
  have hx := B.exec
  have hb := B.bytes
  have hr := B.returns
  have hts := atoms_spec (ws := (wsG yX4_pop cX4_pop 3 (some .boolean))) B.pre
  have hG : ∀ w ∈ GW, w.before ([.ref h0, .ref b0] : List Value).toArray s = true := fun w h => hts w (List.mem_cons_of_mem _ h)
  have hown : s.vm.findClass RX4 = some m.cls := findClass_of_methodNamed B.named
  have hlocks := B.notSynchronized
  have hl := lv_entry [.ref h0, .ref b0] (n := 3) (Nat.le_of_ble_eq_true rfl)
  rw [lg_entry_eq]
  generalize (lg_sl [.ref h0, .ref b0] ++ List.replicate (3 - (lg_sl [.ref h0, .ref b0]).length) Slot.unset).toArray = ls at hl ⊢
  have hl : lv_has ls 3 [(0, .ref h0), (1, .ref b0)] := hl
  have hS : va_S (AF Ty s.heap.size) s.heap s.heap [] := va_S.rf
  have L_25 : ∀ (H : Heap) (locs : List Loc) (ls : Array Slot), lv_has ls 3 [(0, .ref h0), (1, .ref b0)] → HT g Ty G H → va_S (AF Ty s.heap.size) s.heap H locs → Wm p l e (wsG yX4_pop cX4_pop 3 (some .boolean)) ({ frames := 1, cells := 0, slots := 0, locals := 22 }) s m [.ref h0, .ref b0] below meth c H locs (0) (0) (QwI g Ty s.heap.size (fun r u => (rgI (0) (0) r) ∧ u = (Ty, G))) 0 0 (AF Ty s.heap.size) (F0 m 25 ls []) := by
    intro H locs ls hl hH hS
    refine lv_bipush (v := 11) hx hb dX4_pop_25 (by decide) ?_
    refine lv_istore_n (lv' := [(2, .int 11), (0, .ref h0), (1, .ref b0)]) hx hb dX4_pop_27 rfl hl (by decide) rfl (fun ls hl => ?_)
    refine lv_aload_n hx hb dX4_pop_28 rfl (lv_at hl 1 rfl) ?_
    obtain ⟨_, ⟨q_2, q_3, rfl, kq_2, t_5⟩, o_c_1⟩ := hH h0 _ k_h0
    refine hg_get hx hb hG igX4 hown hK o_c_1 rfl 2 (by decide) (hG _ mw_156) rfl dX4_pop_29 ?_
    rw [h28]
    refine lv_if_eq (tgt := 44) hx hb dX4_pop_32 (by decide) (fun c_6 => ?_) (fun c_6 => ?_)
    · refine lv_iconst (v := 0) hx hb dX4_pop_44 (by decide) ?_
      exact W.zret hx hb hr rfl (fun t ht hWm => ⟨⟨0, (Ty, G), rfl, ⟨rg_w rl_0 (by decide) (by decide), rfl⟩, by show HT g Ty G t.heap; rw [ht]; exact hH⟩, hS.F ht⟩) hS.2.2 dX4_pop_45
    · exact absurd rfl c_6
  refine lv_aload_n hx hb dX4_pop_0 rfl (lv_at hl 0 rfl) ?_
  obtain ⟨_, ⟨q_8, q_9, rfl, kq_8, t_11⟩, o_c_7⟩ := hH h0 _ k_h0
  refine hg_get hx hb hG igX4 hown hK o_c_7 rfl 1 (by decide) (hG _ mw_155) rfl dX4_pop_1 ?_
  refine lv_if_le (tgt := 25) hx hb dX4_pop_4 (by decide) (fun c_12 => ?_) (fun c_12 => ?_)
  · have r_13 : rgI (-2147483648) (0) q_9 := rg_w (rg_leL (rg_top q_9) rl_0 c_12) (by decide) (by decide)
    exact L_25 s.heap [] ls (lv_sub hl [0, 1] rfl) hH hS
  · have r_14 : rgI (1) (2147483647) q_9 := rg_w (rg_ltR rl_0 (rg_top q_9) (nle_lt c_12)) (by decide) (by decide)
    refine lv_aload_n hx hb dX4_pop_7 rfl (lv_at hl 0 rfl) ?_
    refine hg_get hx hb hG igX4 hown hK o_c_7 rfl 1 (by decide) (hG _ mw_155) rfl dX4_pop_8 ?_
    refine lv_bipush (v := 12) hx hb dX4_pop_11 (by decide) ?_
    refine lv_icmp_gt (tgt := 25) hx hb dX4_pop_13 (by decide) (fun c_15 => ?_) (fun c_15 => ?_)
    · have r_16 : rgI (13) (2147483647) q_9 := rg_w (rg_ltR rl_12 r_14 c_15) (by decide) (by decide)
      exact L_25 s.heap [] ls (lv_sub hl [0, 1] rfl) hH hS
    · have r_17 : rgI (1) (12) q_9 := rg_w (rg_leL r_14 rl_12 (nlt_le c_15)) (by decide) (by decide)
      refine lv_aload_n hx hb dX4_pop_16 rfl (lv_at hl 0 rfl) ?_
      refine hg_get hx hb hG igX4 hown hK o_c_7 rfl 1 (by decide) (hG _ mw_155) rfl dX4_pop_17 ?_
      refine lv_iconst (v := 1) hx hb dX4_pop_20 (by decide) ?_
      refine lv_isub hx hb dX4_pop_21 ?_
      refine lv_topi (fun x_18 ex_18 => ?_)
      have rx_18 : rgI (0) (11) x_18 := by rw [ex_18]; exact rg_w (rg_sub r_17 rl_1 (by decide) (by decide)) (by decide) (by decide)
      refine lv_goto (tgt := 27) hx hb dX4_pop_22 (by decide) ?_
      refine lv_istore_n (lv' := [(2, .int x_18), (0, .ref h0), (1, .ref b0)]) hx hb dX4_pop_27 rfl hl (by decide) rfl (fun ls hl => ?_)
      refine lv_aload_n hx hb dX4_pop_28 rfl (lv_at hl 1 rfl) ?_
      refine hg_get hx hb hG igX4 hown hK o_c_7 rfl 2 (by decide) (hG _ mw_156) rfl dX4_pop_29 ?_
      rw [h28]
      refine lv_if_eq (tgt := 44) hx hb dX4_pop_32 (by decide) (fun c_19 => ?_) (fun c_19 => ?_)
      · refine lv_iconst (v := 0) hx hb dX4_pop_44 (by decide) ?_
        exact W.zret hx hb hr rfl (fun t ht hWm => ⟨⟨0, (Ty, G), rfl, ⟨rg_w rl_0 (by decide) (by decide), rfl⟩, by show HT g Ty G t.heap; rw [ht]; exact hH⟩, hS.F ht⟩) hS.2.2 dX4_pop_45
      · exact absurd rfl c_19

set_option maxHeartbeats 4000000 in
set_option maxRecDepth 100000 in
theorem c_X11_undo (l : Launch) (g : Gx) (Ty : TyM) (G : Gh) (sz : Nat) (h0 : Nat) (k_h0 : Ty h0 = some (21, 0)) (h28 : G.1 28 = 0) : Met l yX11_undo (wsG yX11_undo cX11_undo 1 (some .int)) ({ frames := 2, cells := 0, slots := 0, locals := 44 }) (PcT g Ty G sz [.ref h0]) (QwI g Ty sz (fun r u => (rgI (-1) (-1) r) ∧ u = (Ty, G))) 0 0 (AF Ty sz) := by
  refine Met.ofW (cc := cX11_undo) (maxL := 1) (ret := (some .int)) (by decide) rfl ?_
  intro p e s m args below meth c s₁ B hml hv
  obtain ⟨rfl, hsz, hK, hH⟩ := hv
  subst hsz
  have hx := B.exec
  have hb := B.bytes
  have hr := B.returns
  have hts := atoms_spec (ws := (wsG yX11_undo cX11_undo 1 (some .int))) B.pre
  have hG : ∀ w ∈ GW, w.before ([.ref h0] : List Value).toArray s = true := fun w h => hts w (List.mem_cons_of_mem _ h)
  have hown : s.vm.findClass RX11 = some m.cls := findClass_of_methodNamed B.named
  have hlocks := B.notSynchronized
  have hl := lv_entry [.ref h0] (n := 1) (Nat.le_of_ble_eq_true rfl)
  rw [lg_entry_eq]
  generalize (lg_sl [.ref h0] ++ List.replicate (1 - (lg_sl [.ref h0]).length) Slot.unset).toArray = ls at hl ⊢
  have hl : lv_has ls 1 [(0, .ref h0)] := hl
  have hS : va_S (AF Ty s.heap.size) s.heap s.heap [] := va_S.rf
  refine lv_aload_n hx hb dX11_undo_0 rfl (lv_at hl 0 rfl) ?_
  obtain ⟨_, ⟨rfl, kq_2, kq_3, kq_4, kq_5, kq_6, kq_7, kq_8, kq_9, kq_10, kq_11, kq_12, kq_13, kq_14, kq_15, t_17⟩, o_c_1⟩ := hH h0 _ k_h0
  refine hg_get hx hb hG igX11 hown hK o_c_1 rfl 2 (by decide) (hG _ mw_359) rfl dX11_undo_1 ?_
  refine lv_aload_n hx hb dX11_undo_4 rfl (lv_at hl 0 rfl) ?_
  refine hg_get hx hb hG igX11 hown hK o_c_1 rfl 0 (by decide) (hG _ mw_357) rfl dX11_undo_5 ?_
  obtain ⟨_, ⟨q_19, q_20, rfl, kq_19, t_22⟩, o_c_18⟩ := hH (g.2.2 2) _ kq_4
  refine va_calli (va_runV (As := [.ref (g.2.2 0)]) (rest := []) ⟨hx, hb, hml, hown, hts⟩ (c_X4_pop l g Ty G s.heap.size (g.2.2 2) (g.2.2 0) kq_4 kq_2 h28) (cwV 1 hts (gwV mw_906 mw_907 mw_908 mw_78 mw_909) rfl rfl rfl hv_X4_pop ⟨Nat.le_of_ble_eq_true rfl, Nat.le_of_ble_eq_true rfl⟩) ⟨PcT_blind, hg_recv hK o_c_18 rfl, PcT_pre hK hH⟩ rfl rfl hl.1 rfl (lv_room (Nat.le_of_ble_eq_true rfl)) dX11_undo_8 ⟨Nat.zero_le _, Nat.zero_le _⟩) hS (fun q _ h => AF.mono hS.1 h) (fun q h => AF.mono hS.1 h) (fun x_23 ux_23 t H locs ht hvm hx_23 hB hz hk hS => ?_)
  obtain ⟨hx_23, fx_23⟩ := hx_23
  have hH : HT g Ty G H := by rw [← ht]; rw [fx_23] at hB; exact hB
  have rx_23 : rgI (0) (0) x_23 := hx_23
  refine lv_if_eq (tgt := 24) hx hb dX11_undo_11 (by decide) (fun c_24 => ?_) (fun c_24 => ?_)
  · refine lv_iconst (v := (-1)) hx hb dX11_undo_24 (by decide) ?_
    exact W.iret hx hb hr (fun t ht hWm => ⟨⟨(-1), (Ty, G), rfl, ⟨rg_w rl_m1 (by decide) (by decide), rfl⟩, by show HT g Ty G t.heap; rw [ht]; exact hH⟩, hS.F ht⟩) hS.2.2 dX11_undo_25
  · exact absurd (rg_one rx_23 rl_0) c_24

set_option maxHeartbeats 4000000 in
set_option maxRecDepth 100000 in
theorem c_X9_signAt_z (l : Launch) (g : Gx) (Ty : TyM) (G : Gh) (h0 : Nat) (a0 : Int32) (k_h0 : Ty h0 = some (19, 0)) (hz0 : G.1 0 = 0) : Met l yX9_signAt (wsG yX9_signAt cX9_signAt 2 (some .int)) ({ frames := 0, cells := 0, slots := 0, locals := 0 }) (PcH g Ty G [.ref h0, .int a0]) (vp_Si (fun r => rgI (-1) (-1) r)) 0 0 (fun _ => False) := by
  refine Met.ofW (cc := cX9_signAt) (maxL := 2) (ret := (some .int)) (by decide) rfl ?_
  intro p e s m args below meth c s₁ B hml hv
  obtain ⟨rfl, hK, hH⟩ := hv
  have hx := B.exec
  have hb := B.bytes
  have hr := B.returns
  have hts := atoms_spec (ws := (wsG yX9_signAt cX9_signAt 2 (some .int))) B.pre
  have hG : ∀ w ∈ GW, w.before ([.ref h0, .int a0] : List Value).toArray s = true := fun w h => hts w (List.mem_cons_of_mem _ h)
  have hown : s.vm.findClass RX9 = some m.cls := findClass_of_methodNamed B.named
  have hlocks := B.notSynchronized
  have hl := lv_entry [.ref h0, .int a0] (n := 2) (Nat.le_of_ble_eq_true rfl)
  rw [lg_entry_eq]
  generalize (lg_sl [.ref h0, .int a0] ++ List.replicate (2 - (lg_sl [.ref h0, .int a0]).length) Slot.unset).toArray = ls at hl ⊢
  have hl : lv_has ls 2 [(0, .ref h0), (1, .int a0)] := hl
  have L_21 : ∀ (ls : Array Slot), lv_has ls 2 [] → Wm p l e (wsG yX9_signAt cX9_signAt 2 (some .int)) ({ frames := 0, cells := 0, slots := 0, locals := 0 }) s m [.ref h0, .int a0] below meth c s.heap [] (0) (0) (vp_Si (fun r => rgI (-1) (-1) r)) 0 0 (fun _ => False) (F0 m 21 ls []) := by
    intro ls hl
    refine lv_iconst (v := (-1)) hx hb dX9_signAt_21 (by decide) ?_
    exact W.iret hx hb hr (fun t ht hW => ⟨(-1), rfl, rg_w rl_m1 (by decide) (by decide), ht⟩) (fun q h => by cases h) dX9_signAt_22
  refine lv_iload_n hx hb dX9_signAt_0 rfl (lv_at hl 1 rfl) ?_
  refine lv_if_lt (tgt := 21) hx hb dX9_signAt_1 (by decide) (fun c_1 => ?_) (fun c_1 => ?_)
  · have r_2 : rgI (-2147483648) (-1) a0 := rg_w (rg_ltL (rg_top a0) rl_0 c_1) (by decide) (by decide)
    exact L_21  ls (lv_sub hl [] rfl)
  · have r_3 : rgI (0) (2147483647) a0 := rg_w (rg_leR rl_0 (rg_top a0) (nlt_le c_1)) (by decide) (by decide)
    refine lv_iload_n hx hb dX9_signAt_4 rfl (lv_at hl 1 rfl) ?_
    refine lv_aload_n hx hb dX9_signAt_5 rfl (lv_at hl 0 rfl) ?_
    obtain ⟨_, ⟨q_5, rfl, kq_5, rq_6, t_7⟩, o_c_4⟩ := hH h0 _ k_h0
    refine hg_get hx hb hG igX9 hown hK o_c_4 rfl 1 (by decide) (hG _ mw_172) rfl dX9_signAt_6 ?_
    rw [hz0]
    refine lv_icmp_ge (tgt := 21) hx hb dX9_signAt_9 (by decide) (fun c_8 => ?_) (fun c_8 => ?_)
    · exact L_21  ls (lv_sub hl [] rfl)
    · exact rg_no r_3 rl_0 (nle_lt c_8) (by decide)

set_option maxHeartbeats 4000000 in
set_option maxRecDepth 100000 in
theorem c_X9_dirAt_z (l : Launch) (g : Gx) (Ty : TyM) (G : Gh) (h0 : Nat) (a0 : Int32) (k_h0 : Ty h0 = some (19, 0)) (hz0 : G.1 0 = 0) : Met l yX9_dirAt (wsG yX9_dirAt cX9_dirAt 3 (some .int)) ({ frames := 1, cells := 0, slots := 0, locals := 21 }) (PcH g Ty G [.ref h0, .int a0]) (vp_Si (fun r => rgI (-1) (-1) r)) 0 0 (fun _ => False) := by
  refine Met.ofW (cc := cX9_dirAt) (maxL := 3) (ret := (some .int)) (by decide) rfl ?_
  intro p e s m args below meth c s₁ B hml hv
  obtain ⟨rfl, hK, hH⟩ := hv
  have hx := B.exec
  have hb := B.bytes
  have hr := B.returns
  have hts := atoms_spec (ws := (wsG yX9_dirAt cX9_dirAt 3 (some .int))) B.pre
  have hG : ∀ w ∈ GW, w.before ([.ref h0, .int a0] : List Value).toArray s = true := fun w h => hts w (List.mem_cons_of_mem _ h)
  have hown : s.vm.findClass RX9 = some m.cls := findClass_of_methodNamed B.named
  have hlocks := B.notSynchronized
  have hl := lv_entry [.ref h0, .int a0] (n := 3) (Nat.le_of_ble_eq_true rfl)
  rw [lg_entry_eq]
  generalize (lg_sl [.ref h0, .int a0] ++ List.replicate (3 - (lg_sl [.ref h0, .int a0]).length) Slot.unset).toArray = ls at hl ⊢
  have hl : lv_has ls 3 [(0, .ref h0), (1, .int a0)] := hl
  have L_25 : ∀ (ls : Array Slot), lv_has ls 3 [] → Wm p l e (wsG yX9_dirAt cX9_dirAt 3 (some .int)) ({ frames := 1, cells := 0, slots := 0, locals := 21 }) s m [.ref h0, .int a0] below meth c s.heap [] (0) (0) (vp_Si (fun r => rgI (-1) (-1) r)) 0 0 (fun _ => False) (F0 m 25 ls []) := by
    intro ls hl
    refine lv_iconst (v := (-1)) hx hb dX9_dirAt_25 (by decide) ?_
    exact W.iret hx hb hr (fun t ht hW => ⟨(-1), rfl, rg_w rl_m1 (by decide) (by decide), ht⟩) (fun q h => by cases h) dX9_dirAt_26
  refine lv_aload_n hx hb dX9_dirAt_0 rfl (lv_at hl 0 rfl) ?_
  refine lv_iload_n hx hb dX9_dirAt_1 rfl (lv_at hl 1 rfl) ?_
  obtain ⟨_, ⟨q_2, rfl, kq_2, rq_3, t_4⟩, o_c_1⟩ := hH h0 _ k_h0
  refine vp_callSi (W.runV (As := [.int a0]) (rest := []) ⟨hx, hb, hml, hown, hts⟩ (c_X9_signAt_z l g Ty G h0 a0 k_h0 hz0) (cwV 1 hts (gwV mw_577 mw_428 mw_429 mw_79 mw_430) rfl rfl rfl hv_X9_signAt ⟨Nat.le_of_ble_eq_true rfl, Nat.le_of_ble_eq_true rfl⟩) ⟨PcH_blind, hg_recv hK o_c_1 rfl, PcH_pre hK hH⟩ rfl rfl hl.1 rfl (lv_room (Nat.le_of_ble_eq_true rfl)) dX9_dirAt_2 ⟨Nat.zero_le _, Nat.zero_le _⟩) (fun x_5 hx_5 => ?_)
  have rx_5 : rgI (-1) (-1) x_5 := hx_5
  refine lv_istore_n (lv' := [(2, .int x_5), (0, .ref h0), (1, .int a0)]) hx hb dX9_dirAt_5 rfl hl (by decide) rfl (fun ls hl => ?_)
  refine lv_iload_n hx hb dX9_dirAt_6 rfl (lv_at hl 0 rfl) ?_
  refine lv_bipush (v := 97) hx hb dX9_dirAt_7 (by decide) ?_
  refine lv_icmp_lt (tgt := 25) hx hb dX9_dirAt_9 (by decide) (fun c_6 => ?_) (fun c_6 => ?_)
  · exact L_25  ls (lv_sub hl [] rfl)
  · exact rg_no2 rl_97 rx_5 (nlt_le c_6) (by decide)

set_option maxHeartbeats 4000000 in
set_option maxRecDepth 100000 in
theorem c_X9_clear_f (l : Launch) (g : Gx) (Ty : TyM) (G : Gh) (sz : Nat) (h0 : Nat) (k_h0 : Ty h0 = some (19, 0)) (hD1 : LD1 g) : Met l yX9_clear (wsG yX9_clear cX9_clear 1 none) ({ frames := 0, cells := 0, slots := 0, locals := 0 }) (PcT g Ty G sz [.ref h0]) (QwV g Ty sz (fun u => u.1 = Ty ∧ FR [0] [] [] G u.2)) 0 0 (AF Ty sz) := by
  refine Met.ofW (cc := cX9_clear) (maxL := 1) (ret := none) (by decide) rfl ?_
  intro p e s m args below meth c s₁ B hml hv
  obtain ⟨rfl, hsz, hK, hH⟩ := hv
  subst hsz
  have hx := B.exec
  have hb := B.bytes
  have hr := B.returns
  have hts := atoms_spec (ws := (wsG yX9_clear cX9_clear 1 none)) B.pre
  have hG : ∀ w ∈ GW, w.before ([.ref h0] : List Value).toArray s = true := fun w h => hts w (List.mem_cons_of_mem _ h)
  have hown : s.vm.findClass RX9 = some m.cls := findClass_of_methodNamed B.named
  have hlocks := B.notSynchronized
  have hl := lv_entry [.ref h0] (n := 1) (Nat.le_of_ble_eq_true rfl)
  rw [lg_entry_eq]
  generalize (lg_sl [.ref h0] ++ List.replicate (1 - (lg_sl [.ref h0]).length) Slot.unset).toArray = ls at hl ⊢
  have hl : lv_has ls 1 [(0, .ref h0)] := hl
  have hS : va_S (AF Ty s.heap.size) s.heap s.heap [] := va_S.rf
  refine lv_aload_n hx hb dX9_clear_0 rfl (lv_at hl 0 rfl) ?_
  refine lv_iconst (v := 0) hx hb dX9_clear_1 (by decide) ?_
  obtain ⟨_, ⟨q_2, rfl, kq_2, rq_3, t_4⟩, o_c_1⟩ := hH h0 _ k_h0
  refine hg_put (ty := .int) hx hb hG igX9 tyX9 tyX9_ok nmX9 hown hK hS o_c_1 (AF.of k_h0) rfl 1 (by decide) (hG _ mw_172) rfl (by decide +kernel) rfl rfl (Nat.le_of_ble_eq_true rfl) dX9_clear_2 (fun H locs o_c_1 hz oq hS => ?_)
  obtain ⟨G_5, eG_5⟩ : ∃ z : Gh, z = gset G 0 0 := ⟨_, rfl⟩
  have hH : HT g Ty G_5 H := by rw [eG_5]; exact HT.putN 0 0 hH k_h0 ⟨q_2, rfl, kq_2, (rgu (rg_w rl_0 (by decide) (by decide))), t_4⟩ o_c_1 oq (Or.inl ⟨rfl, t_4⟩)
  have fr_6 : FR [0] [] [] G G_5 := FR.n FR.rf eG_5 (by decide)
  have u_7 : G_5.1 0 = 0 := by rw [eG_5]; exact gs_eq
  clear oq hz
  exact W.vret hx hb hr (fun t ht hWm => ⟨⟨(Ty, G_5), rfl, ⟨rfl, fr_6⟩, by show HT g Ty G_5 t.heap; rw [ht]; exact hH⟩, hS.F ht⟩) hS.2.2 dX9_clear_5

set_option maxHeartbeats 4000000 in
set_option maxRecDepth 100000 in
theorem c_X6_walk (l : Launch) (g : Gx) (Ty : TyM) (G : Gh) (sz : Nat) (h0 : Nat) (b0 : Nat) (b1 : Nat) (a2 : Int32) (k_h0 : Ty h0 = some (16, 0)) (k_b0 : Ty b0 = some (24, 0)) (k_b1 : Ty b1 = some (19, 0)) (pr2 : rgI (0) (0) a2) (hz0 : G.1 0 = 0) : Met l yX6_walk (wsG yX6_walk cX6_walk 7 (some .int)) ({ frames := 2, cells := 0, slots := 0, locals := 43 }) (PcT g Ty G sz [.ref h0, .ref b0, .ref b1, .int a2]) (QwI g Ty sz (fun r u => (rgI (0) (0) r) ∧ u = (Ty, G))) 0 0 (AF Ty sz) := by
  refine Met.ofW (cc := cX6_walk) (maxL := 7) (ret := (some .int)) (by decide) rfl ?_
  intro p e s m args below meth c s₁ B hml hv
  obtain ⟨rfl, hsz, hK, hH⟩ := hv
  subst hsz
  have hx := B.exec
  have hb := B.bytes
  have hr := B.returns
  have hts := atoms_spec (ws := (wsG yX6_walk cX6_walk 7 (some .int))) B.pre
  have hG : ∀ w ∈ GW, w.before ([.ref h0, .ref b0, .ref b1, .int a2] : List Value).toArray s = true := fun w h => hts w (List.mem_cons_of_mem _ h)
  have hown : s.vm.findClass RX6 = some m.cls := findClass_of_methodNamed B.named
  have hlocks := B.notSynchronized
  have hl := lv_entry [.ref h0, .ref b0, .ref b1, .int a2] (n := 7) (Nat.le_of_ble_eq_true rfl)
  rw [lg_entry_eq]
  generalize (lg_sl [.ref h0, .ref b0, .ref b1, .int a2] ++ List.replicate (7 - (lg_sl [.ref h0, .ref b0, .ref b1, .int a2]).length) Slot.unset).toArray = ls at hl ⊢
  have hl : lv_has ls 7 [(0, .ref h0), (1, .ref b0), (2, .ref b1), (3, .int a2)] := hl
  have hS : va_S (AF Ty s.heap.size) s.heap s.heap [] := va_S.rf
  have L_13 : ∀ (n : Nat) (H : Heap) (locs : List Loc) (y4_13 : Int32) (ls : Array Slot), rgI (0) (0) a2 → rgI (0) (0) y4_13 → (12 - (y4_13).toInt).toNat < n → lv_has ls 7 [(0, .ref h0), (1, .ref b0), (2, .ref b1), (3, .int a2), (4, .int y4_13)] → HT g Ty G H → va_S (AF Ty s.heap.size) s.heap H locs → Wm p l e (wsG yX6_walk cX6_walk 7 (some .int)) ({ frames := 2, cells := 0, slots := 0, locals := 43 }) s m [.ref h0, .ref b0, .ref b1, .int a2] below meth c H locs (0) (0) (QwI g Ty s.heap.size (fun r u => (rgI (0) (0) r) ∧ u = (Ty, G))) 0 0 (AF Ty s.heap.size) (F0 m 13 ls []) := by
    intro n
    induction n with
    | zero => intro H locs y4_13 ls ry3_13 ry4_13 hm; exact absurd hm (Nat.not_lt_zero _)
    | succ n ih_13 =>
      intro H locs y4_13 ls ry3_13 ry4_13 hm_13 hl hH hS
      refine lv_iload hx hb dX6_walk_13 (lv_at hl 4 rfl) ?_
      refine lv_bipush (v := 12) hx hb dX6_walk_15 (by decide) ?_
      refine lv_icmp_ge (tgt := 90) hx hb dX6_walk_17 (by decide) (fun c_1 => ?_) (fun c_1 => ?_)
      · exact rg_no2 rl_12 ry4_13 c_1 (by decide)
      · refine lv_aload_n hx hb dX6_walk_20 rfl (lv_at hl 2 rfl) ?_
        refine lv_iload_n hx hb dX6_walk_21 rfl (lv_at hl 3 rfl) ?_
        refine lv_iload hx hb dX6_walk_22 (lv_at hl 4 rfl) ?_
        refine lv_iadd hx hb dX6_walk_24 ?_
        refine lv_topi (fun x_2 ex_2 => ?_)
        have rx_2 : rgI (0) (0) x_2 := by rw [ex_2]; exact rg_w (rg_add ry3_13 ry4_13 (by decide) (by decide)) (by decide) (by decide)
        obtain ⟨_, ⟨q_4, rfl, kq_4, rq_5, t_6⟩, o_c_3⟩ := hH b1 _ k_b1
        refine vp_callSi (W.runV (As := [.int x_2]) (rest := []) ⟨hx, hb, hml, hown, hts⟩ (c_X9_dirAt_z l g Ty G b1 x_2 k_b1 hz0) (cwV 1 hts (gwV mw_573 mw_574 mw_575 mw_79 mw_576) rfl rfl rfl hv_X9_dirAt ⟨Nat.le_of_ble_eq_true rfl, Nat.le_of_ble_eq_true rfl⟩) ⟨PcH_blind, hg_recv hK o_c_3 rfl, PcH_pre hK hH⟩ rfl rfl hl.1 rfl (lv_room (Nat.le_of_ble_eq_true rfl)) dX6_walk_25 ⟨Nat.zero_le _, Nat.zero_le _⟩) (fun x_7 hx_7 => ?_)
        have rx_7 : rgI (-1) (-1) x_7 := hx_7
        refine lv_istore (lv' := [(5, .int x_7), (0, .ref h0), (1, .ref b0), (2, .ref b1), (3, .int a2), (4, .int y4_13)]) hx hb dX6_walk_28 hl (by decide) rfl (fun ls hl => ?_)
        refine lv_iload hx hb dX6_walk_30 (lv_at hl 0 rfl) ?_
        refine lv_iconst (v := (-1)) hx hb dX6_walk_32 (by decide) ?_
        refine lv_icmp_ne (tgt := 41) hx hb dX6_walk_33 (by decide) (fun c_8 => ?_) (fun c_8 => ?_)
        · exact absurd (rg_one rx_7 rl_m1) c_8
        · refine lv_iload_n hx hb dX6_walk_36 rfl (lv_at hl 4 rfl) ?_
          refine lv_iload hx hb dX6_walk_37 (lv_at hl 5 rfl) ?_
          refine lv_iadd hx hb dX6_walk_39 ?_
          refine lv_topi (fun x_9 ex_9 => ?_)
          have rx_9 : rgI (0) (0) x_9 := by rw [ex_9]; exact rg_w (rg_add ry3_13 ry4_13 (by decide) (by decide)) (by decide) (by decide)
          exact W.iret hx hb hr (fun t ht hWm => ⟨⟨x_9, (Ty, G), rfl, ⟨rg_w rx_9 (by decide) (by decide), rfl⟩, by show HT g Ty G t.heap; rw [ht]; exact hH⟩, hS.F ht⟩) hS.2.2 dX6_walk_40
  refine lv_aload_n hx hb dX6_walk_0 rfl (lv_at hl 0 rfl) ?_
  refine lv_iconst (v := 0) hx hb dX6_walk_1 (by decide) ?_
  obtain ⟨_, ⟨q_11, q_12, rfl⟩, o_c_10⟩ := hH h0 _ k_h0
  refine hg_put (ty := .int) hx hb hG igX6 tyX6 tyX6_ok nmX6 hown hK hS o_c_10 (AF.of k_h0) rfl 0 (by decide) (hG _ mw_255) rfl (by decide +kernel) rfl rfl (Nat.le_of_ble_eq_true rfl) dX6_walk_2 (fun H locs o_c_10 hz oq hS => ?_)
  have o_c_10 : va_at g.1 vwCl (h0, .inr (6, [.int 0, .int q_12])) H := o_c_10
  have hH : HT g Ty G H := hH.put k_h0 ⟨0, q_12, rfl⟩ o_c_10 oq
  clear oq hz
  refine lv_aload_n hx hb dX6_walk_5 rfl (lv_at hl 0 rfl) ?_
  refine lv_iconst (v := (-1)) hx hb dX6_walk_6 (by decide) ?_
  refine hg_put (ty := .int) hx hb hG igX6 tyX6 tyX6_ok nmX6 hown hK hS o_c_10 (AF.of k_h0) rfl 1 (by decide) (hG _ mw_258) rfl (by decide +kernel) rfl rfl (Nat.le_of_ble_eq_true rfl) dX6_walk_7 (fun H locs o_c_10 hz oq hS => ?_)
  have o_c_10 : va_at g.1 vwCl (h0, .inr (6, [.int 0, .int (-1)])) H := o_c_10
  have hH : HT g Ty G H := hH.put k_h0 ⟨0, (-1), rfl⟩ o_c_10 oq
  clear oq hz
  refine lv_iconst (v := 0) hx hb dX6_walk_10 (by decide) ?_
  refine lv_istore (lv' := [(4, .int 0), (0, .ref h0), (1, .ref b0), (2, .ref b1), (3, .int a2)]) hx hb dX6_walk_11 hl (by decide) rfl (fun ls hl => ?_)
  exact L_13 _ H locs 0 ls pr2 (rg_w rl_0 (by decide) (by decide)) (Nat.lt_succ_self _) (lv_sub hl [1, 2, 3, 4, 0] rfl) hH hS

set_option maxHeartbeats 4000000 in
set_option maxRecDepth 100000 in
theorem c_X11_place (l : Launch) (g : Gx) (Ty : TyM) (G : Gh) (sz : Nat) (h0 : Nat) (k_h0 : Ty h0 = some (21, 0)) (hD1 : LD1 g) (hz0 : G.1 0 = 0) : Met l yX11_place (wsG yX11_place cX11_place 3 (some .int)) ({ frames := 3, cells := 0, slots := 0, locals := 69 }) (PcT g Ty G sz [.ref h0]) (QwI g Ty sz (fun r u => (rgI (-1) (-1) r) ∧ u.1 = Ty ∧ FR [0] [] [] G u.2)) 0 0 (AF Ty sz) := by
  refine Met.ofW (cc := cX11_place) (maxL := 3) (ret := (some .int)) (by decide) rfl ?_
  intro p e s m args below meth c s₁ B hml hv
  obtain ⟨rfl, hsz, hK, hH⟩ := hv
  subst hsz
  have hx := B.exec
  have hb := B.bytes
  have hr := B.returns
  have hts := atoms_spec (ws := (wsG yX11_place cX11_place 3 (some .int))) B.pre
  have hG : ∀ w ∈ GW, w.before ([.ref h0] : List Value).toArray s = true := fun w h => hts w (List.mem_cons_of_mem _ h)
  have hown : s.vm.findClass RX11 = some m.cls := findClass_of_methodNamed B.named
  have hlocks := B.notSynchronized
  have hl := lv_entry [.ref h0] (n := 3) (Nat.le_of_ble_eq_true rfl)
  rw [lg_entry_eq]
  generalize (lg_sl [.ref h0] ++ List.replicate (3 - (lg_sl [.ref h0]).length) Slot.unset).toArray = ls at hl ⊢
  have hl : lv_has ls 3 [(0, .ref h0)] := hl
  have hS : va_S (AF Ty s.heap.size) s.heap s.heap [] := va_S.rf
  have L_41 : ∀ (H : Heap) (locs : List Loc) (G_41 : Gh) (y2_41 : Int32) (ls : Array Slot), FR [0] [] [] G G_41 → rgI (0) (0) y2_41 → lv_has ls 3 [(2, .int y2_41)] → HT g Ty G_41 H → va_S (AF Ty s.heap.size) s.heap H locs → Wm p l e (wsG yX11_place cX11_place 3 (some .int)) ({ frames := 3, cells := 0, slots := 0, locals := 69 }) s m [.ref h0] below meth c H locs (0) (0) (QwI g Ty s.heap.size (fun r u => (rgI (-1) (-1) r) ∧ u.1 = Ty ∧ FR [0] [] [] G u.2)) 0 0 (AF Ty s.heap.size) (F0 m 41 ls []) := by
    intro H locs G_41 y2_41 ls frL_41 ry2_41 hl hH hS
    refine lv_iconst (v := (-1)) hx hb dX11_place_41 (by decide) ?_
    refine lv_iload_n hx hb dX11_place_42 rfl (lv_at hl 0 rfl) ?_
    refine lv_isub hx hb dX11_place_43 ?_
    refine lv_topi (fun x_1 ex_1 => ?_)
    have rx_1 : rgI (-1) (-1) x_1 := by rw [ex_1]; exact rg_w (rg_sub rl_m1 ry2_41 (by decide) (by decide)) (by decide) (by decide)
    exact W.iret hx hb hr (fun t ht hWm => ⟨⟨x_1, (Ty, G_41), rfl, ⟨rg_w rx_1 (by decide) (by decide), ⟨rfl, frL_41⟩⟩, by show HT g Ty G_41 t.heap; rw [ht]; exact hH⟩, hS.F ht⟩) hS.2.2 dX11_place_44
  refine lv_aload_n hx hb dX11_place_0 rfl (lv_at hl 0 rfl) ?_
  obtain ⟨_, ⟨rfl, kq_3, kq_4, kq_5, kq_6, kq_7, kq_8, kq_9, kq_10, kq_11, kq_12, kq_13, kq_14, kq_15, kq_16, t_18⟩, o_c_2⟩ := hH h0 _ k_h0
  refine hg_get hx hb hG igX11 hown hK o_c_2 rfl 4 (by decide) (hG _ mw_361) rfl dX11_place_1 ?_
  obtain ⟨_, ⟨q_20, rfl, kq_20, rq_21, t_22⟩, o_c_19⟩ := hH (g.2.2 4) _ kq_7
  refine hg_getN hx hb hG igX9 hown hK o_c_19 rfl 1 (by decide) ((hK.2.1 _ nwf_174).use rfl) rfl dX11_place_4 ?_
  rw [hz0]
  refine lv_istore_n (lv' := [(1, .int 0), (0, .ref h0)]) hx hb dX11_place_7 rfl hl (by decide) rfl (fun ls hl => ?_)
  refine lv_aload_n hx hb dX11_place_8 rfl (lv_at hl 1 rfl) ?_
  refine hg_get hx hb hG igX11 hown hK o_c_2 rfl 9 (by decide) (hG _ mw_366) rfl dX11_place_9 ?_
  refine lv_aload_n hx hb dX11_place_12 rfl (lv_at hl 1 rfl) ?_
  refine hg_get hx hb hG igX11 hown hK o_c_2 rfl 0 (by decide) (hG _ mw_357) rfl dX11_place_13 ?_
  refine lv_aload_n hx hb dX11_place_16 rfl (lv_at hl 1 rfl) ?_
  refine hg_get hx hb hG igX11 hown hK o_c_2 rfl 4 (by decide) (hG _ mw_361) rfl dX11_place_17 ?_
  refine lv_iconst (v := 0) hx hb dX11_place_20 (by decide) ?_
  obtain ⟨_, ⟨q_24, q_25, rfl⟩, o_c_23⟩ := hH (g.2.2 9) _ kq_12
  refine va_calli (va_runV (As := [.ref (g.2.2 0), .ref (g.2.2 4), .int 0]) (rest := []) ⟨hx, hb, hml, hown, hts⟩ (c_X6_walk l g Ty G s.heap.size (g.2.2 9) (g.2.2 0) (g.2.2 4) 0 kq_12 kq_3 kq_7 (rg_w rl_0 (by decide) (by decide)) hz0) (cwV 3 hts (gwV mw_569 mw_570 mw_571 mw_83 mw_572) rfl rfl rfl hv_X6_walk ⟨Nat.le_of_ble_eq_true rfl, Nat.le_of_ble_eq_true rfl⟩) ⟨PcT_blind, hg_recv hK o_c_23 rfl, PcT_pre hK hH⟩ rfl rfl hl.1 rfl (lv_room (Nat.le_of_ble_eq_true rfl)) dX11_place_21 ⟨Nat.zero_le _, Nat.zero_le _⟩) hS (fun q _ h => AF.mono hS.1 h) (fun q h => AF.mono hS.1 h) (fun x_26 ux_26 t H locs ht hvm hx_26 hB hz hk hS => ?_)
  obtain ⟨hx_26, fx_26⟩ := hx_26
  have hH : HT g Ty G H := by rw [← ht]; rw [fx_26] at hB; exact hB
  have rx_26 : rgI (0) (0) x_26 := hx_26
  refine lv_istore_n (lv' := [(2, .int x_26), (1, .int 0), (0, .ref h0)]) hx hb dX11_place_24 rfl hl (by decide) rfl (fun ls hl => ?_)
  refine lv_aload_n hx hb dX11_place_25 rfl (lv_at hl 2 rfl) ?_
  obtain ⟨_, ⟨rfl, kq_28, kq_29, kq_30, kq_31, kq_32, kq_33, kq_34, kq_35, kq_36, kq_37, kq_38, kq_39, kq_40, kq_41, t_43⟩, o_c_27⟩ := hH h0 _ k_h0
  refine hg_get hx hb hG igX11 hown hK o_c_27 rfl 4 (by decide) (hG _ mw_361) rfl dX11_place_26 ?_
  obtain ⟨_, ⟨q_45, rfl, kq_45, rq_46, t_47⟩, o_c_44⟩ := hH (g.2.2 4) _ kq_32
  refine va_callv (va_runV (As := []) (rest := []) ⟨hx, hb, hml, hown, hts⟩ (c_X9_clear_f l g Ty G H.size (g.2.2 4) kq_32 hD1) (cwV 0 hts (gwV mw_556 mw_557 mw_558 mw_79 mw_559) rfl rfl rfl hv_X9_clear ⟨Nat.le_of_ble_eq_true rfl, Nat.le_of_ble_eq_true rfl⟩) ⟨PcT_blind, hg_recv hK o_c_44 rfl, PcT_pre hK hH⟩ rfl rfl hl.1 rfl (lv_room (Nat.le_of_ble_eq_true rfl)) dX11_place_29 ⟨Nat.zero_le _, Nat.zero_le _⟩) hS (fun q _ h => AF.mono hS.1 h) (fun q h => AF.mono hS.1 h) (fun ux_48 t H locs ht hvm hx_48 hB hz hk hS => ?_)
  obtain ⟨eTx_48, eGx_48⟩ := hx_48
  obtain ⟨G_49, eG_49⟩ : ∃ z, z = ux_48.2 := ⟨_, rfl⟩
  rw [← eG_49] at eGx_48
  have fr_50 : FR [0] [] [] G G_49 := FR.tr FR.rf eGx_48 (by decide) (fun _ _ => trivial) (by decide)
  have hH : HT g Ty G_49 H := by rw [← ht, ← eTx_48, eG_49]; exact hB
  refine lv_iload_n hx hb dX11_place_32 rfl (lv_at hl 1 rfl) ?_
  refine lv_if_eq (tgt := 41) hx hb dX11_place_33 (by decide) (fun c_51 => ?_) (fun c_51 => ?_)
  · exact L_41 H locs G_49 x_26 ls fr_50 rx_26 (lv_sub hl [0] rfl) hH hS
  · exact absurd rfl c_51

set_option maxHeartbeats 4000000 in
set_option maxRecDepth 100000 in
theorem c_X2_read (l : Launch) (g : Gx) (Ty : TyM) (G : Gh) (sz : Nat) (h0 : Nat) (b0 : Nat) (k_h0 : Ty h0 = some (12, 0)) (k_b0 : Ty b0 = some (19, 0)) (hz0 : G.1 0 = 0) : Met l yX2_read (wsG yX2_read cX2_read 4 (some .int)) ({ frames := 2, cells := 0, slots := 0, locals := 46 }) (PcT g Ty G sz [.ref h0, .ref b0]) (QwI g Ty sz (fun r u => (rgI (-1) (-1) r) ∧ u = (Ty, G))) 0 0 (AF Ty sz) := by
  refine Met.ofW (cc := cX2_read) (maxL := 4) (ret := (some .int)) (by decide) rfl ?_
  intro p e s m args below meth c s₁ B hml hv
  obtain ⟨rfl, hsz, hK, hH⟩ := hv
  subst hsz
  have hx := B.exec
  have hb := B.bytes
  have hr := B.returns
  have hts := atoms_spec (ws := (wsG yX2_read cX2_read 4 (some .int))) B.pre
  have hG : ∀ w ∈ GW, w.before ([.ref h0, .ref b0] : List Value).toArray s = true := fun w h => hts w (List.mem_cons_of_mem _ h)
  have hown : s.vm.findClass RX2 = some m.cls := findClass_of_methodNamed B.named
  have hlocks := B.notSynchronized
  have hl := lv_entry [.ref h0, .ref b0] (n := 4) (Nat.le_of_ble_eq_true rfl)
  rw [lg_entry_eq]
  generalize (lg_sl [.ref h0, .ref b0] ++ List.replicate (4 - (lg_sl [.ref h0, .ref b0]).length) Slot.unset).toArray = ls at hl ⊢
  have hl : lv_has ls 4 [(0, .ref h0), (1, .ref b0)] := hl
  have hS : va_S (AF Ty s.heap.size) s.heap s.heap [] := va_S.rf
  have L_56 : ∀ (H : Heap) (locs : List Loc) (y2_56 : Int32) (ls : Array Slot), rgI (0) (0) y2_56 → lv_has ls 4 [(1, .ref b0), (2, .int y2_56)] → HT g Ty G H → va_S (AF Ty s.heap.size) s.heap H locs → Wm p l e (wsG yX2_read cX2_read 4 (some .int)) ({ frames := 2, cells := 0, slots := 0, locals := 46 }) s m [.ref h0, .ref b0] below meth c H locs (0) (0) (QwI g Ty s.heap.size (fun r u => (rgI (-1) (-1) r) ∧ u = (Ty, G))) 0 0 (AF Ty s.heap.size) (F0 m 56 ls []) := by
    intro H locs y2_56 ls ry2_56 hl hH hS
    refine lv_aload_n hx hb dX2_read_56 rfl (lv_at hl 0 rfl) ?_
    obtain ⟨_, ⟨q_2, rfl, kq_2, rq_3, t_4⟩, o_c_1⟩ := hH b0 _ k_b0
    refine hg_getN hx hb hG igX9 hown hK o_c_1 rfl 1 (by decide) ((hK.2.1 _ nwf_173).use rfl) rfl dX2_read_57 ?_
    rw [hz0]
    refine lv_bipush (v := 72) hx hb dX2_read_60 (by decide) ?_
    refine lv_icmp_le (tgt := 68) hx hb dX2_read_62 (by decide) (fun c_5 => ?_) (fun c_5 => ?_)
    · refine lv_iload_n hx hb dX2_read_68 rfl (lv_at hl 1 rfl) ?_
      refine lv_if_ne (tgt := 76) hx hb dX2_read_69 (by decide) (fun c_6 => ?_) (fun c_6 => ?_)
      · exact absurd (rg_one ry2_56 rl_0) c_6
      · refine lv_iconst (v := (-1)) hx hb dX2_read_72 (by decide) ?_
        refine lv_goto (tgt := 80) hx hb dX2_read_73 (by decide) ?_
        exact W.iret hx hb hr (fun t ht hWm => ⟨⟨(-1), (Ty, G), rfl, ⟨rg_w rl_m1 (by decide) (by decide), rfl⟩, by show HT g Ty G t.heap; rw [ht]; exact hH⟩, hS.F ht⟩) hS.2.2 dX2_read_80
    · exact rg_no rl_72 rl_0 (nle_lt c_5) (by decide)
  have L_4 : ∀ (n : Nat) (H : Heap) (locs : List Loc) (y2_4 : Int32) (y3_4 : Int32) (ls : Array Slot), rgI (0) (0) y2_4 → rgI (0) (0) y3_4 → (72 - (y3_4).toInt).toNat < n → lv_has ls 4 [(0, .ref h0), (1, .ref b0), (2, .int y2_4), (3, .int y3_4)] → HT g Ty G H → va_S (AF Ty s.heap.size) s.heap H locs → Wm p l e (wsG yX2_read cX2_read 4 (some .int)) ({ frames := 2, cells := 0, slots := 0, locals := 46 }) s m [.ref h0, .ref b0] below meth c H locs (0) (0) (QwI g Ty s.heap.size (fun r u => (rgI (-1) (-1) r) ∧ u = (Ty, G))) 0 0 (AF Ty s.heap.size) (F0 m 4 ls []) := by
    intro n
    induction n with
    | zero => intro H locs y2_4 y3_4 ls ry2_4 ry3_4 hm; exact absurd hm (Nat.not_lt_zero _)
    | succ n ih_4 =>
      intro H locs y2_4 y3_4 ls ry2_4 ry3_4 hm_4 hl hH hS
      refine lv_iload_n hx hb dX2_read_4 rfl (lv_at hl 3 rfl) ?_
      refine lv_aload_n hx hb dX2_read_5 rfl (lv_at hl 1 rfl) ?_
      obtain ⟨_, ⟨q_8, rfl, kq_8, rq_9, t_10⟩, o_c_7⟩ := hH b0 _ k_b0
      refine hg_getN hx hb hG igX9 hown hK o_c_7 rfl 1 (by decide) ((hK.2.1 _ nwf_173).use rfl) rfl dX2_read_6 ?_
      rw [hz0]
      refine lv_icmp_ge (tgt := 56) hx hb dX2_read_9 (by decide) (fun c_11 => ?_) (fun c_11 => ?_)
      · exact L_56 H locs y2_4 ls ry2_4 (lv_sub hl [1, 2] rfl) hH hS
      · exact rg_no ry3_4 rl_0 (nle_lt c_11) (by decide)
  refine lv_iconst (v := 0) hx hb dX2_read_0 (by decide) ?_
  refine lv_istore_n (lv' := [(2, .int 0), (0, .ref h0), (1, .ref b0)]) hx hb dX2_read_1 rfl hl (by decide) rfl (fun ls hl => ?_)
  refine lv_iconst (v := 0) hx hb dX2_read_2 (by decide) ?_
  refine lv_istore_n (lv' := [(3, .int 0), (2, .int 0), (0, .ref h0), (1, .ref b0)]) hx hb dX2_read_3 rfl hl (by decide) rfl (fun ls hl => ?_)
  exact L_4 _ s.heap [] 0 0 ls (rg_w rl_0 (by decide) (by decide)) (rg_w rl_0 (by decide) (by decide)) (Nat.lt_succ_self _) (lv_sub hl [2, 3, 1, 0] rfl) hH hS

set_option maxHeartbeats 4000000 in
set_option maxRecDepth 100000 in
theorem c_X2_begin (l : Launch) (g : Gx) (Ty : TyM) (G : Gh) (sz : Nat) (h0 : Nat) (k_h0 : Ty h0 = some (12, 0)) (hD1 : LD1 g) : Met l yX2_begin (wsG yX2_begin cX2_begin 1 none) ({ frames := 0, cells := 0, slots := 0, locals := 0 }) (PcT g Ty G sz [.ref h0]) (QwV g Ty sz (fun u => u.1 = Ty ∧ FR [29] [] [] G u.2 ∧ u.2.1 29 = 0)) 0 0 (AF Ty sz) := by
  refine Met.ofW (cc := cX2_begin) (maxL := 1) (ret := none) (by decide) rfl ?_
  intro p e s m args below meth c s₁ B hml hv
  obtain ⟨rfl, hsz, hK, hH⟩ := hv
  subst hsz
  have hx := B.exec
  have hb := B.bytes
  have hr := B.returns
  have hts := atoms_spec (ws := (wsG yX2_begin cX2_begin 1 none)) B.pre
  have hG : ∀ w ∈ GW, w.before ([.ref h0] : List Value).toArray s = true := fun w h => hts w (List.mem_cons_of_mem _ h)
  have hown : s.vm.findClass RX2 = some m.cls := findClass_of_methodNamed B.named
  have hlocks := B.notSynchronized
  have hl := lv_entry [.ref h0] (n := 1) (Nat.le_of_ble_eq_true rfl)
  rw [lg_entry_eq]
  generalize (lg_sl [.ref h0] ++ List.replicate (1 - (lg_sl [.ref h0]).length) Slot.unset).toArray = ls at hl ⊢
  have hl : lv_has ls 1 [(0, .ref h0)] := hl
  have hS : va_S (AF Ty s.heap.size) s.heap s.heap [] := va_S.rf
  refine lv_aload_n hx hb dX2_begin_0 rfl (lv_at hl 0 rfl) ?_
  refine lv_iconst (v := 0) hx hb dX2_begin_1 (by decide) ?_
  obtain ⟨_, ⟨q_5, rfl, kq_2, kq_3, kq_4, t_7⟩, o_c_1⟩ := hH h0 _ k_h0
  refine hg_put (ty := .int) hx hb hG igX2 tyX2 tyX2_ok nmX2 hown hK hS o_c_1 (AF.of k_h0) rfl 4 (by decide) (hG _ mw_276) rfl (by decide +kernel) rfl rfl (Nat.le_of_ble_eq_true rfl) dX2_begin_2 (fun H locs o_c_1 hz oq hS => ?_)
  obtain ⟨G_8, eG_8⟩ : ∃ z : Gh, z = gset G 29 0 := ⟨_, rfl⟩
  have hH : HT g Ty G_8 H := by rw [eG_8]; exact HT.putM 29 0 hH k_h0 ⟨q_5, rfl, kq_2, kq_3, kq_4, t_7⟩ o_c_1 oq (⟨⟨by decide, by decide⟩, t_7⟩)
  have fr_9 : FR [29] [] [] G G_8 := FR.n FR.rf eG_8 (by decide)
  have u_10 : G_8.1 29 = 0 := by rw [eG_8]; exact gs_eq
  clear oq hz
  exact W.vret hx hb hr (fun t ht hWm => ⟨⟨(Ty, G_8), rfl, ⟨rfl, ⟨fr_9, u_10⟩⟩, by show HT g Ty G_8 t.heap; rw [ht]; exact hH⟩, hS.F ht⟩) hS.2.2 dX2_begin_5

set_option maxHeartbeats 4000000 in
set_option maxRecDepth 100000 in
theorem c_X2_hasMore (l : Launch) (g : Gx) (Ty : TyM) (G : Gh) (h0 : Nat) (b0 : Nat) (k_h0 : Ty h0 = some (12, 0)) (k_b0 : Ty b0 = some (19, 0)) (hz0 : G.1 0 = 0) (h29 : G.1 29 = 0) : Met l yX2_hasMore (wsG yX2_hasMore cX2_hasMore 2 (some .boolean)) ({ frames := 0, cells := 0, slots := 0, locals := 0 }) (PcH g Ty G [.ref h0, .ref b0]) (vp_Si (fun r => rgI (0) (0) r)) 0 0 (fun _ => False) := by
  refine Met.ofW (cc := cX2_hasMore) (maxL := 2) (ret := (some .boolean)) (by decide) rfl ?_
  intro p e s m args below meth c s₁ B hml hv
  obtain ⟨rfl, hK, hH⟩ := hv
  have hx := B.exec
  have hb := B.bytes
  have hr := B.returns
  have hts := atoms_spec (ws := (wsG yX2_hasMore cX2_hasMore 2 (some .boolean))) B.pre
  have hG : ∀ w ∈ GW, w.before ([.ref h0, .ref b0] : List Value).toArray s = true := fun w h => hts w (List.mem_cons_of_mem _ h)
  have hown : s.vm.findClass RX2 = some m.cls := findClass_of_methodNamed B.named
  have hlocks := B.notSynchronized
  have hl := lv_entry [.ref h0, .ref b0] (n := 2) (Nat.le_of_ble_eq_true rfl)
  rw [lg_entry_eq]
  generalize (lg_sl [.ref h0, .ref b0] ++ List.replicate (2 - (lg_sl [.ref h0, .ref b0]).length) Slot.unset).toArray = ls at hl ⊢
  have hl : lv_has ls 2 [(0, .ref h0), (1, .ref b0)] := hl
  refine lv_aload_n hx hb dX2_hasMore_0 rfl (lv_at hl 0 rfl) ?_
  obtain ⟨_, ⟨q_5, rfl, kq_2, kq_3, kq_4, t_7⟩, o_c_1⟩ := hH h0 _ k_h0
  refine hg_get hx hb hG igX2 hown hK o_c_1 rfl 4 (by decide) (hG _ mw_276) rfl dX2_hasMore_1 ?_
  rw [h29]
  refine lv_aload_n hx hb dX2_hasMore_4 rfl (lv_at hl 1 rfl) ?_
  obtain ⟨_, ⟨q_9, rfl, kq_9, rq_10, t_11⟩, o_c_8⟩ := hH b0 _ k_b0
  refine hg_getN hx hb hG igX9 hown hK o_c_8 rfl 1 (by decide) ((hK.2.1 _ nwf_173).use rfl) rfl dX2_hasMore_5 ?_
  rw [hz0]
  refine lv_icmp_ge (tgt := 15) hx hb dX2_hasMore_8 (by decide) (fun c_12 => ?_) (fun c_12 => ?_)
  · refine lv_iconst (v := 0) hx hb dX2_hasMore_15 (by decide) ?_
    exact W.zret hx hb hr rfl (fun t ht hW => ⟨0, rfl, rg_w rl_0 (by decide) (by decide), ht⟩) (fun q h => by cases h) dX2_hasMore_16
  · exact rg_no rl_0 rl_0 (nle_lt c_12) (by decide)

set_option maxHeartbeats 4000000 in
set_option maxRecDepth 100000 in
theorem c_X11_day (l : Launch) (g : Gx) (Ty : TyM) (G : Gh) (sz : Nat) (h0 : Nat) (k_h0 : Ty h0 = some (21, 0)) (hD1 : LD1 g) (hz0 : G.1 0 = 0) : Met l yX11_day (wsG yX11_day cX11_day 5 (some .int)) ({ frames := 30, cells := 0, slots := 0, locals := 824 }) (PcT g Ty G sz [.ref h0]) (QwI g Ty sz (fun r u => (rgI (0) (0) r) ∧ u.1 = Ty ∧ FR [0, 27, 29] [] [] G u.2)) 0 0 (AF Ty sz) := by
  refine Met.ofW (cc := cX11_day) (maxL := 5) (ret := (some .int)) (by decide) rfl ?_
  intro p e s m args below meth c s₁ B hml hv
  obtain ⟨rfl, hsz, hK, hH⟩ := hv
  subst hsz
  have hx := B.exec
  have hb := B.bytes
  have hr := B.returns
  have hts := atoms_spec (ws := (wsG yX11_day cX11_day 5 (some .int))) B.pre
  have hG : ∀ w ∈ GW, w.before ([.ref h0] : List Value).toArray s = true := fun w h => hts w (List.mem_cons_of_mem _ h)
  have hown : s.vm.findClass RX11 = some m.cls := findClass_of_methodNamed B.named
  have hlocks := B.notSynchronized
  have hl := lv_entry [.ref h0] (n := 5) (Nat.le_of_ble_eq_true rfl)
  rw [lg_entry_eq]
  generalize (lg_sl [.ref h0] ++ List.replicate (5 - (lg_sl [.ref h0]).length) Slot.unset).toArray = ls at hl ⊢
  have hl : lv_has ls 5 [(0, .ref h0)] := hl
  have hS : va_S (AF Ty s.heap.size) s.heap s.heap [] := va_S.rf
  have L_151 : ∀ (H : Heap) (locs : List Loc) (G_151 : Gh) (y2_151 : Int32) (z0_151 : Int64) (ls : Array Slot), FR [0, 27, 29] [] [] G G_151 → rgI (0) (0) y2_151 → Ty (g.2.2 5) = some (17, 0) → lv_has ls 5 [(0, .ref h0), (2, .int y2_151)] → HT g Ty G_151 H → va_S (AF Ty s.heap.size) s.heap H locs → Wm p l e (wsG yX11_day cX11_day 5 (some .int)) ({ frames := 30, cells := 0, slots := 0, locals := 824 }) s m [.ref h0] below meth c H locs (0) (0) (QwI g Ty s.heap.size (fun r u => (rgI (0) (0) r) ∧ u.1 = Ty ∧ FR [0, 27, 29] [] [] G u.2)) 0 0 (AF Ty s.heap.size) (F0 m 151 ls [.long z0_151, .ref (g.2.2 5)]) := by
    intro H locs G_151 y2_151 z0_151 ls frL_151 ry2_151 kz1_151 hl hH hS
    refine lv_aload_n hx hb dX11_day_151 rfl (lv_at hl 0 rfl) ?_
    obtain ⟨_, ⟨rfl, kq_2, kq_3, kq_4, kq_5, kq_6, kq_7, kq_8, kq_9, kq_10, kq_11, kq_12, kq_13, kq_14, kq_15, t_17⟩, o_c_1⟩ := hH h0 _ k_h0
    refine hg_get hx hb hG igX11 hown hK o_c_1 rfl 0 (by decide) (hG _ mw_357) rfl dX11_day_152 ?_
    obtain ⟨_, ⟨rfl, kq_19, kq_20, kq_21, t_26⟩, o_c_18⟩ := hH (g.2.2 0) _ kq_2
    refine vp_callSi (W.runV (As := []) (rest := [.long z0_151, .ref (g.2.2 5)]) ⟨hx, hb, hml, hown, hts⟩ (c_X10_size l g Ty G_151 (g.2.2 0) kq_2) (cwV 0 hts (gwV mw_901 mw_709 mw_710 mw_77 mw_711) rfl rfl rfl hv_X10_size ⟨Nat.le_of_ble_eq_true rfl, Nat.le_of_ble_eq_true rfl⟩) ⟨PcH_blind, hg_recv hK o_c_18 rfl, PcH_pre hK hH⟩ rfl rfl hl.1 rfl (lv_room (Nat.le_of_ble_eq_true rfl)) dX11_day_155 ⟨Nat.zero_le _, Nat.zero_le _⟩) (fun x_27 hx_27 => ?_)
    refine lv_i2l hx hb dX11_day_158 rfl ?_
    refine lv_topl (fun u_28 eu_28 => ?_)
    obtain ⟨_, ⟨q_30, rfl, kq_30, rq_31, t_32⟩, o_c_29⟩ := hH (g.2.2 5) _ kz1_151
    refine va_callv (va_runV (As := [.long z0_151, .long u_28]) (rest := []) ⟨hx, hb, hml, hown, hts⟩ (c_X7_tellTwo_x l g Ty G_151 H.size (g.2.2 5) z0_151 u_28 kz1_151 hD1) (cwV 2 hts (gwV mw_753 mw_754 mw_755 mw_80 mw_756) rfl rfl rfl hv_X7_tellTwo ⟨Nat.le_of_ble_eq_true rfl, Nat.le_of_ble_eq_true rfl⟩) ⟨PcT_blind, hg_recv hK o_c_29 rfl, PcT_pre hK hH⟩ rfl rfl hl.1 rfl (lv_room (Nat.le_of_ble_eq_true rfl)) dX11_day_159 ⟨Nat.zero_le _, Nat.zero_le _⟩) hS (fun q _ h => AF.mono hS.1 h) (fun q h => AF.mono hS.1 h) (fun ux_33 t H locs ht hvm hx_33 hB hz hk hS => ?_)
    obtain ⟨eTx_33, eGx_33⟩ := hx_33
    obtain ⟨G_34, eG_34⟩ : ∃ z, z = ux_33.2 := ⟨_, rfl⟩
    rw [← eG_34] at eGx_33
    obtain ⟨hfr_35, hex_36⟩ := eGx_33
    have fr_37 : FR [0, 27, 29] [] [] G G_34 := FR.tr frL_151 hfr_35 (by decide) (fun _ _ => trivial) (by decide)
    have hH : HT g Ty G_34 H := by rw [← ht, ← eTx_33, eG_34]; exact hB
    refine lv_iload_n hx hb dX11_day_162 rfl (lv_at hl 1 rfl) ?_
    exact W.iret hx hb hr (fun t ht hWm => ⟨⟨y2_151, (Ty, G_34), rfl, ⟨rg_w ry2_151 (by decide) (by decide), ⟨rfl, fr_37⟩⟩, by show HT g Ty G_34 t.heap; rw [ht]; exact hH⟩, hS.F ht⟩) hS.2.2 dX11_day_163
  have L_138 : ∀ (H : Heap) (locs : List Loc) (G_138 : Gh) (y2_138 : Int32) (y3_138 : Int32) (ls : Array Slot), FR [0, 27, 29] [] [] G G_138 → rgI (0) (0) y2_138 → rgI (1) (1) y3_138 → lv_has ls 5 [(0, .ref h0), (2, .int y2_138), (3, .int y3_138)] → HT g Ty G_138 H → va_S (AF Ty s.heap.size) s.heap H locs → Wm p l e (wsG yX11_day cX11_day 5 (some .int)) ({ frames := 30, cells := 0, slots := 0, locals := 824 }) s m [.ref h0] below meth c H locs (0) (0) (QwI g Ty s.heap.size (fun r u => (rgI (0) (0) r) ∧ u.1 = Ty ∧ FR [0, 27, 29] [] [] G u.2)) 0 0 (AF Ty s.heap.size) (F0 m 138 ls []) := by
    intro H locs G_138 y2_138 y3_138 ls frL_138 ry2_138 ry3_138 hl hH hS
    refine lv_aload_n hx hb dX11_day_138 rfl (lv_at hl 0 rfl) ?_
    obtain ⟨_, ⟨rfl, kq_39, kq_40, kq_41, kq_42, kq_43, kq_44, kq_45, kq_46, kq_47, kq_48, kq_49, kq_50, kq_51, kq_52, t_54⟩, o_c_38⟩ := hH h0 _ k_h0
    refine hg_get hx hb hG igX11 hown hK o_c_38 rfl 5 (by decide) (hG _ mw_362) rfl dX11_day_139 ?_
    refine lv_iload_n hx hb dX11_day_142 rfl (lv_at hl 2 rfl) ?_
    refine lv_if_eq (tgt := 150) hx hb dX11_day_143 (by decide) (fun c_55 => ?_) (fun c_55 => ?_)
    · exact rg_noE ry3_138 rl_0 c_55 (by decide)
    · refine lv_lconst (v := 0) hx hb dX11_day_146 (by decide) ?_
      refine lv_goto (tgt := 151) hx hb dX11_day_147 (by decide) ?_
      exact L_151 H locs G_138 y2_138 0 ls frL_138 ry2_138 kq_44 (lv_sub hl [0, 1] rfl) hH hS
  have L_116 : ∀ (H : Heap) (locs : List Loc) (G_116 : Gh) (y2_116 : Int32) (y3_116 : Int32) (ls : Array Slot), FR [0, 27, 29] [] [] G G_116 → rgI (0) (0) y2_116 → rgI (1) (1) y3_116 → lv_has ls 5 [(0, .ref h0), (2, .int y2_116), (3, .int y3_116)] → HT g Ty G_116 H → va_S (AF Ty s.heap.size) s.heap H locs → Wm p l e (wsG yX11_day cX11_day 5 (some .int)) ({ frames := 30, cells := 0, slots := 0, locals := 824 }) s m [.ref h0] below meth c H locs (0) (0) (QwI g Ty s.heap.size (fun r u => (rgI (0) (0) r) ∧ u.1 = Ty ∧ FR [0, 27, 29] [] [] G u.2)) 0 0 (AF Ty s.heap.size) (F0 m 116 ls []) := by
    intro H locs G_116 y2_116 y3_116 ls frL_116 ry2_116 ry3_116 hl hH hS
    refine lv_aload_n hx hb dX11_day_116 rfl (lv_at hl 0 rfl) ?_
    obtain ⟨_, ⟨rfl, kq_57, kq_58, kq_59, kq_60, kq_61, kq_62, kq_63, kq_64, kq_65, kq_66, kq_67, kq_68, kq_69, kq_70, t_72⟩, o_c_56⟩ := hH h0 _ k_h0
    refine hg_get hx hb hG igX11 hown hK o_c_56 rfl 4 (by decide) (hG _ mw_361) rfl dX11_day_117 ?_
    obtain ⟨_, ⟨q_74, rfl, kq_74, rq_75, t_76⟩, o_c_73⟩ := hH (g.2.2 4) _ kq_61
    refine va_callv (va_runV (As := []) (rest := []) ⟨hx, hb, hml, hown, hts⟩ (c_X9_clear_f l g Ty G_116 H.size (g.2.2 4) kq_61 hD1) (cwV 0 hts (gwV mw_556 mw_557 mw_558 mw_79 mw_559) rfl rfl rfl hv_X9_clear ⟨Nat.le_of_ble_eq_true rfl, Nat.le_of_ble_eq_true rfl⟩) ⟨PcT_blind, hg_recv hK o_c_73 rfl, PcT_pre hK hH⟩ rfl rfl hl.1 rfl (lv_room (Nat.le_of_ble_eq_true rfl)) dX11_day_120 ⟨Nat.zero_le _, Nat.zero_le _⟩) hS (fun q _ h => AF.mono hS.1 h) (fun q h => AF.mono hS.1 h) (fun ux_77 t H locs ht hvm hx_77 hB hz hk hS => ?_)
    obtain ⟨eTx_77, eGx_77⟩ := hx_77
    obtain ⟨G_78, eG_78⟩ : ∃ z, z = ux_77.2 := ⟨_, rfl⟩
    rw [← eG_78] at eGx_77
    have fr_79 : FR [0, 27, 29] [] [] G G_78 := FR.tr frL_116 eGx_77 (by decide) (fun _ _ => trivial) (by decide)
    have hH : HT g Ty G_78 H := by rw [← ht, ← eTx_77, eG_78]; exact hB
    refine lv_iload_n hx hb dX11_day_123 rfl (lv_at hl 1 rfl) ?_
    refine lv_if_le (tgt := 138) hx hb dX11_day_124 (by decide) (fun c_80 => ?_) (fun c_80 => ?_)
    · exact L_138 H locs G_78 y2_116 y3_116 ls fr_79 ry2_116 ry3_116 (lv_sub hl [0, 1, 2] rfl) hH hS
    · exact rg_no rl_0 ry2_116 (nle_lt c_80) (by decide)
  have L_53 : ∀ (n : Nat) (H : Heap) (locs : List Loc) (G_53 : Gh) (y2_53 : Int32) (y3_53 : Int32) (y4_53 : Int32) (ls : Array Slot), rgI (0) (0) (G_53.1 0) → rgI (0) (0) (G_53.1 29) → FR [0, 27, 29] [] [] G G_53 → rgI (0) (0) y2_53 → rgI (1) (1) y3_53 → rgI (0) (0) y4_53 → (72 - (y4_53).toInt).toNat < n → lv_has ls 5 [(0, .ref h0), (2, .int y2_53), (3, .int y3_53), (4, .int y4_53)] → HT g Ty G_53 H → va_S (AF Ty s.heap.size) s.heap H locs → Wm p l e (wsG yX11_day cX11_day 5 (some .int)) ({ frames := 30, cells := 0, slots := 0, locals := 824 }) s m [.ref h0] below meth c H locs (0) (0) (QwI g Ty s.heap.size (fun r u => (rgI (0) (0) r) ∧ u.1 = Ty ∧ FR [0, 27, 29] [] [] G u.2)) 0 0 (AF Ty s.heap.size) (F0 m 53 ls []) := by
    intro n
    induction n with
    | zero => intro H locs G_53 y2_53 y3_53 y4_53 ls rg0_53 rg29_53 frL_53 ry2_53 ry3_53 ry4_53 hm; exact absurd hm (Nat.not_lt_zero _)
    | succ n ih_53 =>
      intro H locs G_53 y2_53 y3_53 y4_53 ls rg0_53 rg29_53 frL_53 ry2_53 ry3_53 ry4_53 hm_53 hl hH hS
      refine lv_iload hx hb dX11_day_53 (lv_at hl 3 rfl) ?_
      refine lv_bipush (v := 72) hx hb dX11_day_55 (by decide) ?_
      refine lv_icmp_ge (tgt := 116) hx hb dX11_day_57 (by decide) (fun c_81 => ?_) (fun c_81 => ?_)
      · exact rg_no2 rl_72 ry4_53 c_81 (by decide)
      · refine lv_iload_n hx hb dX11_day_60 rfl (lv_at hl 2 rfl) ?_
        refine lv_if_eq (tgt := 116) hx hb dX11_day_61 (by decide) (fun c_82 => ?_) (fun c_82 => ?_)
        · exact rg_noE ry3_53 rl_0 c_82 (by decide)
        · refine lv_aload_n hx hb dX11_day_64 rfl (lv_at hl 0 rfl) ?_
          obtain ⟨_, ⟨rfl, kq_84, kq_85, kq_86, kq_87, kq_88, kq_89, kq_90, kq_91, kq_92, kq_93, kq_94, kq_95, kq_96, kq_97, t_99⟩, o_c_83⟩ := hH h0 _ k_h0
          refine hg_get hx hb hG igX11 hown hK o_c_83 rfl 10 (by decide) (hG _ mw_367) rfl dX11_day_65 ?_
          refine lv_aload_n hx hb dX11_day_68 rfl (lv_at hl 0 rfl) ?_
          refine hg_get hx hb hG igX11 hown hK o_c_83 rfl 4 (by decide) (hG _ mw_361) rfl dX11_day_69 ?_
          obtain ⟨_, ⟨q_104, rfl, kq_101, kq_102, kq_103, t_106⟩, o_c_100⟩ := hH (g.2.2 10) _ kq_94
          refine vp_callSi (W.runV (As := [.ref (g.2.2 4)]) (rest := []) ⟨hx, hb, hml, hown, hts⟩ (c_X2_hasMore l g Ty G_53 (g.2.2 10) (g.2.2 4) kq_94 kq_88 (rg_is (n := 0) rg0_53 rfl) (rg_is (n := 0) rg29_53 rfl)) (cwV 1 hts (gwV mw_881 mw_882 mw_883 mw_84 mw_884) rfl rfl rfl hv_X2_hasMore ⟨Nat.le_of_ble_eq_true rfl, Nat.le_of_ble_eq_true rfl⟩) ⟨PcH_blind, hg_recv hK o_c_100 rfl, PcH_pre hK hH⟩ rfl rfl hl.1 rfl (lv_room (Nat.le_of_ble_eq_true rfl)) dX11_day_72 ⟨Nat.zero_le _, Nat.zero_le _⟩) (fun x_107 hx_107 => ?_)
          have rx_107 : rgI (0) (0) x_107 := hx_107
          refine lv_if_eq (tgt := 116) hx hb dX11_day_75 (by decide) (fun c_108 => ?_) (fun c_108 => ?_)
          · exact L_116 H locs G_53 y2_53 y3_53 ls frL_53 ry2_53 ry3_53 (lv_sub hl [0, 1, 2] rfl) hH hS
          · exact absurd (rg_one rx_107 rl_0) c_108
  refine lv_aload_n hx hb dX11_day_0 rfl (lv_at hl 0 rfl) ?_
  obtain ⟨_, ⟨rfl, kq_110, kq_111, kq_112, kq_113, kq_114, kq_115, kq_116, kq_117, kq_118, kq_119, kq_120, kq_121, kq_122, kq_123, t_125⟩, o_c_109⟩ := hH h0 _ k_h0
  refine hg_get hx hb hG igX11 hown hK o_c_109 rfl 10 (by decide) (hG _ mw_367) rfl dX11_day_1 ?_
  refine lv_aload_n hx hb dX11_day_4 rfl (lv_at hl 0 rfl) ?_
  refine hg_get hx hb hG igX11 hown hK o_c_109 rfl 4 (by decide) (hG _ mw_361) rfl dX11_day_5 ?_
  obtain ⟨_, ⟨q_130, rfl, kq_127, kq_128, kq_129, t_132⟩, o_c_126⟩ := hH (g.2.2 10) _ kq_120
  refine va_calli (va_runV (As := [.ref (g.2.2 4)]) (rest := []) ⟨hx, hb, hml, hown, hts⟩ (c_X2_read l g Ty G s.heap.size (g.2.2 10) (g.2.2 4) kq_120 kq_114 hz0) (cwV 1 hts (gwV mw_860 mw_861 mw_862 mw_84 mw_863) rfl rfl rfl hv_X2_read ⟨Nat.le_of_ble_eq_true rfl, Nat.le_of_ble_eq_true rfl⟩) ⟨PcT_blind, hg_recv hK o_c_126 rfl, PcT_pre hK hH⟩ rfl rfl hl.1 rfl (lv_room (Nat.le_of_ble_eq_true rfl)) dX11_day_8 ⟨Nat.zero_le _, Nat.zero_le _⟩) hS (fun q _ h => AF.mono hS.1 h) (fun q h => AF.mono hS.1 h) (fun x_133 ux_133 t H locs ht hvm hx_133 hB hz hk hS => ?_)
  obtain ⟨hx_133, fx_133⟩ := hx_133
  have hH : HT g Ty G H := by rw [← ht]; rw [fx_133] at hB; exact hB
  have rx_133 : rgI (-1) (-1) x_133 := hx_133
  refine lv_istore_n (lv' := [(1, .int x_133), (0, .ref h0)]) hx hb dX11_day_11 rfl hl (by decide) rfl (fun ls hl => ?_)
  refine lv_iload_n hx hb dX11_day_12 rfl (lv_at hl 0 rfl) ?_
  refine lv_iconst (v := (-1)) hx hb dX11_day_13 (by decide) ?_
  refine lv_icmp_eq (tgt := 28) hx hb dX11_day_14 (by decide) (fun c_134 => ?_) (fun c_134 => ?_)
  · refine lv_aload_n hx hb dX11_day_28 rfl (lv_at hl 1 rfl) ?_
    obtain ⟨_, ⟨rfl, kq_136, kq_137, kq_138, kq_139, kq_140, kq_141, kq_142, kq_143, kq_144, kq_145, kq_146, kq_147, kq_148, kq_149, t_151⟩, o_c_135⟩ := hH h0 _ k_h0
    refine hg_get hx hb hG igX11 hown hK o_c_135 rfl 1 (by decide) (hG _ mw_358) rfl dX11_day_29 ?_
    refine lv_aload_n hx hb dX11_day_32 rfl (lv_at hl 1 rfl) ?_
    refine hg_get hx hb hG igX11 hown hK o_c_135 rfl 0 (by decide) (hG _ mw_357) rfl dX11_day_33 ?_
    obtain ⟨_, ⟨q_153, q_154, q_155, q_156, q_157, q_158, q_159, rfl, kq_153, kq_154, kq_155⟩, o_c_152⟩ := hH (g.2.2 1) _ kq_137
    refine va_callv (va_runV (As := [.ref (g.2.2 0)]) (rest := []) ⟨hx, hb, hml, hown, hts⟩ (c_X10_take_n l g Ty G H.size (g.2.2 1) (g.2.2 0) kq_137 kq_136) (cwV 1 hts (gwV mw_628 mw_629 mw_630 mw_77 mw_631) rfl rfl rfl hv_X10_take ⟨Nat.le_of_ble_eq_true rfl, Nat.le_of_ble_eq_true rfl⟩) ⟨PcT_blind, hg_recv hK o_c_152 rfl, PcT_pre hK hH⟩ rfl rfl hl.1 rfl (lv_room (Nat.le_of_ble_eq_true rfl)) dX11_day_36 ⟨Nat.zero_le _, Nat.zero_le _⟩) hS (fun q _ h => AF.mono hS.1 h) (fun q h => AF.mono hS.1 h) (fun ux_160 t H locs ht hvm hx_160 hB hz hk hS => ?_)
    have hH : HT g Ty G H := by rw [← ht]; rw [hx_160] at hB; exact hB
    refine lv_iconst (v := 0) hx hb dX11_day_39 (by decide) ?_
    refine lv_istore_n (lv' := [(2, .int 0), (1, .int x_133), (0, .ref h0)]) hx hb dX11_day_40 rfl hl (by decide) rfl (fun ls hl => ?_)
    refine lv_iconst (v := 1) hx hb dX11_day_41 (by decide) ?_
    refine lv_istore_n (lv' := [(3, .int 1), (2, .int 0), (1, .int x_133), (0, .ref h0)]) hx hb dX11_day_42 rfl hl (by decide) rfl (fun ls hl => ?_)
    refine lv_aload_n hx hb dX11_day_43 rfl (lv_at hl 3 rfl) ?_
    obtain ⟨_, ⟨rfl, kq_162, kq_163, kq_164, kq_165, kq_166, kq_167, kq_168, kq_169, kq_170, kq_171, kq_172, kq_173, kq_174, kq_175, t_177⟩, o_c_161⟩ := hH h0 _ k_h0
    refine hg_get hx hb hG igX11 hown hK o_c_161 rfl 10 (by decide) (hG _ mw_367) rfl dX11_day_44 ?_
    obtain ⟨_, ⟨q_182, rfl, kq_179, kq_180, kq_181, t_184⟩, o_c_178⟩ := hH (g.2.2 10) _ kq_172
    refine va_callv (va_runV (As := []) (rest := []) ⟨hx, hb, hml, hown, hts⟩ (c_X2_begin l g Ty G H.size (g.2.2 10) kq_172 hD1) (cwV 0 hts (gwV mw_877 mw_878 mw_879 mw_84 mw_880) rfl rfl rfl hv_X2_begin ⟨Nat.le_of_ble_eq_true rfl, Nat.le_of_ble_eq_true rfl⟩) ⟨PcT_blind, hg_recv hK o_c_178 rfl, PcT_pre hK hH⟩ rfl rfl hl.1 rfl (lv_room (Nat.le_of_ble_eq_true rfl)) dX11_day_47 ⟨Nat.zero_le _, Nat.zero_le _⟩) hS (fun q _ h => AF.mono hS.1 h) (fun q h => AF.mono hS.1 h) (fun ux_185 t H locs ht hvm hx_185 hB hz hk hS => ?_)
    obtain ⟨eTx_185, eGx_185⟩ := hx_185
    obtain ⟨G_186, eG_186⟩ : ∃ z, z = ux_185.2 := ⟨_, rfl⟩
    rw [← eG_186] at eGx_185
    obtain ⟨hfr_187, hex_188⟩ := eGx_185
    have fr_189 : FR [0, 27, 29] [] [] G G_186 := FR.tr FR.rf hfr_187 (by decide) (fun _ _ => trivial) (by decide)
    have u_190 : G_186.1 0 = 0 := (hfr_187.1 0 (by decide)).trans hz0
    have hH : HT g Ty G_186 H := by rw [← ht, ← eTx_185, eG_186]; exact hB
    refine lv_iconst (v := 0) hx hb dX11_day_50 (by decide) ?_
    refine lv_istore (lv' := [(4, .int 0), (3, .int 1), (2, .int 0), (1, .int x_133), (0, .ref h0)]) hx hb dX11_day_51 hl (by decide) rfl (fun ls hl => ?_)
    exact L_53 _ H locs G_186 0 1 0 ls (by rw [u_190]; exact rg_w rl_0 (by decide) (by decide)) (by rw [hex_188]; exact rg_w rl_0 (by decide) (by decide)) fr_189 (rg_w rl_0 (by decide) (by decide)) (rg_w rl_1 (by decide) (by decide)) (rg_w rl_0 (by decide) (by decide)) (Nat.lt_succ_self _) (lv_sub hl [4, 2, 1, 0] rfl) hH hS
  · exact absurd (rg_one rx_133 rl_m1) c_134

set_option maxHeartbeats 4000000 in
set_option maxRecDepth 100000 in
theorem c_X8_read_z (l : Launch) (g : Gx) (Ty : TyM) (G : Gh) (sz : Nat) (h0 : Nat) (b0 : Nat) (k_h0 : Ty h0 = some (23, 0)) (k_b0 : Ty b0 = some (19, 0)) (hz0 : G.1 0 = 0) : Met l yX8_read (wsG yX8_read cX8_read 4 (some .int)) ({ frames := 8, cells := 0, slots := 0, locals := 181 }) (PcO g Ty G sz [.ref h0, .ref b0]) (QwI g Ty sz (fun r u => (rgI (-1) (-1) r) ∧ u.1 = Ty ∧ RLx g G u.2)) 0 0 (AF Ty sz) := by
  refine Met.ofW (cc := cX8_read) (maxL := 4) (ret := (some .int)) (by decide) rfl ?_
  intro p e s m args below meth c s₁ B hml hv
  obtain ⟨rfl, hsz, hK, hH, hO⟩ := hv
  subst hsz
  have hx := B.exec
  have hb := B.bytes
  have hr := B.returns
  have hts := atoms_spec (ws := (wsG yX8_read cX8_read 4 (some .int))) B.pre
  have hG : ∀ w ∈ GW, w.before ([.ref h0, .ref b0] : List Value).toArray s = true := fun w h => hts w (List.mem_cons_of_mem _ h)
  have hown : s.vm.findClass RX8 = some m.cls := findClass_of_methodNamed B.named
  have hlocks := B.notSynchronized
  have hl := lv_entry [.ref h0, .ref b0] (n := 4) (Nat.le_of_ble_eq_true rfl)
  rw [lg_entry_eq]
  generalize (lg_sl [.ref h0, .ref b0] ++ List.replicate (4 - (lg_sl [.ref h0, .ref b0]).length) Slot.unset).toArray = ls at hl ⊢
  have hl : lv_has ls 4 [(0, .ref h0), (1, .ref b0)] := hl
  have hS : va_S (AF Ty s.heap.size) s.heap s.heap [] := va_S.rf
  have L_124 : ∀ (H : Heap) (locs : List Loc) (G_124 : Gh) (ls : Array Slot), rgI (0) (40) (G_124.1 5) → rgI (0) (0) (G_124.1 0) → RW g G_124 → RLx g G G_124 → lv_has ls 4 [(0, .ref h0)] → HT g Ty G_124 H → va_S (AF Ty s.heap.size) s.heap H locs → Wm p l e (wsG yX8_read cX8_read 4 (some .int)) ({ frames := 8, cells := 0, slots := 0, locals := 181 }) s m [.ref h0, .ref b0] below meth c H locs (0) (0) (QwI g Ty s.heap.size (fun r u => (rgI (-1) (-1) r) ∧ u.1 = Ty ∧ RLx g G u.2)) 0 0 (AF Ty s.heap.size) (F0 m 124 ls []) := by
    intro H locs G_124 ls rg5_124 rg0_124 hi0_124 hi1_124 hl hH hS
    refine lv_aload_n hx hb dX8_read_124 rfl (lv_at hl 0 rfl) ?_
    refine lv_iconst (v := 1) hx hb dX8_read_125 (by decide) ?_
    obtain ⟨_, ⟨q_2, q_3, q_6, q_7, q_9, q_10, q_11, rfl, kq_2, kq_4, kq_10, kq_11, rq_3, rq_6, t_12⟩, o_c_1⟩ := hH h0 _ k_h0
    refine va_callv (va_runV (As := [.int 1]) (rest := []) ⟨hx, hb, hml, hown, hts⟩ (c_X8_release l g Ty G_124 H.size h0 1 k_h0 (rg_w rg5_124 (by decide) (by decide))) (cwV 1 hts (gwV mw_549 mw_551 mw_7 mw_81 mw_552) rfl rfl rfl hv_X8_release ⟨Nat.le_of_ble_eq_true rfl, Nat.le_of_ble_eq_true rfl⟩) ⟨PcT_blind, hg_recv hK o_c_1 rfl, PcT_pre hK hH⟩ rfl rfl hl.1 rfl (lv_room (Nat.le_of_ble_eq_true rfl)) dX8_read_126 ⟨Nat.zero_le _, Nat.zero_le _⟩) hS (fun q _ h => AF.mono hS.1 h) (fun q h => AF.mono hS.1 h) (fun ux_13 t H locs ht hvm hx_13 hB hz hk hS => ?_)
    obtain ⟨eTx_13, eGx_13⟩ := hx_13
    obtain ⟨G_14, eG_14⟩ : ∃ z, z = ux_13.2 := ⟨_, rfl⟩
    rw [← eG_14] at eGx_13
    have u_15 : G_14.1 0 = (G_124.1 0) := (RelR.keep eGx_13 (by decide))
    have w_16 : rgI (0) (40) (G_14.1 5) := RelR.w5 eGx_13 (rg_w rg5_124 (by decide) (by decide))
    have hH : HT g Ty G_14 H := by rw [← ht, ← eTx_13, eG_14]; exact hB
    refine lv_iconst (v := (-1)) hx hb dX8_read_129 (by decide) ?_
    exact W.iret hx hb hr (fun t ht hWm => ⟨⟨(-1), (Ty, G_14), rfl, ⟨rg_w rl_m1 (by decide) (by decide), ⟨rfl, (RLx.tr hi1_124 (RelR.fr eGx_13))⟩⟩, by show HT g Ty G_14 t.heap; rw [ht]; exact hH⟩, hS.F ht⟩) hS.2.2 dX8_read_130
  have L_86 : ∀ (H : Heap) (locs : List Loc) (G_86 : Gh) (ls : Array Slot), rgI (0) (40) (G_86.1 5) → rgI (0) (0) (G_86.1 0) → RW g G_86 → RLx g G G_86 → lv_has ls 4 [(0, .ref h0), (1, .ref b0)] → HT g Ty G_86 H → va_S (AF Ty s.heap.size) s.heap H locs → Wm p l e (wsG yX8_read cX8_read 4 (some .int)) ({ frames := 8, cells := 0, slots := 0, locals := 181 }) s m [.ref h0, .ref b0] below meth c H locs (0) (0) (QwI g Ty s.heap.size (fun r u => (rgI (-1) (-1) r) ∧ u.1 = Ty ∧ RLx g G u.2)) 0 0 (AF Ty s.heap.size) (F0 m 86 ls []) := by
    intro H locs G_86 ls rg5_86 rg0_86 hi0_86 hi1_86 hl hH hS
    refine lv_aload_n hx hb dX8_read_86 rfl (lv_at hl 1 rfl) ?_
    obtain ⟨_, ⟨q_18, rfl, kq_18, rq_19, t_20⟩, o_c_17⟩ := hH b0 _ k_b0
    refine hg_getN hx hb hG igX9 hown hK o_c_17 rfl 1 (by decide) ((hK.2.1 _ nwf_175).use rfl) rfl dX8_read_87 ?_
    refine lv_bipush (v := 40) hx hb dX8_read_90 (by decide) ?_
    refine lv_icmp_le (tgt := 98) hx hb dX8_read_92 (by decide) (fun c_21 => ?_) (fun c_21 => ?_)
    · refine lv_aload_n hx hb dX8_read_98 rfl (lv_at hl 1 rfl) ?_
      refine hg_getN hx hb hG igX9 hown hK o_c_17 rfl 1 (by decide) ((hK.2.1 _ nwf_175).use rfl) rfl dX8_read_99 ?_
      refine lv_if_le (tgt := 124) hx hb dX8_read_102 (by decide) (fun c_22 => ?_) (fun c_22 => ?_)
      · exact L_124 H locs G_86 ls (rg_w rg5_86 (by decide) (by decide)) (rg_w rg0_86 (by decide) (by decide)) hi0_86 hi1_86 (lv_sub hl [0] rfl) hH hS
      · exact rg_no rl_0 rg0_86 (nle_lt c_22) (by decide)
    · exact rg_no rl_40 rg0_86 (nle_lt c_21) (by decide)
  have L_32 : ∀ (n : Nat) (H : Heap) (locs : List Loc) (G_32 : Gh) (y2_32 : Int32) (ls : Array Slot), rgI (0) (40) (G_32.1 5) → rgI (0) (0) (G_32.1 0) → rgI (0) (0) y2_32 → RW g G_32 → (G_32.1 5).toInt ≤ y2_32.toInt → RLx g G G_32 → (40 - (y2_32).toInt).toNat < n → lv_has ls 4 [(0, .ref h0), (1, .ref b0), (2, .int y2_32)] → HT g Ty G_32 H → va_S (AF Ty s.heap.size) s.heap H locs → Wm p l e (wsG yX8_read cX8_read 4 (some .int)) ({ frames := 8, cells := 0, slots := 0, locals := 181 }) s m [.ref h0, .ref b0] below meth c H locs (0) (0) (QwI g Ty s.heap.size (fun r u => (rgI (-1) (-1) r) ∧ u.1 = Ty ∧ RLx g G u.2)) 0 0 (AF Ty s.heap.size) (F0 m 32 ls []) := by
    intro n
    induction n with
    | zero => intro H locs G_32 y2_32 ls rg5_32 rg0_32 ry2_32 hi0_32 hi1_32 hi2_32 hm; exact absurd hm (Nat.not_lt_zero _)
    | succ n ih_32 =>
      intro H locs G_32 y2_32 ls rg5_32 rg0_32 ry2_32 hi0_32 hi1_32 hi2_32 hm_32 hl hH hS
      refine lv_iload_n hx hb dX8_read_32 rfl (lv_at hl 2 rfl) ?_
      refine lv_aload_n hx hb dX8_read_33 rfl (lv_at hl 1 rfl) ?_
      obtain ⟨_, ⟨q_24, rfl, kq_24, rq_25, t_26⟩, o_c_23⟩ := hH b0 _ k_b0
      refine hg_getN hx hb hG igX9 hown hK o_c_23 rfl 1 (by decide) ((hK.2.1 _ nwf_175).use rfl) rfl dX8_read_34 ?_
      refine lv_icmp_ge (tgt := 86) hx hb dX8_read_37 (by decide) (fun c_27 => ?_) (fun c_27 => ?_)
      · exact L_86 H locs G_32 ls (rg_w rg5_32 (by decide) (by decide)) (rg_w rg0_32 (by decide) (by decide)) hi0_32 hi2_32 (lv_sub hl [0, 1] rfl) hH hS
      · exact rg_no ry2_32 rg0_32 (nle_lt c_27) (by decide)
  refine lv_aload_n hx hb dX8_read_0 rfl (lv_at hl 0 rfl) ?_
  refine lv_iconst (v := 0) hx hb dX8_read_1 (by decide) ?_
  obtain ⟨_, ⟨q_29, q_30, q_33, q_34, q_36, q_37, q_38, rfl, kq_29, kq_31, kq_37, kq_38, rq_30, rq_33, t_39⟩, o_c_28⟩ := hH h0 _ k_h0
  refine hg_put (ty := .int) hx hb hG igX8 tyX8 tyX8_ok nmX8 hown hK hS o_c_28 (AF.of k_h0) rfl 1 (by decide) (hG _ mw_203) rfl (by decide +kernel) rfl rfl (Nat.le_of_ble_eq_true rfl) dX8_read_2 (fun H locs o_c_28 hz oq hS => ?_)
  have o_c_28 : va_at g.1 vwCl (h0, .inr (8, [.ref q_29, .int 0, .ref (g.2.2 51), .int (G.1 5), .int q_33, .int q_34, .int (G.1 6), .int q_36, .ref q_37, .ref q_38])) H := o_c_28
  have hH : HT g Ty G H := hH.put k_h0 ⟨q_29, 0, q_33, q_34, q_36, q_37, q_38, rfl, kq_29, kq_31, kq_37, kq_38, (rg_w rl_0 (by decide) (by decide)), rq_33, t_39⟩ o_c_28 oq
  clear oq hz
  refine lv_aload_n hx hb dX8_read_5 rfl (lv_at hl 0 rfl) ?_
  refine lv_iconst (v := 0) hx hb dX8_read_6 (by decide) ?_
  refine hg_put (ty := .int) hx hb hG igX8 tyX8 tyX8_ok nmX8 hown hK hS o_c_28 (AF.of k_h0) rfl 3 (by decide) (hG _ mw_205) rfl (by decide +kernel) rfl rfl (Nat.le_of_ble_eq_true rfl) dX8_read_7 (fun H locs o_c_28 hz oq hS => ?_)
  obtain ⟨G_40, eG_40⟩ : ∃ z : Gh, z = gset G 5 0 := ⟨_, rfl⟩
  have hH : HT g Ty G_40 H := by rw [eG_40]; exact HT.putN 5 0 hH k_h0 ⟨q_29, 0, q_33, q_34, q_36, q_37, q_38, rfl, kq_29, kq_31, kq_37, kq_38, (rg_w rl_0 (by decide) (by decide)), rq_33, t_39⟩ o_c_28 oq (Or.inr (Or.inr (Or.inr (Or.inr (Or.inl ⟨Or.inl rfl, t_39⟩)))))
  have u_41 : G_40.1 0 = (G.1 0) := by rw [eG_40]; exact gs_ne (by decide)
  have u_42 : G_40.1 5 = 0 := by rw [eG_40]; exact gs_eq
  clear oq hz
  refine lv_aload_n hx hb dX8_read_10 rfl (lv_at hl 0 rfl) ?_
  refine lv_iconst (v := 1) hx hb dX8_read_11 (by decide) ?_
  obtain ⟨_, ⟨q_44, q_45, q_48, q_49, q_51, q_52, q_53, rfl, kq_44, kq_46, kq_52, kq_53, rq_45, rq_48, t_54⟩, o_c_43⟩ := hH h0 _ k_h0
  refine hg_put (ty := .boolean) hx hb hG igX8 tyX8 tyX8_ok nmX8 hown hK hS o_c_43 (AF.of k_h0) rfl 4 (by decide) (hG _ mw_206) rfl (by decide +kernel) (by rfl) (by rfl) (Nat.le_of_ble_eq_true rfl) dX8_read_12 (fun H locs o_c_43 hz oq hS => ?_)
  have o_c_43 : va_at g.1 vwCl (h0, .inr (8, [.ref q_44, .int q_45, .ref (g.2.2 51), .int (G_40.1 5), .int 1, .int q_49, .int (G_40.1 6), .int q_51, .ref q_52, .ref q_53])) H := o_c_43
  have hH : HT g Ty G_40 H := hH.put k_h0 ⟨q_44, q_45, 1, q_49, q_51, q_52, q_53, rfl, kq_44, kq_46, kq_52, kq_53, rq_45, (rg_w rl_1 (by decide) (by decide)), t_54⟩ o_c_43 oq
  clear oq hz
  refine lv_aload_n hx hb dX8_read_15 rfl (lv_at hl 0 rfl) ?_
  refine lv_iconst (v := 0) hx hb dX8_read_16 (by decide) ?_
  refine hg_put (ty := .int) hx hb hG igX8 tyX8 tyX8_ok nmX8 hown hK hS o_c_43 (AF.of k_h0) rfl 5 (by decide) (hG _ mw_207) rfl (by decide +kernel) rfl rfl (Nat.le_of_ble_eq_true rfl) dX8_read_17 (fun H locs o_c_43 hz oq hS => ?_)
  have o_c_43 : va_at g.1 vwCl (h0, .inr (8, [.ref q_44, .int q_45, .ref (g.2.2 51), .int (G_40.1 5), .int 1, .int 0, .int (G_40.1 6), .int q_51, .ref q_52, .ref q_53])) H := o_c_43
  have hH : HT g Ty G_40 H := hH.put k_h0 ⟨q_44, q_45, 1, 0, q_51, q_52, q_53, rfl, kq_44, kq_46, kq_52, kq_53, rq_45, (rg_w rl_1 (by decide) (by decide)), t_54⟩ o_c_43 oq
  clear oq hz
  refine lv_aload_n hx hb dX8_read_20 rfl (lv_at hl 0 rfl) ?_
  refine lv_iconst (v := 0) hx hb dX8_read_21 (by decide) ?_
  refine hg_put (ty := .int) hx hb hG igX8 tyX8 tyX8_ok nmX8 hown hK hS o_c_43 (AF.of k_h0) rfl 6 (by decide) (hG _ mw_208) rfl (by decide +kernel) rfl rfl (Nat.le_of_ble_eq_true rfl) dX8_read_22 (fun H locs o_c_43 hz oq hS => ?_)
  obtain ⟨G_55, eG_55⟩ : ∃ z : Gh, z = gset G_40 6 0 := ⟨_, rfl⟩
  have hH : HT g Ty G_55 H := by rw [eG_55]; exact HT.putN 6 0 hH k_h0 ⟨q_44, q_45, 1, 0, q_51, q_52, q_53, rfl, kq_44, kq_46, kq_52, kq_53, rq_45, (rg_w rl_1 (by decide) (by decide)), t_54⟩ o_c_43 oq (Or.inr (Or.inr (Or.inr (Or.inr (Or.inl ⟨Or.inr rfl, t_54⟩)))))
  have u_56 : G_55.1 0 = (G.1 0) := by rw [eG_55]; exact (gs_ne (by decide)).trans u_41
  have u_57 : G_55.1 5 = 0 := by rw [eG_55]; exact (gs_ne (by decide)).trans u_42
  have u_58 : G_55.1 6 = 0 := by rw [eG_55]; exact gs_eq
  clear oq hz
  refine lv_aload_n hx hb dX8_read_25 rfl (lv_at hl 0 rfl) ?_
  refine lv_iconst (v := 0) hx hb dX8_read_26 (by decide) ?_
  obtain ⟨_, ⟨q_60, q_61, q_64, q_65, q_67, q_68, q_69, rfl, kq_60, kq_62, kq_68, kq_69, rq_61, rq_64, t_70⟩, o_c_59⟩ := hH h0 _ k_h0
  refine hg_put (ty := .int) hx hb hG igX8 tyX8 tyX8_ok nmX8 hown hK hS o_c_59 (AF.of k_h0) rfl 7 (by decide) (hG _ mw_209) rfl (by decide +kernel) rfl rfl (Nat.le_of_ble_eq_true rfl) dX8_read_27 (fun H locs o_c_59 hz oq hS => ?_)
  have o_c_59 : va_at g.1 vwCl (h0, .inr (8, [.ref q_60, .int q_61, .ref (g.2.2 51), .int (G_55.1 5), .int q_64, .int q_65, .int (G_55.1 6), .int 0, .ref q_68, .ref q_69])) H := o_c_59
  have hH : HT g Ty G_55 H := hH.put k_h0 ⟨q_60, q_61, q_64, q_65, 0, q_68, q_69, rfl, kq_60, kq_62, kq_68, kq_69, rq_61, rq_64, t_70⟩ o_c_59 oq
  clear oq hz
  refine lv_iconst (v := 0) hx hb dX8_read_30 (by decide) ?_
  refine lv_istore_n (lv' := [(2, .int 0), (0, .ref h0), (1, .ref b0)]) hx hb dX8_read_31 rfl hl (by decide) rfl (fun ls hl => ?_)
  exact L_32 _ H locs G_55 0 ls (by rw [u_57]; exact rg_w rl_0 (by decide) (by decide)) (by rw [u_56]; exact rg_w (rg_of0 hz0) (by decide) (by decide)) (rg_w rl_0 (by decide) (by decide)) (rw0 (g := g) eG_40 eG_55).1 (rw0 (g := g) eG_40 eG_55).2.1 (rw0 (g := g) eG_40 eG_55).2.2 (Nat.lt_succ_self _) (lv_sub hl [1, 2, 0] rfl) hH hS

set_option maxHeartbeats 4000000 in
set_option maxRecDepth 100000 in
theorem c_X8_take (l : Launch) (g : Gx) (Ty : TyM) (G : Gh) (sz : Nat) (h0 : Nat) (b0 : Nat) (k_h0 : Ty h0 = some (18, 0)) (k_b0 : Ty b0 = some (23, 0)) (hD1 : LD1 g) : Met l yX8_take (wsG yX8_take cX8_take 3 none) ({ frames := 0, cells := 0, slots := 0, locals := 0 }) (PcT g Ty G sz [.ref h0, .ref b0]) (QwV g Ty sz (fun u => u.1 = Ty ∧ FR [24] [] [] G u.2)) 0 0 (AF Ty sz) := by
  refine Met.ofW (cc := cX8_take) (maxL := 3) (ret := none) (by decide) rfl ?_
  intro p e s m args below meth c s₁ B hml hv
  obtain ⟨rfl, hsz, hK, hH⟩ := hv
  subst hsz
  have hx := B.exec
  have hb := B.bytes
  have hr := B.returns
  have hts := atoms_spec (ws := (wsG yX8_take cX8_take 3 none)) B.pre
  have hG : ∀ w ∈ GW, w.before ([.ref h0, .ref b0] : List Value).toArray s = true := fun w h => hts w (List.mem_cons_of_mem _ h)
  have hown : s.vm.findClass RX8 = some m.cls := findClass_of_methodNamed B.named
  have hlocks := B.notSynchronized
  have hl := lv_entry [.ref h0, .ref b0] (n := 3) (Nat.le_of_ble_eq_true rfl)
  rw [lg_entry_eq]
  generalize (lg_sl [.ref h0, .ref b0] ++ List.replicate (3 - (lg_sl [.ref h0, .ref b0]).length) Slot.unset).toArray = ls at hl ⊢
  have hl : lv_has ls 3 [(0, .ref h0), (1, .ref b0)] := hl
  have hS : va_S (AF Ty s.heap.size) s.heap s.heap [] := va_S.rf
  have L_2 : ∀ (n : Nat) (H : Heap) (locs : List Loc) (G_2 : Gh) (y2_2 : Int32) (ls : Array Slot), FR [24] [] [] G G_2 → rgI (0) (40) y2_2 → (40 - (y2_2).toInt).toNat < n → lv_has ls 3 [(0, .ref h0), (1, .ref b0), (2, .int y2_2)] → HT g Ty G_2 H → va_S (AF Ty s.heap.size) s.heap H locs → Wm p l e (wsG yX8_take cX8_take 3 none) ({ frames := 0, cells := 0, slots := 0, locals := 0 }) s m [.ref h0, .ref b0] below meth c H locs (0) (0) (QwV g Ty s.heap.size (fun u => u.1 = Ty ∧ FR [24] [] [] G u.2)) 0 0 (AF Ty s.heap.size) (F0 m 2 ls []) := by
    intro n
    induction n with
    | zero => intro H locs G_2 y2_2 ls frL_2 ry2_2 hm; exact absurd hm (Nat.not_lt_zero _)
    | succ n ih_2 =>
      intro H locs G_2 y2_2 ls frL_2 ry2_2 hm_2 hl hH hS
      refine lv_iload_n hx hb dX8_take_2 rfl (lv_at hl 2 rfl) ?_
      refine lv_bipush (v := 40) hx hb dX8_take_3 (by decide) ?_
      refine lv_icmp_ge (tgt := 26) hx hb dX8_take_5 (by decide) (fun c_1 => ?_) (fun c_1 => ?_)
      · have r_2 : rgI (40) (40) y2_2 := rg_w (rg_leR rl_40 ry2_2 c_1) (by decide) (by decide)
        refine lv_aload_n hx hb dX8_take_26 rfl (lv_at hl 0 rfl) ?_
        refine lv_aload_n hx hb dX8_take_27 rfl (lv_at hl 1 rfl) ?_
        obtain ⟨_, ⟨q_4, q_5, q_8, q_9, q_11, q_12, q_13, rfl, kq_4, kq_6, kq_12, kq_13, rq_5, rq_8, t_14⟩, o_c_3⟩ := hH b0 _ k_b0
        refine hg_get hx hb hG igX8 hown hK o_c_3 rfl 1 (by decide) (hG _ mw_203) rfl dX8_take_28 ?_
        obtain ⟨_, ⟨q_16, q_18, q_19, q_20, q_21, q_22, q_23, q_24, q_25, rfl, kq_16, kq_18, kq_24, kq_25, rq_17, rq_20, t_26⟩, o_c_15⟩ := hH h0 _ k_h0
        refine hg_put (ty := .int) hx hb hG igX8 tyX8 tyX8_ok nmX8 hown hK hS o_c_15 (AF.of k_h0) rfl 1 (by decide) (hG _ mw_203) rfl (by decide +kernel) rfl rfl (Nat.le_of_ble_eq_true rfl) dX8_take_31 (fun H locs o_c_15 hz oq hS => ?_)
        obtain ⟨G_27, eG_27⟩ : ∃ z : Gh, z = gset G_2 24 q_5 := ⟨_, rfl⟩
        have hH : HT g Ty G_27 H := by rw [eG_27]; exact HT.putM 24 q_5 hH k_h0 ⟨q_16, q_18, q_19, q_20, q_21, q_22, q_23, q_24, q_25, rfl, kq_16, kq_18, kq_24, kq_25, (rgu (rg_w rq_5 (by decide) (by decide))), rq_20, t_26⟩ o_c_15 oq (⟨⟨by decide, by decide⟩, t_26⟩)
        have fr_28 : FR [24] [] [] G G_27 := FR.n frL_2 eG_27 (by decide)
        have u_29 : G_27.1 24 = q_5 := by rw [eG_27]; exact gs_eq
        clear oq hz
        exact W.vret hx hb hr (fun t ht hWm => ⟨⟨(Ty, G_27), rfl, ⟨rfl, fr_28⟩, by show HT g Ty G_27 t.heap; rw [ht]; exact hH⟩, hS.F ht⟩) hS.2.2 dX8_take_34
      · have r_30 : rgI (0) (39) y2_2 := rg_w (rg_ltL ry2_2 rl_40 (nle_lt c_1)) (by decide) (by decide)
        refine lv_aload_n hx hb dX8_take_8 rfl (lv_at hl 0 rfl) ?_
        obtain ⟨_, ⟨q_32, q_34, q_35, q_36, q_37, q_38, q_39, q_40, q_41, rfl, kq_32, kq_34, kq_40, kq_41, rq_33, rq_36, t_42⟩, o_c_31⟩ := hH h0 _ k_h0
        refine hg_get hx hb hG igX8 hown hK o_c_31 rfl 0 (by decide) (hG _ mw_202) rfl dX8_take_9 ?_
        refine lv_iload_n hx hb dX8_take_12 rfl (lv_at hl 2 rfl) ?_
        refine lv_aload_n hx hb dX8_take_13 rfl (lv_at hl 1 rfl) ?_
        obtain ⟨_, ⟨q_44, q_45, q_48, q_49, q_51, q_52, q_53, rfl, kq_44, kq_46, kq_52, kq_53, rq_45, rq_48, t_54⟩, o_c_43⟩ := hH b0 _ k_b0
        refine hg_get hx hb hG igX8 hown hK o_c_43 rfl 0 (by decide) (hG _ mw_202) rfl dX8_take_14 ?_
        refine lv_iload_n hx hb dX8_take_17 rfl (lv_at hl 2 rfl) ?_
        obtain ⟨_, ⟨f_56, rfl⟩, o_c_55⟩ := hH q_44 _ kq_44
        refine hg_iald hx hb hK o_c_55 (rg_in (n := 40) r_30 (by decide) (by decide)) dX8_take_18 ?_
        refine lv_topi (fun x_57 ex_57 => ?_)
        obtain ⟨_, ⟨f_59, rfl⟩, o_c_58⟩ := hH q_32 _ kq_32
        refine hg_iast hx hb hK hS o_c_58 (AF.of kq_32) (rg_in (n := 40) r_30 (by decide) (by decide)) dX8_take_19 (fun H locs o_c_58 hz oq hS => ?_)
        generalize hff_60 : upd f_59 _ x_57 = f_60 at o_c_58
        have hH : HT g Ty G_2 H := hH.put kq_32 ⟨_, rfl⟩ o_c_58 oq
        have o_c_31 := o_c_31.kept (oq _ (ne_kd k_h0 kq_32 (by decide)))
        have o_c_43 := o_c_43.kept (oq _ (ne_kd k_b0 kq_32 (by decide)))
        clear oq hz
        obtain ⟨x_61, ex_61⟩ : ∃ y : Int32, y = y2_2 + 1 := ⟨_, rfl⟩
        have rx_61 : rgI (1) (40) x_61 := by rw [ex_61]; exact rg_w (rg_add r_30 rl_1 (by decide) (by decide)) (by decide) (by decide)
        have qx_61 : x_61.toInt = (y2_2 : Int32).toInt + 1 := by rw [ex_61]; exact rg_addE r_30 rl_1 (by decide) (by decide)
        refine lv_iinc (v := x_61) (lv' := [(2, .int x_61), (0, .ref h0), (1, .ref b0)]) hx hb dX8_take_20 hl (k := 2) rfl (by rw [ex_61]; rfl) (by decide) rfl (fun ls hl => ?_)
        refine lv_goto (tgt := 2) hx hb dX8_take_23 (by decide) ?_
        exact ih_2 H locs G_2 x_61 ls frL_2 (rg_w rx_61 (by decide) (by decide)) (by have h1 := qx_61; have h2 := r_30.1; have h3 := r_30.2; have h4 := hm_2; omega) (lv_sub hl [1, 2, 0] rfl) hH hS
  refine lv_iconst (v := 0) hx hb dX8_take_0 (by decide) ?_
  refine lv_istore_n (lv' := [(2, .int 0), (0, .ref h0), (1, .ref b0)]) hx hb dX8_take_1 rfl hl (by decide) rfl (fun ls hl => ?_)
  exact L_2 _ s.heap [] G 0 ls FR.rf (rg_w rl_0 (by decide) (by decide)) (Nat.lt_succ_self _) (lv_sub hl [1, 2, 0] rfl) hH hS

set_option maxHeartbeats 4000000 in
set_option maxRecDepth 100000 in
theorem c_X11_rule (l : Launch) (g : Gx) (Ty : TyM) (G : Gh) (sz : Nat) (h0 : Nat) (k_h0 : Ty h0 = some (21, 0)) (hD1 : LD1 g) (hz0 : G.1 0 = 0) : Met l yX11_rule (wsG yX11_rule cX11_rule 2 (some .int)) ({ frames := 9, cells := 0, slots := 0, locals := 204 }) (PcO g Ty G sz [.ref h0]) (QwI g Ty sz (fun r u => (rgI (0) (0) r) ∧ u.1 = Ty ∧ FR [0, 5, 6, 24] [(g.2.2 51)] [] G u.2)) 0 0 (AF Ty sz) := by
  refine Met.ofW (cc := cX11_rule) (maxL := 2) (ret := (some .int)) (by decide) rfl ?_
  intro p e s m args below meth c s₁ B hml hv
  obtain ⟨rfl, hsz, hK, hH, hO⟩ := hv
  subst hsz
  have hx := B.exec
  have hb := B.bytes
  have hr := B.returns
  have hts := atoms_spec (ws := (wsG yX11_rule cX11_rule 2 (some .int))) B.pre
  have hG : ∀ w ∈ GW, w.before ([.ref h0] : List Value).toArray s = true := fun w h => hts w (List.mem_cons_of_mem _ h)
  have hown : s.vm.findClass RX11 = some m.cls := findClass_of_methodNamed B.named
  have hlocks := B.notSynchronized
  have hl := lv_entry [.ref h0] (n := 2) (Nat.le_of_ble_eq_true rfl)
  rw [lg_entry_eq]
  generalize (lg_sl [.ref h0] ++ List.replicate (2 - (lg_sl [.ref h0]).length) Slot.unset).toArray = ls at hl ⊢
  have hl : lv_has ls 2 [(0, .ref h0)] := hl
  have hS : va_S (AF Ty s.heap.size) s.heap s.heap [] := va_S.rf
  refine lv_aload_n hx hb dX11_rule_0 rfl (lv_at hl 0 rfl) ?_
  obtain ⟨_, ⟨rfl, kq_2, kq_3, kq_4, kq_5, kq_6, kq_7, kq_8, kq_9, kq_10, kq_11, kq_12, kq_13, kq_14, kq_15, t_17⟩, o_c_1⟩ := hH h0 _ k_h0
  refine hg_get hx hb hG igX11 hown hK o_c_1 rfl 7 (by decide) (hG _ mw_364) rfl dX11_rule_1 ?_
  refine lv_aload_n hx hb dX11_rule_4 rfl (lv_at hl 0 rfl) ?_
  refine hg_get hx hb hG igX11 hown hK o_c_1 rfl 4 (by decide) (hG _ mw_361) rfl dX11_rule_5 ?_
  obtain ⟨_, ⟨q_19, q_20, q_23, q_24, q_26, q_27, q_28, rfl, kq_19, kq_21, kq_27, kq_28, rq_20, rq_23, t_29⟩, o_c_18⟩ := hH (g.2.2 7) _ kq_9
  refine va_calli (va_runV (As := [.ref (g.2.2 4)]) (rest := []) ⟨hx, hb, hml, hown, hts⟩ (c_X8_read_z l g Ty G s.heap.size (g.2.2 7) (g.2.2 4) kq_9 kq_6 hz0) (cwV 1 hts (gwV mw_423 mw_424 mw_425 mw_81 mw_426) rfl rfl rfl hv_X8_read ⟨Nat.le_of_ble_eq_true rfl, Nat.le_of_ble_eq_true rfl⟩) ⟨PcO_blind, hg_recv hK o_c_18 rfl, PcO_pre hK hH hO hS⟩ rfl rfl hl.1 rfl (lv_room (Nat.le_of_ble_eq_true rfl)) dX11_rule_8 ⟨Nat.zero_le _, Nat.zero_le _⟩) hS (fun q _ h => AF.mono hS.1 h) (fun q h => AF.mono hS.1 h) (fun x_30 ux_30 t H locs ht hvm hx_30 hB hz hk hS => ?_)
  obtain ⟨hx_30, fx_30⟩ := hx_30
  obtain ⟨eTx_30, eGx_30⟩ := fx_30
  obtain ⟨G_31, eG_31⟩ : ∃ z, z = ux_30.2 := ⟨_, rfl⟩
  rw [← eG_31] at eGx_30
  have fr_32 : FR [0, 5, 6, 24] [(g.2.2 51)] [] G G_31 := FR.tr FR.rf (RLx_fr eGx_30) (by decide) (fun b h => ⟨h.1, trivial⟩) (by decide)
  have u_33 : G_31.1 0 = 0 := ((RLx_fr eGx_30).1 0 (by decide)).trans hz0
  have hH : HT g Ty G_31 H := by rw [← ht, ← eTx_30, eG_31]; exact hB
  have rx_30 : rgI (-1) (-1) x_30 := hx_30
  refine lv_istore_n (lv' := [(1, .int x_30), (0, .ref h0)]) hx hb dX11_rule_11 rfl hl (by decide) rfl (fun ls hl => ?_)
  refine lv_aload_n hx hb dX11_rule_12 rfl (lv_at hl 1 rfl) ?_
  obtain ⟨_, ⟨rfl, kq_35, kq_36, kq_37, kq_38, kq_39, kq_40, kq_41, kq_42, kq_43, kq_44, kq_45, kq_46, kq_47, kq_48, t_50⟩, o_c_34⟩ := hH h0 _ k_h0
  refine hg_get hx hb hG igX11 hown hK o_c_34 rfl 4 (by decide) (hG _ mw_361) rfl dX11_rule_13 ?_
  obtain ⟨_, ⟨q_52, rfl, kq_52, rq_53, t_54⟩, o_c_51⟩ := hH (g.2.2 4) _ kq_39
  refine va_callv (va_runV (As := []) (rest := []) ⟨hx, hb, hml, hown, hts⟩ (c_X9_clear_f l g Ty G_31 H.size (g.2.2 4) kq_39 hD1) (cwV 0 hts (gwV mw_556 mw_557 mw_558 mw_79 mw_559) rfl rfl rfl hv_X9_clear ⟨Nat.le_of_ble_eq_true rfl, Nat.le_of_ble_eq_true rfl⟩) ⟨PcT_blind, hg_recv hK o_c_51 rfl, PcT_pre hK hH⟩ rfl rfl hl.1 rfl (lv_room (Nat.le_of_ble_eq_true rfl)) dX11_rule_16 ⟨Nat.zero_le _, Nat.zero_le _⟩) hS (fun q _ h => AF.mono hS.1 h) (fun q h => AF.mono hS.1 h) (fun ux_55 t H locs ht hvm hx_55 hB hz hk hS => ?_)
  obtain ⟨eTx_55, eGx_55⟩ := hx_55
  obtain ⟨G_56, eG_56⟩ : ∃ z, z = ux_55.2 := ⟨_, rfl⟩
  rw [← eG_56] at eGx_55
  have fr_57 : FR [0, 5, 6, 24] [(g.2.2 51)] [] G G_56 := FR.tr fr_32 eGx_55 (by decide) (fun _ _ => trivial) (by decide)
  have hH : HT g Ty G_56 H := by rw [← ht, ← eTx_55, eG_56]; exact hB
  refine lv_iload_n hx hb dX11_rule_19 rfl (lv_at hl 0 rfl) ?_
  refine lv_iconst (v := (-1)) hx hb dX11_rule_20 (by decide) ?_
  refine lv_icmp_eq (tgt := 28) hx hb dX11_rule_21 (by decide) (fun c_58 => ?_) (fun c_58 => ?_)
  · refine lv_aload_n hx hb dX11_rule_28 rfl (lv_at hl 1 rfl) ?_
    obtain ⟨_, ⟨rfl, kq_60, kq_61, kq_62, kq_63, kq_64, kq_65, kq_66, kq_67, kq_68, kq_69, kq_70, kq_71, kq_72, kq_73, t_75⟩, o_c_59⟩ := hH h0 _ k_h0
    refine hg_get hx hb hG igX11 hown hK o_c_59 rfl 6 (by decide) (hG _ mw_363) rfl dX11_rule_29 ?_
    refine lv_aload_n hx hb dX11_rule_32 rfl (lv_at hl 1 rfl) ?_
    refine hg_get hx hb hG igX11 hown hK o_c_59 rfl 7 (by decide) (hG _ mw_364) rfl dX11_rule_33 ?_
    obtain ⟨_, ⟨q_77, q_79, q_80, q_81, q_82, q_83, q_84, q_85, q_86, rfl, kq_77, kq_79, kq_85, kq_86, rq_78, rq_81, t_87⟩, o_c_76⟩ := hH (g.2.2 6) _ kq_66
    refine va_callv (va_runV (As := [.ref (g.2.2 7)]) (rest := []) ⟨hx, hb, hml, hown, hts⟩ (c_X8_take l g Ty G_56 H.size (g.2.2 6) (g.2.2 7) kq_66 kq_67 hD1) (cwV 1 hts (gwV mw_560 mw_561 mw_562 mw_81 mw_563) rfl rfl rfl hv_X8_take ⟨Nat.le_of_ble_eq_true rfl, Nat.le_of_ble_eq_true rfl⟩) ⟨PcT_blind, hg_recv hK o_c_76 rfl, PcT_pre hK hH⟩ rfl rfl hl.1 rfl (lv_room (Nat.le_of_ble_eq_true rfl)) dX11_rule_36 ⟨Nat.zero_le _, Nat.zero_le _⟩) hS (fun q _ h => AF.mono hS.1 h) (fun q h => AF.mono hS.1 h) (fun ux_88 t H locs ht hvm hx_88 hB hz hk hS => ?_)
    obtain ⟨eTx_88, eGx_88⟩ := hx_88
    obtain ⟨G_89, eG_89⟩ : ∃ z, z = ux_88.2 := ⟨_, rfl⟩
    rw [← eG_89] at eGx_88
    have fr_90 : FR [0, 5, 6, 24] [(g.2.2 51)] [] G G_89 := FR.tr fr_57 eGx_88 (by decide) (fun _ _ => trivial) (by decide)
    have hH : HT g Ty G_89 H := by rw [← ht, ← eTx_88, eG_89]; exact hB
    refine lv_iconst (v := 0) hx hb dX11_rule_39 (by decide) ?_
    exact W.iret hx hb hr (fun t ht hWm => ⟨⟨0, (Ty, G_89), rfl, ⟨rg_w rl_0 (by decide) (by decide), ⟨rfl, fr_90⟩⟩, by show HT g Ty G_89 t.heap; rw [ht]; exact hH⟩, hS.F ht⟩) hS.2.2 dX11_rule_40
  · exact absurd (rg_one rx_30 rl_m1) c_58

set_option maxHeartbeats 4000000 in
set_option maxRecDepth 100000 in
theorem c_X8_lookAt_o (l : Launch) (g : Gx) (Ty : TyM) (G : Gh) (sz : Nat) (h0 : Nat) (b0 : Nat) (a1 : Int32) (a2 : Int32) (k_h0 : Ty h0 = some (23, 0)) (k_b0 : Ty b0 = some (24, 0)) : Met l yX8_lookAt (wsG yX8_lookAt cX8_lookAt 4 none) ({ frames := 2, cells := 0, slots := 0, locals := 45 }) (PcT g Ty G sz [.ref h0, .ref b0, .int a1, .int a2]) (QwV g Ty sz (fun u => u = (Ty, G))) 0 0 (AF Ty sz) := by
  refine Met.ofW (cc := cX8_lookAt) (maxL := 4) (ret := none) (by decide) rfl ?_
  intro p e s m args below meth c s₁ B hml hv
  obtain ⟨rfl, hsz, hK, hH⟩ := hv
  subst hsz
  have hx := B.exec
  have hb := B.bytes
  have hr := B.returns
  have hts := atoms_spec (ws := (wsG yX8_lookAt cX8_lookAt 4 none)) B.pre
  have hG : ∀ w ∈ GW, w.before ([.ref h0, .ref b0, .int a1, .int a2] : List Value).toArray s = true := fun w h => hts w (List.mem_cons_of_mem _ h)
  have hown : s.vm.findClass RX8 = some m.cls := findClass_of_methodNamed B.named
  have hlocks := B.notSynchronized
  have hl := lv_entry [.ref h0, .ref b0, .int a1, .int a2] (n := 4) (Nat.le_of_ble_eq_true rfl)
  rw [lg_entry_eq]
  generalize (lg_sl [.ref h0, .ref b0, .int a1, .int a2] ++ List.replicate (4 - (lg_sl [.ref h0, .ref b0, .int a1, .int a2]).length) Slot.unset).toArray = ls at hl ⊢
  have hl : lv_has ls 4 [(0, .ref h0), (1, .ref b0), (2, .int a1), (3, .int a2)] := hl
  have hS : va_S (AF Ty s.heap.size) s.heap s.heap [] := va_S.rf
  refine lv_aload_n hx hb dX8_lookAt_0 rfl (lv_at hl 0 rfl) ?_
  obtain ⟨_, ⟨q_2, q_3, q_6, q_7, q_9, q_10, q_11, rfl, kq_2, kq_4, kq_10, kq_11, rq_3, rq_6, t_12⟩, o_c_1⟩ := hH h0 _ k_h0
  refine hg_get hx hb hG igX8 hown hK o_c_1 rfl 8 (by decide) (hG _ mw_210) rfl dX8_lookAt_1 ?_
  refine lv_iconst (v := 0) hx hb dX8_lookAt_4 (by decide) ?_
  refine lv_aload_n hx hb dX8_lookAt_5 rfl (lv_at hl 1 rfl) ?_
  refine lv_iload_n hx hb dX8_lookAt_6 rfl (lv_at hl 2 rfl) ?_
  obtain ⟨_, ⟨rfl, kq_14, kq_15, kq_16, t_21⟩, o_c_13⟩ := hH b0 _ k_b0
  refine vp_callSi (W.runV (As := [.int a1]) (rest := [.int 0, .ref q_10]) ⟨hx, hb, hml, hown, hts⟩ (c_X10_stepsTo l g Ty G b0 a1 k_b0) (cwV 1 hts (gwV mw_678 mw_679 mw_680 mw_77 mw_681) rfl rfl rfl hv_X10_stepsTo ⟨Nat.le_of_ble_eq_true rfl, Nat.le_of_ble_eq_true rfl⟩) ⟨PcH_blind, hg_recv hK o_c_13 rfl, PcH_pre hK hH⟩ rfl rfl hl.1 rfl (lv_room (Nat.le_of_ble_eq_true rfl)) dX8_lookAt_7 ⟨Nat.zero_le _, Nat.zero_le _⟩) (fun x_22 hx_22 => ?_)
  obtain ⟨_, ⟨f_24, rfl⟩, o_c_23⟩ := hH q_10 _ kq_10
  refine hg_iast hx hb hK hS o_c_23 (AF.of kq_10) (rg_in (n := 7) rl_0 (by decide) (by decide)) dX8_lookAt_10 (fun H locs o_c_23 hz oq hS => ?_)
  generalize hff_25 : upd f_24 _ x_22 = f_25 at o_c_23
  have hH : HT g Ty G H := hH.put kq_10 ⟨_, rfl⟩ o_c_23 oq
  have o_c_1 := o_c_1.kept (oq _ (ne_kd k_h0 kq_10 (by decide)))
  have o_c_13 := o_c_13.kept (oq _ (ne_kd k_b0 kq_10 (by decide)))
  clear oq hz
  refine lv_aload_n hx hb dX8_lookAt_11 rfl (lv_at hl 0 rfl) ?_
  refine hg_get hx hb hG igX8 hown hK o_c_1 rfl 8 (by decide) (hG _ mw_210) rfl dX8_lookAt_12 ?_
  refine lv_iconst (v := 1) hx hb dX8_lookAt_15 (by decide) ?_
  refine lv_aload_n hx hb dX8_lookAt_16 rfl (lv_at hl 1 rfl) ?_
  refine lv_iload_n hx hb dX8_lookAt_17 rfl (lv_at hl 2 rfl) ?_
  refine vp_callSi (W.runV (As := [.int a1]) (rest := [.int 1, .ref q_10]) ⟨hx, hb, hml, hown, hts⟩ (c_X10_childrenOf l g Ty G b0 a1 k_b0) (cwV 1 hts (gwV mw_686 mw_687 mw_688 mw_77 mw_689) rfl rfl rfl hv_X10_childrenOf ⟨Nat.le_of_ble_eq_true rfl, Nat.le_of_ble_eq_true rfl⟩) ⟨PcH_blind, hg_recv hK o_c_13 rfl, PcH_pre hK hH⟩ rfl rfl hl.1 rfl (lv_room (Nat.le_of_ble_eq_true rfl)) dX8_lookAt_18 ⟨Nat.zero_le _, Nat.zero_le _⟩) (fun x_26 hx_26 => ?_)
  refine vp_callSi (W.runS (As := [.int x_26]) (rest := [.int 1, .ref q_10]) ⟨hx, hb, hml, hown, hts⟩ (c_J6_bitCount_x l g Ty G x_26 ) (cwSx 1 hts hG (gwC mw_620) mw_99 mw_690 mw_619 rfl rfl rfl hd_J6_bitCount_0f7a4 ⟨Nat.le_of_ble_eq_true rfl, Nat.le_of_ble_eq_true rfl⟩) ⟨PcH_blind, PcH_pre hK hH⟩ rfl rfl hl.1 rfl (lv_room (Nat.le_of_ble_eq_true rfl)) dX8_lookAt_21 ⟨Nat.zero_le _, Nat.zero_le _⟩) (fun x_27 hx_27 => ?_)
  have rx_27 : rgI (0) (63) x_27 := hx_27.1
  refine hg_iast hx hb hK hS o_c_23 (AF.of kq_10) (rg_in (n := 7) rl_1 (by decide) (by decide)) dX8_lookAt_24 (fun H locs o_c_23 hz oq hS => ?_)
  generalize hff_28 : upd f_25 _ x_27 = f_28 at o_c_23
  have hH : HT g Ty G H := hH.put kq_10 ⟨_, rfl⟩ o_c_23 oq
  have o_c_1 := o_c_1.kept (oq _ (ne_kd k_h0 kq_10 (by decide)))
  have o_c_13 := o_c_13.kept (oq _ (ne_kd k_b0 kq_10 (by decide)))
  clear oq hz
  refine lv_aload_n hx hb dX8_lookAt_25 rfl (lv_at hl 0 rfl) ?_
  refine hg_get hx hb hG igX8 hown hK o_c_1 rfl 8 (by decide) (hG _ mw_210) rfl dX8_lookAt_26 ?_
  refine lv_iconst (v := 2) hx hb dX8_lookAt_29 (by decide) ?_
  refine lv_aload_n hx hb dX8_lookAt_30 rfl (lv_at hl 1 rfl) ?_
  refine lv_aload_n hx hb dX8_lookAt_31 rfl (lv_at hl 1 rfl) ?_
  refine lv_iload_n hx hb dX8_lookAt_32 rfl (lv_at hl 2 rfl) ?_
  refine vp_callSi (W.runV (As := [.int a1]) (rest := [.ref b0, .int 2, .ref q_10]) ⟨hx, hb, hml, hown, hts⟩ (c_X10_groupOf l g Ty G b0 a1 k_b0) (cwV 1 hts (gwV mw_691 mw_608 mw_609 mw_77 mw_610) rfl rfl rfl hv_X10_groupOf ⟨Nat.le_of_ble_eq_true rfl, Nat.le_of_ble_eq_true rfl⟩) ⟨PcH_blind, hg_recv hK o_c_13 rfl, PcH_pre hK hH⟩ rfl rfl hl.1 rfl (lv_room (Nat.le_of_ble_eq_true rfl)) dX8_lookAt_33 ⟨Nat.zero_le _, Nat.zero_le _⟩) (fun x_29 hx_29 => ?_)
  refine vp_callSi (W.runV (As := [.int x_29]) (rest := [.int 2, .ref q_10]) ⟨hx, hb, hml, hown, hts⟩ (c_X10_withGroup l g Ty G b0 x_29 k_b0) (cwV 1 hts (gwV mw_692 mw_659 mw_660 mw_77 mw_661) rfl rfl rfl hv_X10_withGroup ⟨Nat.le_of_ble_eq_true rfl, Nat.le_of_ble_eq_true rfl⟩) ⟨PcH_blind, hg_recv hK o_c_13 rfl, PcH_pre hK hH⟩ rfl rfl hl.1 rfl (lv_room (Nat.le_of_ble_eq_true rfl)) dX8_lookAt_36 ⟨Nat.zero_le _, Nat.zero_le _⟩) (fun x_30 hx_30 => ?_)
  refine vp_callSi (W.runS (As := [.int x_30]) (rest := [.int 2, .ref q_10]) ⟨hx, hb, hml, hown, hts⟩ (c_J6_bitCount_x l g Ty G x_30 ) (cwSx 1 hts hG (gwC mw_620) mw_99 mw_690 mw_619 rfl rfl rfl hd_J6_bitCount_0f7a4 ⟨Nat.le_of_ble_eq_true rfl, Nat.le_of_ble_eq_true rfl⟩) ⟨PcH_blind, PcH_pre hK hH⟩ rfl rfl hl.1 rfl (lv_room (Nat.le_of_ble_eq_true rfl)) dX8_lookAt_39 ⟨Nat.zero_le _, Nat.zero_le _⟩) (fun x_31 hx_31 => ?_)
  have rx_31 : rgI (0) (63) x_31 := hx_31.1
  refine hg_iast hx hb hK hS o_c_23 (AF.of kq_10) (rg_in (n := 7) rl_2 (by decide) (by decide)) dX8_lookAt_42 (fun H locs o_c_23 hz oq hS => ?_)
  generalize hff_32 : upd f_28 _ x_31 = f_32 at o_c_23
  have hH : HT g Ty G H := hH.put kq_10 ⟨_, rfl⟩ o_c_23 oq
  have o_c_1 := o_c_1.kept (oq _ (ne_kd k_h0 kq_10 (by decide)))
  have o_c_13 := o_c_13.kept (oq _ (ne_kd k_b0 kq_10 (by decide)))
  clear oq hz
  refine lv_aload_n hx hb dX8_lookAt_43 rfl (lv_at hl 0 rfl) ?_
  refine hg_get hx hb hG igX8 hown hK o_c_1 rfl 8 (by decide) (hG _ mw_210) rfl dX8_lookAt_44 ?_
  refine lv_iconst (v := 3) hx hb dX8_lookAt_47 (by decide) ?_
  refine lv_iload_n hx hb dX8_lookAt_48 rfl (lv_at hl 2 rfl) ?_
  refine hg_iast hx hb hK hS o_c_23 (AF.of kq_10) (rg_in (n := 7) rl_3 (by decide) (by decide)) dX8_lookAt_49 (fun H locs o_c_23 hz oq hS => ?_)
  generalize hff_33 : upd f_32 _ a1 = f_33 at o_c_23
  have hH : HT g Ty G H := hH.put kq_10 ⟨_, rfl⟩ o_c_23 oq
  have o_c_1 := o_c_1.kept (oq _ (ne_kd k_h0 kq_10 (by decide)))
  have o_c_13 := o_c_13.kept (oq _ (ne_kd k_b0 kq_10 (by decide)))
  clear oq hz
  refine lv_aload_n hx hb dX8_lookAt_50 rfl (lv_at hl 0 rfl) ?_
  refine hg_get hx hb hG igX8 hown hK o_c_1 rfl 8 (by decide) (hG _ mw_210) rfl dX8_lookAt_51 ?_
  refine lv_iconst (v := 4) hx hb dX8_lookAt_54 (by decide) ?_
  refine lv_iload_n hx hb dX8_lookAt_55 rfl (lv_at hl 3 rfl) ?_
  refine hg_iast hx hb hK hS o_c_23 (AF.of kq_10) (rg_in (n := 7) rl_4 (by decide) (by decide)) dX8_lookAt_56 (fun H locs o_c_23 hz oq hS => ?_)
  generalize hff_34 : upd f_33 _ a2 = f_34 at o_c_23
  have hH : HT g Ty G H := hH.put kq_10 ⟨_, rfl⟩ o_c_23 oq
  have o_c_1 := o_c_1.kept (oq _ (ne_kd k_h0 kq_10 (by decide)))
  have o_c_13 := o_c_13.kept (oq _ (ne_kd k_b0 kq_10 (by decide)))
  clear oq hz
  refine lv_aload_n hx hb dX8_lookAt_57 rfl (lv_at hl 0 rfl) ?_
  refine hg_get hx hb hG igX8 hown hK o_c_1 rfl 8 (by decide) (hG _ mw_210) rfl dX8_lookAt_58 ?_
  refine lv_iconst (v := 5) hx hb dX8_lookAt_61 (by decide) ?_
  refine lv_aload_n hx hb dX8_lookAt_62 rfl (lv_at hl 1 rfl) ?_
  refine hg_getN hx hb hG igX10 hown hK o_c_13 rfl 5 (by decide) ((hK.2.1 _ nwf_126).use rfl) rfl dX8_lookAt_63 ?_
  refine lv_bipush (v := 7) hx hb dX8_lookAt_66 (by decide) ?_
  refine lv_irem hx hb dX8_lookAt_68 (by decide) ?_
  refine lv_topi (fun x_35 ex_35 => ?_)
  refine hg_iast hx hb hK hS o_c_23 (AF.of kq_10) (rg_in (n := 7) rl_5 (by decide) (by decide)) dX8_lookAt_69 (fun H locs o_c_23 hz oq hS => ?_)
  generalize hff_36 : upd f_34 _ x_35 = f_36 at o_c_23
  have hH : HT g Ty G H := hH.put kq_10 ⟨_, rfl⟩ o_c_23 oq
  have o_c_1 := o_c_1.kept (oq _ (ne_kd k_h0 kq_10 (by decide)))
  have o_c_13 := o_c_13.kept (oq _ (ne_kd k_b0 kq_10 (by decide)))
  clear oq hz
  refine lv_aload_n hx hb dX8_lookAt_70 rfl (lv_at hl 0 rfl) ?_
  refine hg_get hx hb hG igX8 hown hK o_c_1 rfl 8 (by decide) (hG _ mw_210) rfl dX8_lookAt_71 ?_
  refine lv_bipush (v := 6) hx hb dX8_lookAt_74 (by decide) ?_
  refine lv_aload_n hx hb dX8_lookAt_76 rfl (lv_at hl 1 rfl) ?_
  refine lv_iload_n hx hb dX8_lookAt_77 rfl (lv_at hl 2 rfl) ?_
  refine vp_callSi (W.runV (As := [.int a1]) (rest := [.int 6, .ref q_10]) ⟨hx, hb, hml, hown, hts⟩ (c_X10_kindOf l g Ty G b0 a1 k_b0) (cwV 1 hts (gwV mw_693 mw_694 mw_695 mw_77 mw_696) rfl rfl rfl hv_X10_kindOf ⟨Nat.le_of_ble_eq_true rfl, Nat.le_of_ble_eq_true rfl⟩) ⟨PcH_blind, hg_recv hK o_c_13 rfl, PcH_pre hK hH⟩ rfl rfl hl.1 rfl (lv_room (Nat.le_of_ble_eq_true rfl)) dX8_lookAt_78 ⟨Nat.zero_le _, Nat.zero_le _⟩) (fun x_37 hx_37 => ?_)
  refine hg_iast hx hb hK hS o_c_23 (AF.of kq_10) (rg_in (n := 7) rl_6 (by decide) (by decide)) dX8_lookAt_81 (fun H locs o_c_23 hz oq hS => ?_)
  generalize hff_38 : upd f_36 _ x_37 = f_38 at o_c_23
  have hH : HT g Ty G H := hH.put kq_10 ⟨_, rfl⟩ o_c_23 oq
  have o_c_1 := o_c_1.kept (oq _ (ne_kd k_h0 kq_10 (by decide)))
  have o_c_13 := o_c_13.kept (oq _ (ne_kd k_b0 kq_10 (by decide)))
  clear oq hz
  exact W.vret hx hb hr (fun t ht hWm => ⟨⟨(Ty, G), rfl, rfl, by show HT g Ty G t.heap; rw [ht]; exact hH⟩, hS.F ht⟩) hS.2.2 dX8_lookAt_82

set_option maxHeartbeats 4000000 in
set_option maxRecDepth 100000 in
theorem c_X8_letting_o (l : Launch) (g : Gx) (Ty : TyM) (G : Gh) (sz : Nat) (h0 : Nat) (b0 : Nat) (a1 : Int32) (k_h0 : Ty h0 = some (23, 0)) (k_b0 : Ty b0 = some (24, 0)) : Met l yX8_letting (wsG yX8_letting cX8_letting 5 (some .int)) ({ frames := 3, cells := 0, slots := 0, locals := 68 }) (PcT g Ty G sz [.ref h0, .ref b0, .int a1]) (QwI g Ty sz (fun r u => u = (Ty, G))) 0 0 (AF Ty sz) := by
  refine Met.ofW (cc := cX8_letting) (maxL := 5) (ret := (some .int)) (by decide) rfl ?_
  intro p e s m args below meth c s₁ B hml hv
  obtain ⟨rfl, hsz, hK, hH⟩ := hv
  subst hsz
  have hx := B.exec
  have hb := B.bytes
  have hr := B.returns
  have hts := atoms_spec (ws := (wsG yX8_letting cX8_letting 5 (some .int))) B.pre
  have hG : ∀ w ∈ GW, w.before ([.ref h0, .ref b0, .int a1] : List Value).toArray s = true := fun w h => hts w (List.mem_cons_of_mem _ h)
  have hown : s.vm.findClass RX8 = some m.cls := findClass_of_methodNamed B.named
  have hlocks := B.notSynchronized
  have hl := lv_entry [.ref h0, .ref b0, .int a1] (n := 5) (Nat.le_of_ble_eq_true rfl)
  rw [lg_entry_eq]
  generalize (lg_sl [.ref h0, .ref b0, .int a1] ++ List.replicate (5 - (lg_sl [.ref h0, .ref b0, .int a1]).length) Slot.unset).toArray = ls at hl ⊢
  have hl : lv_has ls 5 [(0, .ref h0), (1, .ref b0), (2, .int a1)] := hl
  have hS : va_S (AF Ty s.heap.size) s.heap s.heap [] := va_S.rf
  have L_17 : ∀ (n : Nat) (H : Heap) (locs : List Loc) (y3_17 : Int32) (y4_17 : Int32) (ls : Array Slot), rgI (0) (24) y4_17 → (24 - (y4_17).toInt).toNat < n → lv_has ls 5 [(0, .ref h0), (1, .ref b0), (2, .int a1), (3, .int y3_17), (4, .int y4_17)] → HT g Ty G H → va_S (AF Ty s.heap.size) s.heap H locs → Wm p l e (wsG yX8_letting cX8_letting 5 (some .int)) ({ frames := 3, cells := 0, slots := 0, locals := 68 }) s m [.ref h0, .ref b0, .int a1] below meth c H locs (0) (0) (QwI g Ty s.heap.size (fun r u => u = (Ty, G))) 0 0 (AF Ty s.heap.size) (F0 m 17 ls []) := by
    intro n
    induction n with
    | zero => intro H locs y3_17 y4_17 ls ry4_17 hm; exact absurd hm (Nat.not_lt_zero _)
    | succ n ih_17 =>
      intro H locs y3_17 y4_17 ls ry4_17 hm_17 hl hH hS
      have L_55 : ∀ (H : Heap) (locs : List Loc) (y3_55 : Int32) (ls : Array Slot), rgI (0) (23) y4_17 → lv_has ls 5 [(0, .ref h0), (1, .ref b0), (2, .int a1), (3, .int y3_55), (4, .int y4_17)] → HT g Ty G H → va_S (AF Ty s.heap.size) s.heap H locs → Wm p l e (wsG yX8_letting cX8_letting 5 (some .int)) ({ frames := 3, cells := 0, slots := 0, locals := 68 }) s m [.ref h0, .ref b0, .int a1] below meth c H locs (0) (0) (QwI g Ty s.heap.size (fun r u => u = (Ty, G))) 0 0 (AF Ty s.heap.size) (F0 m 55 ls []) := by
        intro H locs y3_55 ls ry4_55 hl hH hS
        obtain ⟨x_1, ex_1⟩ : ∃ y : Int32, y = y4_17 + 1 := ⟨_, rfl⟩
        have rx_1 : rgI (1) (24) x_1 := by rw [ex_1]; exact rg_w (rg_add ry4_55 rl_1 (by decide) (by decide)) (by decide) (by decide)
        have qx_1 : x_1.toInt = (y4_17 : Int32).toInt + 1 := by rw [ex_1]; exact rg_addE ry4_55 rl_1 (by decide) (by decide)
        refine lv_iinc (v := x_1) (lv' := [(4, .int x_1), (0, .ref h0), (1, .ref b0), (2, .int a1), (3, .int y3_55)]) hx hb dX8_letting_55 hl (k := 4) rfl (by rw [ex_1]; rfl) (by decide) rfl (fun ls hl => ?_)
        refine lv_goto (tgt := 17) hx hb dX8_letting_58 (by decide) ?_
        exact ih_17 H locs y3_55 x_1 ls (rg_w rx_1 (by decide) (by decide)) (by have h1 := qx_1; have h2 := ry4_55.1; have h3 := ry4_55.2; have h4 := hm_17; omega) (lv_sub hl [1, 2, 3, 4, 0] rfl) hH hS
      refine lv_iload hx hb dX8_letting_17 (lv_at hl 4 rfl) ?_
      refine lv_bipush (v := 24) hx hb dX8_letting_19 (by decide) ?_
      refine lv_icmp_ge (tgt := 61) hx hb dX8_letting_21 (by decide) (fun c_2 => ?_) (fun c_2 => ?_)
      · have r_3 : rgI (24) (24) y4_17 := rg_w (rg_leR rl_24 ry4_17 c_2) (by decide) (by decide)
        refine lv_iload_n hx hb dX8_letting_61 rfl (lv_at hl 3 rfl) ?_
        exact W.iret hx hb hr (fun t ht hWm => ⟨⟨y3_17, (Ty, G), rfl, rfl, by show HT g Ty G t.heap; rw [ht]; exact hH⟩, hS.F ht⟩) hS.2.2 dX8_letting_62
      · have r_4 : rgI (0) (23) y4_17 := rg_w (rg_ltL ry4_17 rl_24 (nle_lt c_2)) (by decide) (by decide)
        refine lv_aload_n hx hb dX8_letting_24 rfl (lv_at hl 1 rfl) ?_
        refine lv_iload hx hb dX8_letting_25 (lv_at hl 4 rfl) ?_
        obtain ⟨_, ⟨rfl, kq_6, kq_7, kq_8, t_13⟩, o_c_5⟩ := hH b0 _ k_b0
        refine vp_callSi (W.runV (As := [.int y4_17]) (rest := []) ⟨hx, hb, hml, hown, hts⟩ (c_X10_has l g Ty G b0 y4_17 k_b0) (cwV 1 hts (gwV mw_673 mw_604 mw_605 mw_77 mw_606) rfl rfl rfl hv_X10_has ⟨Nat.le_of_ble_eq_true rfl, Nat.le_of_ble_eq_true rfl⟩) ⟨PcH_blind, hg_recv hK o_c_5 rfl, PcH_pre hK hH⟩ rfl rfl hl.1 rfl (lv_room (Nat.le_of_ble_eq_true rfl)) dX8_letting_27 ⟨Nat.zero_le _, Nat.zero_le _⟩) (fun x_14 hx_14 => ?_)
        have rx_14 : rgI (0) (1) x_14 := hx_14.1
        refine lv_if_eq (tgt := 55) hx hb dX8_letting_30 (by decide) (fun c_15 => ?_) (fun c_15 => ?_)
        · have r_16 : rgI (0) (0) x_14 := rg_w (rg_eq rl_0 c_15) (by decide) (by decide)
          exact L_55 H locs y3_17 ls r_4 (lv_sub hl [0, 1, 2, 3, 4] rfl) hH hS
        · have r_17 : rgI (1) (1) x_14 := rg_w (rg_neL rx_14 rl_0 c_15) (by decide) (by decide)
          refine lv_aload_n hx hb dX8_letting_33 rfl (lv_at hl 0 rfl) ?_
          refine lv_aload_n hx hb dX8_letting_34 rfl (lv_at hl 1 rfl) ?_
          refine lv_iload hx hb dX8_letting_35 (lv_at hl 4 rfl) ?_
          refine lv_iload_n hx hb dX8_letting_37 rfl (lv_at hl 2 rfl) ?_
          obtain ⟨_, ⟨q_19, q_20, q_23, q_24, q_26, q_27, q_28, rfl, kq_19, kq_21, kq_27, kq_28, rq_20, rq_23, t_29⟩, o_c_18⟩ := hH h0 _ k_h0
          refine va_callv (va_runV (As := [.ref b0, .int y4_17, .int a1]) (rest := []) ⟨hx, hb, hml, hown, hts⟩ (c_X8_lookAt_o l g Ty G H.size h0 b0 y4_17 a1 k_h0 k_b0) (cwV 3 hts (gwV mw_674 mw_676 mw_9 mw_81 mw_677) rfl rfl rfl hv_X8_lookAt ⟨Nat.le_of_ble_eq_true rfl, Nat.le_of_ble_eq_true rfl⟩) ⟨PcT_blind, hg_recv hK o_c_18 rfl, PcT_pre hK hH⟩ rfl rfl hl.1 rfl (lv_room (Nat.le_of_ble_eq_true rfl)) dX8_letting_38 ⟨Nat.zero_le _, Nat.zero_le _⟩) hS (fun q _ h => AF.mono hS.1 h) (fun q h => AF.mono hS.1 h) (fun ux_30 t H locs ht hvm hx_30 hB hz hk hS => ?_)
          have hH : HT g Ty G H := by rw [← ht]; rw [hx_30] at hB; exact hB
          refine lv_aload_n hx hb dX8_letting_41 rfl (lv_at hl 0 rfl) ?_
          obtain ⟨_, ⟨q_32, q_33, q_36, q_37, q_39, q_40, q_41, rfl, kq_32, kq_34, kq_40, kq_41, rq_33, rq_36, t_42⟩, o_c_31⟩ := hH h0 _ k_h0
          refine va_calli (va_runV (As := []) (rest := []) ⟨hx, hb, hml, hown, hts⟩ (c_X8_value_o l g Ty G H.size h0 k_h0) (cwV 0 hts (gwV mw_697 mw_699 mw_10 mw_81 mw_700) rfl rfl rfl hv_X8_value ⟨Nat.le_of_ble_eq_true rfl, Nat.le_of_ble_eq_true rfl⟩) ⟨PcT_blind, hg_recv hK o_c_31 rfl, PcT_pre hK hH⟩ rfl rfl hl.1 rfl (lv_room (Nat.le_of_ble_eq_true rfl)) dX8_letting_42 ⟨Nat.zero_le _, Nat.zero_le _⟩) hS (fun q _ h => AF.mono hS.1 h) (fun q h => AF.mono hS.1 h) (fun x_43 ux_43 t H locs ht hvm hx_43 hB hz hk hS => ?_)
          have hH : HT g Ty G H := by rw [← ht]; rw [hx_43] at hB; exact hB
          refine lv_if_le (tgt := 55) hx hb dX8_letting_45 (by decide) (fun c_44 => ?_) (fun c_44 => ?_)
          · have r_45 : rgI (-2147483648) (0) x_43 := rg_w (rg_leL (rg_top x_43) rl_0 c_44) (by decide) (by decide)
            exact L_55 H locs y3_17 ls r_4 (lv_sub hl [0, 1, 2, 3, 4] rfl) hH hS
          · have r_46 : rgI (1) (2147483647) x_43 := rg_w (rg_ltR rl_0 (rg_top x_43) (nle_lt c_44)) (by decide) (by decide)
            refine lv_iload_n hx hb dX8_letting_48 rfl (lv_at hl 3 rfl) ?_
            refine lv_iconst (v := 1) hx hb dX8_letting_49 (by decide) ?_
            refine lv_iload hx hb dX8_letting_50 (lv_at hl 4 rfl) ?_
            refine lv_ishl hx hb dX8_letting_52 ?_
            refine lv_topi (fun x_47 ex_47 => ?_)
            refine lv_ior hx hb dX8_letting_53 ?_
            refine lv_topi (fun x_48 ex_48 => ?_)
            refine lv_istore_n (lv' := [(3, .int x_48), (0, .ref h0), (1, .ref b0), (2, .int a1), (4, .int y4_17)]) hx hb dX8_letting_54 rfl hl (by decide) rfl (fun ls hl => ?_)
            exact L_55 H locs x_48 ls r_4 (lv_sub hl [1, 2, 3, 0, 4] rfl) hH hS
  refine lv_aload_n hx hb dX8_letting_0 rfl (lv_at hl 0 rfl) ?_
  obtain ⟨_, ⟨q_50, q_51, q_54, q_55, q_57, q_58, q_59, rfl, kq_50, kq_52, kq_58, kq_59, rq_51, rq_54, t_60⟩, o_c_49⟩ := hH h0 _ k_h0
  refine hg_get hx hb hG igX8 hown hK o_c_49 rfl 1 (by decide) (hG _ mw_203) rfl dX8_letting_1 ?_
  refine lv_if_ne (tgt := 12) hx hb dX8_letting_4 (by decide) (fun c_61 => ?_) (fun c_61 => ?_)
  · have r_62 : rgI (1) (40) q_51 := rg_w (rg_neL rq_51 rl_0 c_61) (by decide) (by decide)
    refine lv_iconst (v := 0) hx hb dX8_letting_12 (by decide) ?_
    refine lv_istore_n (lv' := [(3, .int 0), (0, .ref h0), (1, .ref b0), (2, .int a1)]) hx hb dX8_letting_13 rfl hl (by decide) rfl (fun ls hl => ?_)
    refine lv_iconst (v := 0) hx hb dX8_letting_14 (by decide) ?_
    refine lv_istore (lv' := [(4, .int 0), (3, .int 0), (0, .ref h0), (1, .ref b0), (2, .int a1)]) hx hb dX8_letting_15 hl (by decide) rfl (fun ls hl => ?_)
    exact L_17 _ s.heap [] 0 0 ls (rg_w rl_0 (by decide) (by decide)) (Nat.lt_succ_self _) (lv_sub hl [2, 3, 4, 1, 0] rfl) hH hS
  · have r_63 : rgI (0) (0) q_51 := rg_w (rg_eq rl_0 c_61) (by decide) (by decide)
    refine lv_aload_n hx hb dX8_letting_7 rfl (lv_at hl 1 rfl) ?_
    obtain ⟨_, ⟨rfl, kq_65, kq_66, kq_67, t_72⟩, o_c_64⟩ := hH b0 _ k_b0
    refine hg_getN hx hb hG igX10 hown hK o_c_64 rfl 3 (by decide) ((hK.2.1 _ nwf_120).use rfl) rfl dX8_letting_8 ?_
    exact W.iret hx hb hr (fun t ht hWm => ⟨⟨(G.1 20), (Ty, G), rfl, rfl, by show HT g Ty G t.heap; rw [ht]; exact hH⟩, hS.F ht⟩) hS.2.2 dX8_letting_11

set_option maxHeartbeats 4000000 in
set_option maxRecDepth 100000 in
theorem c_X0_parentsBy_o (l : Launch) (g : Gx) (Ty : TyM) (G : Gh) (sz : Nat) (h0 : Nat) (b0 : Nat) (a1 : Int32) (a2 : Int32) (k_h0 : Ty h0 = some (10, 0)) (k_b0 : Ty b0 = some (23, 0)) (pr1 : rgI (0) (0) a1) (pr2 : rgI (0) (3) a2) (h20 : G.1 20 = 1) (hp70 : G.2.1 (g.2.2 70) = P0) (hp71 : G.2.1 (g.2.2 71) = Z0) (hp72 : G.2.1 (g.2.2 72) = Z0) : Met l yX0_parentsBy (wsG yX0_parentsBy cX0_parentsBy 6 (some .int)) ({ frames := 4, cells := 0, slots := 0, locals := 92 }) (PcT g Ty G sz [.ref h0, .ref b0, .int a1, .int a2]) (QwI g Ty sz (fun r u => (rgI (1) (1) r) ∧ u = (Ty, G))) 0 0 (AF Ty sz) := by
  refine Met.ofW (cc := cX0_parentsBy) (maxL := 6) (ret := (some .int)) (by decide) rfl ?_
  intro p e s m args below meth c s₁ B hml hv
  obtain ⟨rfl, hsz, hK, hH⟩ := hv
  subst hsz
  have hx := B.exec
  have hb := B.bytes
  have hr := B.returns
  have hts := atoms_spec (ws := (wsG yX0_parentsBy cX0_parentsBy 6 (some .int))) B.pre
  have hG : ∀ w ∈ GW, w.before ([.ref h0, .ref b0, .int a1, .int a2] : List Value).toArray s = true := fun w h => hts w (List.mem_cons_of_mem _ h)
  have hown : s.vm.findClass RX0 = some m.cls := findClass_of_methodNamed B.named
  have hlocks := B.notSynchronized
  have hl := lv_entry [.ref h0, .ref b0, .int a1, .int a2] (n := 6) (Nat.le_of_ble_eq_true rfl)
  rw [lg_entry_eq]
  generalize (lg_sl [.ref h0, .ref b0, .int a1, .int a2] ++ List.replicate (6 - (lg_sl [.ref h0, .ref b0, .int a1, .int a2]).length) Slot.unset).toArray = ls at hl ⊢
  have hl : lv_has ls 6 [(0, .ref h0), (1, .ref b0), (2, .int a1), (3, .int a2)] := hl
  have hS : va_S (AF Ty s.heap.size) s.heap s.heap [] := va_S.rf
  refine lv_aload_n hx hb dX0_parentsBy_0 rfl (lv_at hl 0 rfl) ?_
  obtain ⟨_, ⟨rfl, kq_2, kq_3, kq_4⟩, o_c_1⟩ := hH h0 _ k_h0
  refine hg_get hx hb hG igX0 hown hK o_c_1 rfl 0 (by decide) (hG _ mw_239) rfl dX0_parentsBy_1 ?_
  refine lv_iload_n hx hb dX0_parentsBy_4 rfl (lv_at hl 2 rfl) ?_
  refine lv_iload_n hx hb dX0_parentsBy_5 rfl (lv_at hl 3 rfl) ?_
  obtain ⟨_, ⟨rfl, kq_6, kq_7, kq_8, t_13⟩, o_c_5⟩ := hH (g.2.2 0) _ kq_2
  refine vp_callSi (W.runV (As := [.int a1, .int a2]) (rest := []) ⟨hx, hb, hml, hown, hts⟩ (c_X10_hasPlace l g Ty G (g.2.2 0) a1 a2 kq_2) (cwV 2 hts (gwV mw_640 mw_641 mw_642 mw_77 mw_643) rfl rfl rfl hv_X10_hasPlace ⟨Nat.le_of_ble_eq_true rfl, Nat.le_of_ble_eq_true rfl⟩) ⟨PcH_blind, hg_recv hK o_c_5 rfl, PcH_pre hK hH⟩ rfl rfl hl.1 rfl (lv_room (Nat.le_of_ble_eq_true rfl)) dX0_parentsBy_6 ⟨Nat.zero_le _, Nat.zero_le _⟩) (fun x_14 hx_14 => ?_)
  have rx_14 : rgI (0) (1) x_14 := hx_14.1
  have ex_15 : x_14 = F_X10_hasPlace 1 a1 a2 := hx_14.2.2.trans (by rw [h20])
  try rw [← ex_15] at hv
  have fz_16 : rgI (1) (1) x_14 := by rw [ex_15]; exact (fz_hp1 pr1 pr2)
  refine lv_if_ne (tgt := 14) hx hb dX0_parentsBy_9 (by decide) (fun c_17 => ?_) (fun c_17 => ?_)
  · refine lv_aload_n hx hb dX0_parentsBy_14 rfl (lv_at hl 0 rfl) ?_
    refine hg_get hx hb hG igX0 hown hK o_c_1 rfl 0 (by decide) (hG _ mw_239) rfl dX0_parentsBy_15 ?_
    refine lv_iload_n hx hb dX0_parentsBy_18 rfl (lv_at hl 3 rfl) ?_
    refine vp_callSi (W.runV (As := [.int a2]) (rest := []) ⟨hx, hb, hml, hown, hts⟩ (c_X10_takenAt l g Ty G (g.2.2 0) a2 kq_2) (cwV 1 hts (gwV mw_645 mw_646 mw_647 mw_77 mw_648) rfl rfl rfl hv_X10_takenAt ⟨Nat.le_of_ble_eq_true rfl, Nat.le_of_ble_eq_true rfl⟩) ⟨PcH_blind, hg_recv hK o_c_5 rfl, PcH_pre hK hH⟩ rfl rfl hl.1 rfl (lv_room (Nat.le_of_ble_eq_true rfl)) dX0_parentsBy_19 ⟨Nat.zero_le _, Nat.zero_le _⟩) (fun x_18 hx_18 => ?_)
    have ex_19 : x_18 = F_X10_takenAt P0 a2 := hx_18.trans (by rw [hp70])
    try rw [← ex_19] at hv
    have fz_20 : rgI (0) (0) x_18 := by rw [ex_19]; exact fz_takenAt
    refine lv_istore (lv' := [(4, .int x_18), (0, .ref h0), (1, .ref b0), (2, .int a1), (3, .int a2)]) hx hb dX0_parentsBy_22 hl (by decide) rfl (fun ls hl => ?_)
    refine lv_iload hx hb dX0_parentsBy_24 (lv_at hl 0 rfl) ?_
    refine lv_iconst (v := 1) hx hb dX0_parentsBy_26 (by decide) ?_
    refine lv_iload_n hx hb dX0_parentsBy_27 rfl (lv_at hl 3 rfl) ?_
    refine lv_ishl hx hb dX0_parentsBy_28 ?_
    refine lv_topi (fun x_21 ex_21 => ?_)
    refine lv_iand hx hb dX0_parentsBy_29 ?_
    refine lv_topi (fun x_22 ex_22 => ?_)
    have pb0 : rgI 0 0 x_22 := by rw [ex_22]; exact and_z0 fz_20
    refine lv_if_eq (tgt := 36) hx hb dX0_parentsBy_30 (by decide) (fun c_23 => ?_) (fun c_23 => ?_)
    · refine lv_aload_n hx hb dX0_parentsBy_36 rfl (lv_at hl 1 rfl) ?_
      refine hg_get hx hb hG igX0 hown hK o_c_1 rfl 0 (by decide) (hG _ mw_239) rfl dX0_parentsBy_37 ?_
      refine lv_iload_n hx hb dX0_parentsBy_40 rfl (lv_at hl 3 rfl) ?_
      refine vp_callSi (W.runV (As := [.int a1]) (rest := []) ⟨hx, hb, hml, hown, hts⟩ (c_X10_spreadOf l g Ty G (g.2.2 0) a1 kq_2) (cwV 1 hts (gwV mw_649 mw_650 mw_651 mw_77 mw_652) rfl rfl rfl hv_X10_spreadOf ⟨Nat.le_of_ble_eq_true rfl, Nat.le_of_ble_eq_true rfl⟩) ⟨PcH_blind, hg_recv hK o_c_5 rfl, PcH_pre hK hH⟩ rfl rfl hl.1 rfl (lv_room (Nat.le_of_ble_eq_true rfl)) dX0_parentsBy_41 ⟨Nat.zero_le _, Nat.zero_le _⟩) (fun x_24 hx_24 => ?_)
      have ex_25 : x_24 = F_X10_spreadOf Z0 Z0 a1 := hx_24.trans (by rw [hp71, hp72])
      try rw [← ex_25] at hv
      have fz_26 : rgI (1) (1) x_24 := by rw [ex_25]; exact (fz_spreadOf pr1)
      refine lv_aload_n hx hb dX0_parentsBy_44 rfl (lv_at hl 2 rfl) ?_
      refine lv_aload_n hx hb dX0_parentsBy_45 rfl (lv_at hl 1 rfl) ?_
      refine hg_get hx hb hG igX0 hown hK o_c_1 rfl 0 (by decide) (hG _ mw_239) rfl dX0_parentsBy_46 ?_
      refine lv_iload_n hx hb dX0_parentsBy_49 rfl (lv_at hl 4 rfl) ?_
      obtain ⟨_, ⟨q_28, q_29, q_32, q_33, q_35, q_36, q_37, rfl, kq_28, kq_30, kq_36, kq_37, rq_29, rq_32, t_38⟩, o_c_27⟩ := hH b0 _ k_b0
      refine va_calli (va_runV (As := [.ref (g.2.2 0), .int a2]) (rest := [.int x_24]) ⟨hx, hb, hml, hown, hts⟩ (c_X8_letting_o l g Ty G s.heap.size b0 (g.2.2 0) a2 k_b0 kq_2) (cwV 2 hts (gwV mw_669 mw_670 mw_671 mw_81 mw_672) rfl rfl rfl hv_X8_letting ⟨Nat.le_of_ble_eq_true rfl, Nat.le_of_ble_eq_true rfl⟩) ⟨PcT_blind, hg_recv hK o_c_27 rfl, PcT_pre hK hH⟩ rfl rfl hl.1 rfl (lv_room (Nat.le_of_ble_eq_true rfl)) dX0_parentsBy_50 ⟨Nat.zero_le _, Nat.zero_le _⟩) hS (fun q _ h => AF.mono hS.1 h) (fun q h => AF.mono hS.1 h) (fun x_39 ux_39 t H locs ht hvm hx_39 hB hz hk hS => ?_)
      have hH : HT g Ty G H := by rw [← ht]; rw [hx_39] at hB; exact hB
      refine lv_iand hx hb dX0_parentsBy_53 ?_
      refine lv_topi (fun x_40 ex_40 => ?_)
      refine lv_iload hx hb dX0_parentsBy_54 (lv_at hl 0 rfl) ?_
      refine lv_iconst (v := (-1)) hx hb dX0_parentsBy_56 (by decide) ?_
      refine lv_ixor hx hb dX0_parentsBy_57 ?_
      refine lv_topi (fun x_41 ex_41 => ?_)
      refine lv_iand hx hb dX0_parentsBy_58 ?_
      refine lv_topi (fun x_42 ex_42 => ?_)
      refine lv_iconst (v := 1) hx hb dX0_parentsBy_59 (by decide) ?_
      refine lv_iload_n hx hb dX0_parentsBy_60 rfl (lv_at hl 3 rfl) ?_
      refine lv_ishl hx hb dX0_parentsBy_61 ?_
      refine lv_topi (fun x_43 ex_43 => ?_)
      refine lv_ior hx hb dX0_parentsBy_62 ?_
      refine lv_topi (fun x_44 ex_44 => ?_)
      have pb1 : rgI 1 1 x_44 := pb_one ex_44 ex_42 ex_40 ex_43 fz_26 pr1
      refine lv_istore (lv' := [(5, .int x_44), (4, .int x_18), (0, .ref h0), (1, .ref b0), (2, .int a1), (3, .int a2)]) hx hb dX0_parentsBy_63 hl (by decide) rfl (fun ls hl => ?_)
      refine lv_aload_n hx hb dX0_parentsBy_65 rfl (lv_at hl 2 rfl) ?_
      obtain ⟨_, ⟨rfl, kq_46, kq_47, kq_48⟩, o_c_45⟩ := hH h0 _ k_h0
      refine hg_get hx hb hG igX0 hown hK o_c_45 rfl 0 (by decide) (hG _ mw_239) rfl dX0_parentsBy_66 ?_
      obtain ⟨_, ⟨rfl, kq_50, kq_51, kq_52, t_57⟩, o_c_49⟩ := hH (g.2.2 0) _ kq_46
      refine vp_callSi (W.runV (As := []) (rest := []) ⟨hx, hb, hml, hown, hts⟩ (c_X10_size l g Ty G (g.2.2 0) kq_46) (cwV 0 hts (gwV mw_708 mw_709 mw_710 mw_77 mw_711) rfl rfl rfl hv_X10_size ⟨Nat.le_of_ble_eq_true rfl, Nat.le_of_ble_eq_true rfl⟩) ⟨PcH_blind, hg_recv hK o_c_49 rfl, PcH_pre hK hH⟩ rfl rfl hl.1 rfl (lv_room (Nat.le_of_ble_eq_true rfl)) dX0_parentsBy_69 ⟨Nat.zero_le _, Nat.zero_le _⟩) (fun x_58 hx_58 => ?_)
      have ex_59 : x_58 = F_X10_size 1 := hx_58.trans (by rw [h20])
      try rw [← ex_59] at hv
      have fz_60 : rgI (1) (1) x_58 := by rw [ex_59]; exact fz_size
      refine lv_iload hx hb dX0_parentsBy_72 (lv_at hl 0 rfl) ?_
      refine vp_callSi (W.runS (As := [.int x_44]) (rest := [.int x_58]) ⟨hx, hb, hml, hown, hts⟩ (c_J6_bitCount_x l g Ty G x_44 ) (cwSx 1 hts hG (gwC mw_620) mw_99 mw_713 mw_619 rfl rfl rfl hd_J6_bitCount_0f7a4 ⟨Nat.le_of_ble_eq_true rfl, Nat.le_of_ble_eq_true rfl⟩) ⟨PcH_blind, PcH_pre hK hH⟩ rfl rfl hl.1 rfl (lv_room (Nat.le_of_ble_eq_true rfl)) dX0_parentsBy_74 ⟨Nat.zero_le _, Nat.zero_le _⟩) (fun x_61 hx_61 => ?_)
      have rx_61 : rgI (0) (63) x_61 := hx_61.1
      try rw [← hx_61.2] at hv
      have fz_62 : rgI (1) (1) x_61 := by rw [hx_61.2]; exact (fz_bc1 pb1)
      refine lv_iadd hx hb dX0_parentsBy_77 ?_
      refine lv_topi (fun x_63 ex_63 => ?_)
      have rx_63 : rgI (2) (2) x_63 := by rw [ex_63]; exact rg_w (rg_add fz_60 fz_62 (by decide) (by decide)) (by decide) (by decide)
      refine lv_bipush (v := 24) hx hb dX0_parentsBy_78 (by decide) ?_
      refine lv_icmp_le (tgt := 88) hx hb dX0_parentsBy_80 (by decide) (fun c_64 => ?_) (fun c_64 => ?_)
      · refine lv_iload hx hb dX0_parentsBy_88 (lv_at hl 0 rfl) ?_
        exact W.iret hx hb hr (fun t ht hWm => ⟨⟨x_44, (Ty, G), rfl, ⟨rg_w pb1 (by decide) (by decide), rfl⟩, by show HT g Ty G t.heap; rw [ht]; exact hH⟩, hS.F ht⟩) hS.2.2 dX0_parentsBy_90
      · exact rg_no rl_24 rx_63 (nle_lt c_64) (by decide)
    · exact absurd (rg_one pb0 rl_0) c_23
  · exact rg_noE fz_16 rl_0 c_17 (by decide)

set_option maxHeartbeats 4000000 in
set_option maxRecDepth 100000 in
theorem c_X11_broughtBy_o (l : Launch) (g : Gx) (Ty : TyM) (G : Gh) (sz : Nat) (h0 : Nat) (b0 : Nat) (a1 : Int32) (a2 : Int32) (k_h0 : Ty h0 = some (21, 0)) (k_b0 : Ty b0 = some (23, 0)) (pr1 : rgI (0) (0) a1) (pr2 : rgI (0) (3) a2) (h20 : G.1 20 = 1) (hp70 : G.2.1 (g.2.2 70) = P0) (hp71 : G.2.1 (g.2.2 71) = Z0) (hp72 : G.2.1 (g.2.2 72) = Z0) : Met l yX11_broughtBy (wsG yX11_broughtBy cX11_broughtBy 5 (some .int)) ({ frames := 5, cells := 0, slots := 0, locals := 117 }) (PcT g Ty G sz [.ref h0, .ref b0, .int a1, .int a2]) (QwI g Ty sz (fun r u => (rgI (1) (1) r) ∧ u = (Ty, G))) 0 0 (AF Ty sz) := by
  refine Met.ofW (cc := cX11_broughtBy) (maxL := 5) (ret := (some .int)) (by decide) rfl ?_
  intro p e s m args below meth c s₁ B hml hv
  obtain ⟨rfl, hsz, hK, hH⟩ := hv
  subst hsz
  have hx := B.exec
  have hb := B.bytes
  have hr := B.returns
  have hts := atoms_spec (ws := (wsG yX11_broughtBy cX11_broughtBy 5 (some .int))) B.pre
  have hG : ∀ w ∈ GW, w.before ([.ref h0, .ref b0, .int a1, .int a2] : List Value).toArray s = true := fun w h => hts w (List.mem_cons_of_mem _ h)
  have hown : s.vm.findClass RX11 = some m.cls := findClass_of_methodNamed B.named
  have hlocks := B.notSynchronized
  have hl := lv_entry [.ref h0, .ref b0, .int a1, .int a2] (n := 5) (Nat.le_of_ble_eq_true rfl)
  rw [lg_entry_eq]
  generalize (lg_sl [.ref h0, .ref b0, .int a1, .int a2] ++ List.replicate (5 - (lg_sl [.ref h0, .ref b0, .int a1, .int a2]).length) Slot.unset).toArray = ls at hl ⊢
  have hl : lv_has ls 5 [(0, .ref h0), (1, .ref b0), (2, .int a1), (3, .int a2)] := hl
  have hS : va_S (AF Ty s.heap.size) s.heap s.heap [] := va_S.rf
  refine lv_aload_n hx hb dX11_broughtBy_0 rfl (lv_at hl 0 rfl) ?_
  obtain ⟨_, ⟨rfl, kq_2, kq_3, kq_4, kq_5, kq_6, kq_7, kq_8, kq_9, kq_10, kq_11, kq_12, kq_13, kq_14, kq_15, t_17⟩, o_c_1⟩ := hH h0 _ k_h0
  refine hg_get hx hb hG igX11 hown hK o_c_1 rfl 8 (by decide) (hG _ mw_365) rfl dX11_broughtBy_1 ?_
  refine lv_aload_n hx hb dX11_broughtBy_4 rfl (lv_at hl 1 rfl) ?_
  refine lv_iload_n hx hb dX11_broughtBy_5 rfl (lv_at hl 2 rfl) ?_
  refine lv_iload_n hx hb dX11_broughtBy_6 rfl (lv_at hl 3 rfl) ?_
  obtain ⟨_, ⟨rfl, kq_19, kq_20, kq_21⟩, o_c_18⟩ := hH (g.2.2 8) _ kq_10
  refine va_calli (va_runV (As := [.ref b0, .int a1, .int a2]) (rest := []) ⟨hx, hb, hml, hown, hts⟩ (c_X0_parentsBy_o l g Ty G s.heap.size (g.2.2 8) b0 a1 a2 kq_10 k_b0 (rg_w pr1 (by decide) (by decide)) (rg_w pr2 (by decide) (by decide)) h20 hp70 hp71 hp72) (cwV 3 hts (gwV mw_994 mw_637 mw_638 mw_82 mw_639) rfl rfl rfl hv_X0_parentsBy ⟨Nat.le_of_ble_eq_true rfl, Nat.le_of_ble_eq_true rfl⟩) ⟨PcT_blind, hg_recv hK o_c_18 rfl, PcT_pre hK hH⟩ rfl rfl hl.1 rfl (lv_room (Nat.le_of_ble_eq_true rfl)) dX11_broughtBy_7 ⟨Nat.zero_le _, Nat.zero_le _⟩) hS (fun q _ h => AF.mono hS.1 h) (fun q h => AF.mono hS.1 h) (fun x_22 ux_22 t H locs ht hvm hx_22 hB hz hk hS => ?_)
  obtain ⟨hx_22, fx_22⟩ := hx_22
  have hH : HT g Ty G H := by rw [← ht]; rw [fx_22] at hB; exact hB
  have rx_22 : rgI (1) (1) x_22 := hx_22
  have ecx_22 : x_22 = (1 : Int32) := rg_is (n := 1) rx_22 rfl
  rw [ecx_22]
  refine lv_istore (lv' := [(4, .int 1), (0, .ref h0), (1, .ref b0), (2, .int a1), (3, .int a2)]) hx hb dX11_broughtBy_10 hl (by decide) rfl (fun ls hl => ?_)
  refine lv_iload hx hb dX11_broughtBy_12 (lv_at hl 0 rfl) ?_
  refine lv_if_ge (tgt := 21) hx hb dX11_broughtBy_14 (by decide) (fun c_23 => ?_) (fun c_23 => ?_)
  · refine lv_iload hx hb dX11_broughtBy_21 (lv_at hl 0 rfl) ?_
    refine vp_callSi (W.runS (As := [.int 1]) (rest := []) ⟨hx, hb, hml, hown, hts⟩ (c_J6_bitCount_x l g Ty G 1 ) (cwSx 1 hts hG (gwC mw_620) mw_99 mw_618 mw_619 rfl rfl rfl hd_J6_bitCount_0f7a4 ⟨Nat.le_of_ble_eq_true rfl, Nat.le_of_ble_eq_true rfl⟩) ⟨PcH_blind, PcH_pre hK hH⟩ rfl rfl hl.1 rfl (lv_room (Nat.le_of_ble_eq_true rfl)) dX11_broughtBy_23 ⟨Nat.zero_le _, Nat.zero_le _⟩) (fun x_24 hx_24 => ?_)
    have rx_24 : rgI (0) (63) x_24 := hx_24.1
    try rw [← hx_24.2] at hv
    have fz_25 : rgI (1) (1) x_24 := by rw [hx_24.2]; exact (fz_bc1 rl_1)
    exact W.iret hx hb hr (fun t ht hWm => ⟨⟨x_24, (Ty, G), rfl, ⟨rg_w fz_25 (by decide) (by decide), rfl⟩, by show HT g Ty G t.heap; rw [ht]; exact hH⟩, hS.F ht⟩) hS.2.2 dX11_broughtBy_26
  · exact rg_no rl_1 rl_0 (nle_lt c_23) (by decide)

set_option maxHeartbeats 4000000 in
set_option maxRecDepth 100000 in
theorem c_X11_broughtBy (l : Launch) (g : Gx) (Ty : TyM) (G : Gh) (sz : Nat) (h0 : Nat) (b0 : Nat) (a1 : Int32) (a2 : Int32) (k_h0 : Ty h0 = some (21, 0)) (k_b0 : Ty b0 = some (18, 0)) (pr1 : rgI (0) (0) a1) (pr2 : rgI (0) (3) a2) (h20 : G.1 20 = 1) (h24 : G.1 24 = 0) (hp70 : G.2.1 (g.2.2 70) = P0) (hp71 : G.2.1 (g.2.2 71) = Z0) (hp72 : G.2.1 (g.2.2 72) = Z0) : Met l yX11_broughtBy (wsG yX11_broughtBy cX11_broughtBy 5 (some .int)) ({ frames := 5, cells := 0, slots := 0, locals := 117 }) (PcT g Ty G sz [.ref h0, .ref b0, .int a1, .int a2]) (QwI g Ty sz (fun r u => (rgI (1) (1) r) ∧ u = (Ty, G))) 0 0 (AF Ty sz) := by
  refine Met.ofW (cc := cX11_broughtBy) (maxL := 5) (ret := (some .int)) (by decide) rfl ?_
  intro p e s m args below meth c s₁ B hml hv
  obtain ⟨rfl, hsz, hK, hH⟩ := hv
  subst hsz
  have hx := B.exec
  have hb := B.bytes
  have hr := B.returns
  have hts := atoms_spec (ws := (wsG yX11_broughtBy cX11_broughtBy 5 (some .int))) B.pre
  have hG : ∀ w ∈ GW, w.before ([.ref h0, .ref b0, .int a1, .int a2] : List Value).toArray s = true := fun w h => hts w (List.mem_cons_of_mem _ h)
  have hown : s.vm.findClass RX11 = some m.cls := findClass_of_methodNamed B.named
  have hlocks := B.notSynchronized
  have hl := lv_entry [.ref h0, .ref b0, .int a1, .int a2] (n := 5) (Nat.le_of_ble_eq_true rfl)
  rw [lg_entry_eq]
  generalize (lg_sl [.ref h0, .ref b0, .int a1, .int a2] ++ List.replicate (5 - (lg_sl [.ref h0, .ref b0, .int a1, .int a2]).length) Slot.unset).toArray = ls at hl ⊢
  have hl : lv_has ls 5 [(0, .ref h0), (1, .ref b0), (2, .int a1), (3, .int a2)] := hl
  have hS : va_S (AF Ty s.heap.size) s.heap s.heap [] := va_S.rf
  refine lv_aload_n hx hb dX11_broughtBy_0 rfl (lv_at hl 0 rfl) ?_
  obtain ⟨_, ⟨rfl, kq_2, kq_3, kq_4, kq_5, kq_6, kq_7, kq_8, kq_9, kq_10, kq_11, kq_12, kq_13, kq_14, kq_15, t_17⟩, o_c_1⟩ := hH h0 _ k_h0
  refine hg_get hx hb hG igX11 hown hK o_c_1 rfl 8 (by decide) (hG _ mw_365) rfl dX11_broughtBy_1 ?_
  refine lv_aload_n hx hb dX11_broughtBy_4 rfl (lv_at hl 1 rfl) ?_
  refine lv_iload_n hx hb dX11_broughtBy_5 rfl (lv_at hl 2 rfl) ?_
  refine lv_iload_n hx hb dX11_broughtBy_6 rfl (lv_at hl 3 rfl) ?_
  obtain ⟨_, ⟨rfl, kq_19, kq_20, kq_21⟩, o_c_18⟩ := hH (g.2.2 8) _ kq_10
  refine vp_callSi (W.runV (As := [.ref b0, .int a1, .int a2]) (rest := []) ⟨hx, hb, hml, hown, hts⟩ (c_X0_parentsBy l g Ty G (g.2.2 8) b0 a1 a2 kq_10 k_b0 h24) (cwV 3 hts (gwV mw_994 mw_637 mw_638 mw_82 mw_639) rfl rfl rfl hv_X0_parentsBy ⟨Nat.le_of_ble_eq_true rfl, Nat.le_of_ble_eq_true rfl⟩) ⟨PcH_blind, hg_recv hK o_c_18 rfl, PcH_pre hK hH⟩ rfl rfl hl.1 rfl (lv_room (Nat.le_of_ble_eq_true rfl)) dX11_broughtBy_7 ⟨Nat.zero_le _, Nat.zero_le _⟩) (fun x_22 hx_22 => ?_)
  have ex_23 : x_22 = F_X0_parentsBy P0 Z0 Z0 1 a1 a2 := hx_22.trans (by rw [hp70, hp71, hp72, h20])
  try rw [← ex_23] at hv
  have fz_24 : rgI (1) (1) x_22 := by rw [ex_23]; exact (fz_parentsBy pr1 pr2)
  refine lv_istore (lv' := [(4, .int x_22), (0, .ref h0), (1, .ref b0), (2, .int a1), (3, .int a2)]) hx hb dX11_broughtBy_10 hl (by decide) rfl (fun ls hl => ?_)
  refine lv_iload hx hb dX11_broughtBy_12 (lv_at hl 0 rfl) ?_
  refine lv_if_ge (tgt := 21) hx hb dX11_broughtBy_14 (by decide) (fun c_25 => ?_) (fun c_25 => ?_)
  · refine lv_iload hx hb dX11_broughtBy_21 (lv_at hl 0 rfl) ?_
    refine vp_callSi (W.runS (As := [.int x_22]) (rest := []) ⟨hx, hb, hml, hown, hts⟩ (c_J6_bitCount_x l g Ty G x_22 ) (cwSx 1 hts hG (gwC mw_620) mw_99 mw_618 mw_619 rfl rfl rfl hd_J6_bitCount_0f7a4 ⟨Nat.le_of_ble_eq_true rfl, Nat.le_of_ble_eq_true rfl⟩) ⟨PcH_blind, PcH_pre hK hH⟩ rfl rfl hl.1 rfl (lv_room (Nat.le_of_ble_eq_true rfl)) dX11_broughtBy_23 ⟨Nat.zero_le _, Nat.zero_le _⟩) (fun x_26 hx_26 => ?_)
    have rx_26 : rgI (0) (63) x_26 := hx_26.1
    try rw [← hx_26.2] at hv
    have fz_27 : rgI (1) (1) x_26 := by rw [hx_26.2]; exact (fz_bc1 fz_24)
    exact W.iret hx hb hr (fun t ht hWm => ⟨⟨x_26, (Ty, G), rfl, ⟨rg_w fz_27 (by decide) (by decide), rfl⟩, by show HT g Ty G t.heap; rw [ht]; exact hH⟩, hS.F ht⟩) hS.2.2 dX11_broughtBy_26
  · exact rg_no fz_24 rl_0 (nle_lt c_25) (by decide)

def F_X11_law (a0 : Int32) (a1 : Int32) : Int32 := (if (F_X10_hasPlace (1 : Int32) a0 a1) = (0 : Int32) then (-2 : Int32) else ((1 : Int32) - (1 : Int32)))
set_option maxHeartbeats 4000000 in
set_option maxRecDepth 100000 in
theorem c_X11_law (l : Launch) (g : Gx) (Ty : TyM) (G : Gh) (sz : Nat) (h0 : Nat) (a0 : Int32) (a1 : Int32) (k_h0 : Ty h0 = some (21, 0)) (hD1 : LD1 g) (hz0 : G.1 0 = 0) (h20 : G.1 20 = 1) (h24 : G.1 24 = 0) (hp70 : G.2.1 (g.2.2 70) = P0) (hp71 : G.2.1 (g.2.2 71) = Z0) (hp72 : G.2.1 (g.2.2 72) = Z0) : Met l yX11_law (wsG yX11_law cX11_law 6 (some .int)) ({ frames := 9, cells := 0, slots := 0, locals := 204 }) (PcO g Ty G sz [.ref h0, .int a0, .int a1]) (QwI g Ty sz (fun r u => u.1 = Ty ∧ FR [0, 5, 6, 27] [(g.2.2 51)] [] G u.2 ∧ F_X11_law a0 a1 = r)) 0 0 (AF Ty sz) := by
  refine Met.ofW (cc := cX11_law) (maxL := 6) (ret := (some .int)) (by decide) rfl ?_
  intro p e s m args below meth c s₁ B hml hv
  obtain ⟨rfl, hsz, hK, hH, hO⟩ := hv
  subst hsz
  have hx := B.exec
  have hb := B.bytes
  have hr := B.returns
  have hts := atoms_spec (ws := (wsG yX11_law cX11_law 6 (some .int))) B.pre
  have hG : ∀ w ∈ GW, w.before ([.ref h0, .int a0, .int a1] : List Value).toArray s = true := fun w h => hts w (List.mem_cons_of_mem _ h)
  have hown : s.vm.findClass RX11 = some m.cls := findClass_of_methodNamed B.named
  have hlocks := B.notSynchronized
  have hl := lv_entry [.ref h0, .int a0, .int a1] (n := 6) (Nat.le_of_ble_eq_true rfl)
  rw [lg_entry_eq]
  generalize (lg_sl [.ref h0, .int a0, .int a1] ++ List.replicate (6 - (lg_sl [.ref h0, .int a0, .int a1]).length) Slot.unset).toArray = ls at hl ⊢
  have hl : lv_has ls 6 [(0, .ref h0), (1, .int a0), (2, .int a1)] := hl
  have hv : (if (F_X10_hasPlace (1 : Int32) a0 a1) = (0 : Int32) then (-2 : Int32) else ((1 : Int32) - (1 : Int32))) = F_X11_law a0 a1 := rfl
  have hS : va_S (AF Ty s.heap.size) s.heap s.heap [] := va_S.rf
  refine lv_aload_n hx hb dX11_law_0 rfl (lv_at hl 0 rfl) ?_
  obtain ⟨_, ⟨rfl, kq_2, kq_3, kq_4, kq_5, kq_6, kq_7, kq_8, kq_9, kq_10, kq_11, kq_12, kq_13, kq_14, kq_15, t_17⟩, o_c_1⟩ := hH h0 _ k_h0
  refine hg_get hx hb hG igX11 hown hK o_c_1 rfl 7 (by decide) (hG _ mw_364) rfl dX11_law_1 ?_
  refine lv_aload_n hx hb dX11_law_4 rfl (lv_at hl 0 rfl) ?_
  refine hg_get hx hb hG igX11 hown hK o_c_1 rfl 4 (by decide) (hG _ mw_361) rfl dX11_law_5 ?_
  obtain ⟨_, ⟨q_19, q_20, q_23, q_24, q_26, q_27, q_28, rfl, kq_19, kq_21, kq_27, kq_28, rq_20, rq_23, t_29⟩, o_c_18⟩ := hH (g.2.2 7) _ kq_9
  refine va_calli (va_runV (As := [.ref (g.2.2 4)]) (rest := []) ⟨hx, hb, hml, hown, hts⟩ (c_X8_read_z l g Ty G s.heap.size (g.2.2 7) (g.2.2 4) kq_9 kq_6 hz0) (cwV 1 hts (gwV mw_423 mw_424 mw_425 mw_81 mw_426) rfl rfl rfl hv_X8_read ⟨Nat.le_of_ble_eq_true rfl, Nat.le_of_ble_eq_true rfl⟩) ⟨PcO_blind, hg_recv hK o_c_18 rfl, PcO_pre hK hH hO hS⟩ rfl rfl hl.1 rfl (lv_room (Nat.le_of_ble_eq_true rfl)) dX11_law_8 ⟨Nat.zero_le _, Nat.zero_le _⟩) hS (fun q _ h => AF.mono hS.1 h) (fun q h => AF.mono hS.1 h) (fun x_30 ux_30 t H locs ht hvm hx_30 hB hz hk hS => ?_)
  obtain ⟨hx_30, fx_30⟩ := hx_30
  obtain ⟨eTx_30, eGx_30⟩ := fx_30
  obtain ⟨G_31, eG_31⟩ : ∃ z, z = ux_30.2 := ⟨_, rfl⟩
  rw [← eG_31] at eGx_30
  have fr_32 : FR [0, 5, 6, 27] [(g.2.2 51)] [] G G_31 := FR.tr FR.rf (RLx_fr eGx_30) (by decide) (fun b h => ⟨h.1, trivial⟩) (by decide)
  have u_33 : G_31.1 0 = 0 := ((RLx_fr eGx_30).1 0 (by decide)).trans hz0
  have u_34 : G_31.1 20 = 1 := ((RLx_fr eGx_30).1 20 (by decide)).trans h20
  have u_35 : G_31.1 24 = 0 := ((RLx_fr eGx_30).1 24 (by decide)).trans h24
  have w_36 : G_31.2.1 (g.2.2 70) = P0 := ((RLx_fr eGx_30).2.1 (g.2.2 70) ⟨(hD1 70 (by decide) 51 (by decide) (by decide)), trivial⟩).trans hp70
  have w_37 : G_31.2.1 (g.2.2 71) = Z0 := ((RLx_fr eGx_30).2.1 (g.2.2 71) ⟨(hD1 71 (by decide) 51 (by decide) (by decide)), trivial⟩).trans hp71
  have w_38 : G_31.2.1 (g.2.2 72) = Z0 := ((RLx_fr eGx_30).2.1 (g.2.2 72) ⟨(hD1 72 (by decide) 51 (by decide) (by decide)), trivial⟩).trans hp72
  have hH : HT g Ty G_31 H := by rw [← ht, ← eTx_30, eG_31]; exact hB
  have rx_30 : rgI (-1) (-1) x_30 := hx_30
  have ecx_30 : x_30 = (-1 : Int32) := rg_one rx_30 rl_m1
  rw [ecx_30]
  refine lv_istore_n (lv' := [(3, .int (-1)), (0, .ref h0), (1, .int a0), (2, .int a1)]) hx hb dX11_law_11 rfl hl (by decide) rfl (fun ls hl => ?_)
  refine lv_aload_n hx hb dX11_law_12 rfl (lv_at hl 1 rfl) ?_
  obtain ⟨_, ⟨rfl, kq_40, kq_41, kq_42, kq_43, kq_44, kq_45, kq_46, kq_47, kq_48, kq_49, kq_50, kq_51, kq_52, kq_53, t_55⟩, o_c_39⟩ := hH h0 _ k_h0
  refine hg_get hx hb hG igX11 hown hK o_c_39 rfl 4 (by decide) (hG _ mw_361) rfl dX11_law_13 ?_
  obtain ⟨_, ⟨q_57, rfl, kq_57, rq_58, t_59⟩, o_c_56⟩ := hH (g.2.2 4) _ kq_44
  refine va_callv (va_runV (As := []) (rest := []) ⟨hx, hb, hml, hown, hts⟩ (c_X9_clear_f l g Ty G_31 H.size (g.2.2 4) kq_44 hD1) (cwV 0 hts (gwV mw_556 mw_557 mw_558 mw_79 mw_559) rfl rfl rfl hv_X9_clear ⟨Nat.le_of_ble_eq_true rfl, Nat.le_of_ble_eq_true rfl⟩) ⟨PcT_blind, hg_recv hK o_c_56 rfl, PcT_pre hK hH⟩ rfl rfl hl.1 rfl (lv_room (Nat.le_of_ble_eq_true rfl)) dX11_law_16 ⟨Nat.zero_le _, Nat.zero_le _⟩) hS (fun q _ h => AF.mono hS.1 h) (fun q h => AF.mono hS.1 h) (fun ux_60 t H locs ht hvm hx_60 hB hz hk hS => ?_)
  obtain ⟨eTx_60, eGx_60⟩ := hx_60
  obtain ⟨G_61, eG_61⟩ : ∃ z, z = ux_60.2 := ⟨_, rfl⟩
  rw [← eG_61] at eGx_60
  have fr_62 : FR [0, 5, 6, 27] [(g.2.2 51)] [] G G_61 := FR.tr fr_32 eGx_60 (by decide) (fun _ _ => trivial) (by decide)
  have u_63 : G_61.1 20 = 1 := (eGx_60.1 20 (by decide)).trans u_34
  have u_64 : G_61.1 24 = 0 := (eGx_60.1 24 (by decide)).trans u_35
  have w_65 : G_61.2.1 (g.2.2 70) = P0 := (eGx_60.2.1 (g.2.2 70) trivial).trans w_36
  have w_66 : G_61.2.1 (g.2.2 71) = Z0 := (eGx_60.2.1 (g.2.2 71) trivial).trans w_37
  have w_67 : G_61.2.1 (g.2.2 72) = Z0 := (eGx_60.2.1 (g.2.2 72) trivial).trans w_38
  have hH : HT g Ty G_61 H := by rw [← ht, ← eTx_60, eG_61]; exact hB
  refine lv_iload_n hx hb dX11_law_19 rfl (lv_at hl 0 rfl) ?_
  refine lv_iconst (v := (-1)) hx hb dX11_law_20 (by decide) ?_
  refine lv_icmp_eq (tgt := 30) hx hb dX11_law_21 (by decide) (fun c_68 => ?_) (fun c_68 => ?_)
  · refine lv_aload_n hx hb dX11_law_30 rfl (lv_at hl 1 rfl) ?_
    obtain ⟨_, ⟨rfl, kq_70, kq_71, kq_72, kq_73, kq_74, kq_75, kq_76, kq_77, kq_78, kq_79, kq_80, kq_81, kq_82, kq_83, t_85⟩, o_c_69⟩ := hH h0 _ k_h0
    refine hg_get hx hb hG igX11 hown hK o_c_69 rfl 0 (by decide) (hG _ mw_357) rfl dX11_law_31 ?_
    refine lv_iload_n hx hb dX11_law_34 rfl (lv_at hl 2 rfl) ?_
    refine lv_iload_n hx hb dX11_law_35 rfl (lv_at hl 3 rfl) ?_
    obtain ⟨_, ⟨rfl, kq_87, kq_88, kq_89, t_94⟩, o_c_86⟩ := hH (g.2.2 0) _ kq_70
    refine vp_callSi (W.runV (As := [.int a0, .int a1]) (rest := []) ⟨hx, hb, hml, hown, hts⟩ (c_X10_hasPlace l g Ty G_61 (g.2.2 0) a0 a1 kq_70) (cwV 2 hts (gwV mw_1145 mw_641 mw_642 mw_77 mw_643) rfl rfl rfl hv_X10_hasPlace ⟨Nat.le_of_ble_eq_true rfl, Nat.le_of_ble_eq_true rfl⟩) ⟨PcH_blind, hg_recv hK o_c_86 rfl, PcH_pre hK hH⟩ rfl rfl hl.1 rfl (lv_room (Nat.le_of_ble_eq_true rfl)) dX11_law_36 ⟨Nat.zero_le _, Nat.zero_le _⟩) (fun x_95 hx_95 => ?_)
    have rx_95 : rgI (0) (1) x_95 := hx_95.1
    try rw [← hx_95.2.2] at hv
    have ex_96 : x_95 = F_X10_hasPlace 1 a0 a1 := hx_95.2.2.trans (by rw [u_63])
    try rw [← ex_96] at hv
    refine lv_if_ne (tgt := 45) hx hb dX11_law_39 (by decide) (fun c_97 => ?_) (fun c_97 => ?_)
    · rw [if_neg c_97] at hv
      have r_98 : rgI (0) (0) a0 := rg_w ((fz_hasPlace (by rw [← ex_96]; exact c_97)).1) (by decide) (by decide)
      have r_99 : rgI (0) (3) a1 := rg_w ((fz_hasPlace (by rw [← ex_96]; exact c_97)).2) (by decide) (by decide)
      have r_100 : rgI (1) (1) x_95 := rg_w (rg_neL rx_95 rl_0 c_97) (by decide) (by decide)
      refine lv_aload_n hx hb dX11_law_45 rfl (lv_at hl 1 rfl) ?_
      refine lv_aload_n hx hb dX11_law_46 rfl (lv_at hl 1 rfl) ?_
      refine hg_get hx hb hG igX11 hown hK o_c_69 rfl 7 (by decide) (hG _ mw_364) rfl dX11_law_47 ?_
      refine lv_iload_n hx hb dX11_law_50 rfl (lv_at hl 2 rfl) ?_
      refine lv_iload_n hx hb dX11_law_51 rfl (lv_at hl 3 rfl) ?_
      refine va_calli (va_runV (As := [.ref (g.2.2 7), .int a0, .int a1]) (rest := []) ⟨hx, hb, hml, hown, hts⟩ (c_X11_broughtBy_o l g Ty G_61 H.size h0 (g.2.2 7) a0 a1 k_h0 kq_77 (rg_w r_98 (by decide) (by decide)) (rg_w r_99 (by decide) (by decide)) u_63 w_65 w_66 w_67) (cwV 3 hts (gwV mw_1146 mw_1148 mw_28 mw_76 mw_1149) rfl rfl rfl hv_X11_broughtBy ⟨Nat.le_of_ble_eq_true rfl, Nat.le_of_ble_eq_true rfl⟩) ⟨PcT_blind, hg_recv hK o_c_69 rfl, PcT_pre hK hH⟩ rfl rfl hl.1 rfl (lv_room (Nat.le_of_ble_eq_true rfl)) dX11_law_52 ⟨Nat.zero_le _, Nat.zero_le _⟩) hS (fun q _ h => AF.mono hS.1 h) (fun q h => AF.mono hS.1 h) (fun x_101 ux_101 t H locs ht hvm hx_101 hB hz hk hS => ?_)
      obtain ⟨hx_101, fx_101⟩ := hx_101
      have hH : HT g Ty G_61 H := by rw [← ht]; rw [fx_101] at hB; exact hB
      have rx_101 : rgI (1) (1) x_101 := hx_101
      have ecx_101 : x_101 = (1 : Int32) := rg_is (n := 1) rx_101 rfl
      rw [ecx_101]
      refine lv_istore (lv' := [(4, .int 1), (3, .int (-1)), (0, .ref h0), (1, .int a0), (2, .int a1)]) hx hb dX11_law_55 hl (by decide) rfl (fun ls hl => ?_)
      refine lv_aload_n hx hb dX11_law_57 rfl (lv_at hl 2 rfl) ?_
      refine lv_aload_n hx hb dX11_law_58 rfl (lv_at hl 2 rfl) ?_
      obtain ⟨_, ⟨rfl, kq_103, kq_104, kq_105, kq_106, kq_107, kq_108, kq_109, kq_110, kq_111, kq_112, kq_113, kq_114, kq_115, kq_116, t_118⟩, o_c_102⟩ := hH h0 _ k_h0
      refine hg_get hx hb hG igX11 hown hK o_c_102 rfl 6 (by decide) (hG _ mw_363) rfl dX11_law_59 ?_
      refine lv_iload_n hx hb dX11_law_62 rfl (lv_at hl 3 rfl) ?_
      refine lv_iload_n hx hb dX11_law_63 rfl (lv_at hl 4 rfl) ?_
      refine va_calli (va_runV (As := [.ref (g.2.2 6), .int a0, .int a1]) (rest := []) ⟨hx, hb, hml, hown, hts⟩ (c_X11_broughtBy l g Ty G_61 H.size h0 (g.2.2 6) a0 a1 k_h0 kq_109 (rg_w r_98 (by decide) (by decide)) (rg_w r_99 (by decide) (by decide)) u_63 u_64 w_65 w_66 w_67) (cwV 3 hts (gwV mw_1146 mw_1148 mw_28 mw_76 mw_1149) rfl rfl rfl hv_X11_broughtBy ⟨Nat.le_of_ble_eq_true rfl, Nat.le_of_ble_eq_true rfl⟩) ⟨PcT_blind, hg_recv hK o_c_102 rfl, PcT_pre hK hH⟩ rfl rfl hl.1 rfl (lv_room (Nat.le_of_ble_eq_true rfl)) dX11_law_64 ⟨Nat.zero_le _, Nat.zero_le _⟩) hS (fun q _ h => AF.mono hS.1 h) (fun q h => AF.mono hS.1 h) (fun x_119 ux_119 t H locs ht hvm hx_119 hB hz hk hS => ?_)
      obtain ⟨hx_119, fx_119⟩ := hx_119
      have hH : HT g Ty G_61 H := by rw [← ht]; rw [fx_119] at hB; exact hB
      have rx_119 : rgI (1) (1) x_119 := hx_119
      have ecx_119 : x_119 = (1 : Int32) := rg_is (n := 1) rx_119 rfl
      rw [ecx_119]
      refine lv_istore (lv' := [(5, .int 1), (4, .int 1), (3, .int (-1)), (0, .ref h0), (1, .int a0), (2, .int a1)]) hx hb dX11_law_67 hl (by decide) rfl (fun ls hl => ?_)
      refine lv_aload_n hx hb dX11_law_69 rfl (lv_at hl 3 rfl) ?_
      obtain ⟨_, ⟨rfl, kq_121, kq_122, kq_123, kq_124, kq_125, kq_126, kq_127, kq_128, kq_129, kq_130, kq_131, kq_132, kq_133, kq_134, t_136⟩, o_c_120⟩ := hH h0 _ k_h0
      refine hg_get hx hb hG igX11 hown hK o_c_120 rfl 5 (by decide) (hG _ mw_362) rfl dX11_law_70 ?_
      refine lv_iload hx hb dX11_law_73 (lv_at hl 1 rfl) ?_
      refine lv_i2l hx hb dX11_law_75 rfl ?_
      refine lv_topl (fun u_137 eu_137 => ?_)
      refine lv_iload hx hb dX11_law_76 (lv_at hl 0 rfl) ?_
      refine lv_i2l hx hb dX11_law_78 rfl ?_
      refine lv_topl (fun u_138 eu_138 => ?_)
      obtain ⟨_, ⟨q_140, rfl, kq_140, rq_141, t_142⟩, o_c_139⟩ := hH (g.2.2 5) _ kq_126
      refine va_callv (va_runV (As := [.long u_137, .long u_138]) (rest := []) ⟨hx, hb, hml, hown, hts⟩ (c_X7_tellTwo_x l g Ty G_61 H.size (g.2.2 5) u_137 u_138 kq_126 hD1) (cwV 2 hts (gwV mw_753 mw_754 mw_755 mw_80 mw_756) rfl rfl rfl hv_X7_tellTwo ⟨Nat.le_of_ble_eq_true rfl, Nat.le_of_ble_eq_true rfl⟩) ⟨PcT_blind, hg_recv hK o_c_139 rfl, PcT_pre hK hH⟩ rfl rfl hl.1 rfl (lv_room (Nat.le_of_ble_eq_true rfl)) dX11_law_79 ⟨Nat.zero_le _, Nat.zero_le _⟩) hS (fun q _ h => AF.mono hS.1 h) (fun q h => AF.mono hS.1 h) (fun ux_143 t H locs ht hvm hx_143 hB hz hk hS => ?_)
      obtain ⟨eTx_143, eGx_143⟩ := hx_143
      obtain ⟨G_144, eG_144⟩ : ∃ z, z = ux_143.2 := ⟨_, rfl⟩
      rw [← eG_144] at eGx_143
      obtain ⟨hfr_145, hex_146⟩ := eGx_143
      have fr_147 : FR [0, 5, 6, 27] [(g.2.2 51)] [] G G_144 := FR.tr fr_62 hfr_145 (by decide) (fun _ _ => trivial) (by decide)
      have u_148 : G_144.1 20 = 1 := (hfr_145.1 20 (by decide)).trans u_63
      have u_149 : G_144.1 24 = 0 := (hfr_145.1 24 (by decide)).trans u_64
      have w_150 : G_144.2.1 (g.2.2 70) = P0 := (hfr_145.2.1 (g.2.2 70) trivial).trans w_65
      have w_151 : G_144.2.1 (g.2.2 71) = Z0 := (hfr_145.2.1 (g.2.2 71) trivial).trans w_66
      have w_152 : G_144.2.1 (g.2.2 72) = Z0 := (hfr_145.2.1 (g.2.2 72) trivial).trans w_67
      have hH : HT g Ty G_144 H := by rw [← ht, ← eTx_143, eG_144]; exact hB
      refine lv_iload hx hb dX11_law_82 (lv_at hl 1 rfl) ?_
      refine lv_iload hx hb dX11_law_84 (lv_at hl 0 rfl) ?_
      refine lv_isub hx hb dX11_law_86 ?_
      refine lv_topi (fun x_153 ex_153 => ?_)
      try rw [← ex_153] at hv
      have rx_153 : rgI (0) (0) x_153 := by rw [ex_153]; exact rg_w (rg_sub rl_1 rl_1 (by decide) (by decide)) (by decide) (by decide)
      exact W.iret hx hb hr (fun t ht hWm => ⟨⟨x_153, (Ty, G_144), rfl, ⟨rfl, ⟨fr_147, hv.symm⟩⟩, by show HT g Ty G_144 t.heap; rw [ht]; exact hH⟩, hS.F ht⟩) hS.2.2 dX11_law_87
    · rw [if_pos c_97] at hv
      have r_154 : rgI (0) (0) x_95 := rg_w (rg_eq rl_0 c_97) (by decide) (by decide)
      refine lv_bipush (v := (-2)) hx hb dX11_law_42 (by decide) ?_
      exact W.iret hx hb hr (fun t ht hWm => ⟨⟨(-2), (Ty, G_61), rfl, ⟨rfl, ⟨fr_62, hv.symm⟩⟩, by show HT g Ty G_61 t.heap; rw [ht]; exact hH⟩, hS.F ht⟩) hS.2.2 dX11_law_44
  · exact absurd rfl c_68

def F_X11_keepers_55 : Nat → Int32 → Int32 → Int32 → Int32 → Int32 → Int32
  | 0, _, _, _, _, _ => (0 : Int32)
  | n + 1, y1, y2, y3, y4, y5 => (0 : Int32)
def F_X11_keepers (a0 : Int32) (a1 : Int32) : Int32 := (if (F_X10_has (1 : Int32) a0) = (0 : Int32) then (-1 : Int32) else (if (F_X10_has (1 : Int32) a1) = (0 : Int32) then (-1 : Int32) else (-2 : Int32)))
set_option maxHeartbeats 4000000 in
set_option maxRecDepth 100000 in
theorem c_X11_keepers (l : Launch) (g : Gx) (Ty : TyM) (G : Gh) (sz : Nat) (h0 : Nat) (a0 : Int32) (a1 : Int32) (k_h0 : Ty h0 = some (21, 0)) (h20 : G.1 20 = 1) : Met l yX11_keepers (wsG yX11_keepers cX11_keepers 6 (some .int)) ({ frames := 4, cells := 0, slots := 0, locals := 88 }) (PcT g Ty G sz [.ref h0, .int a0, .int a1]) (QwI g Ty sz (fun r u => (r = F_X11_keepers a0 a1) ∧ u = (Ty, G))) 0 0 (AF Ty sz) := by
  refine Met.ofW (cc := cX11_keepers) (maxL := 6) (ret := (some .int)) (by decide) rfl ?_
  intro p e s m args below meth c s₁ B hml hv
  obtain ⟨rfl, hsz, hK, hH⟩ := hv
  subst hsz
  have hx := B.exec
  have hb := B.bytes
  have hr := B.returns
  have hts := atoms_spec (ws := (wsG yX11_keepers cX11_keepers 6 (some .int))) B.pre
  have hG : ∀ w ∈ GW, w.before ([.ref h0, .int a0, .int a1] : List Value).toArray s = true := fun w h => hts w (List.mem_cons_of_mem _ h)
  have hown : s.vm.findClass RX11 = some m.cls := findClass_of_methodNamed B.named
  have hlocks := B.notSynchronized
  have hl := lv_entry [.ref h0, .int a0, .int a1] (n := 6) (Nat.le_of_ble_eq_true rfl)
  rw [lg_entry_eq]
  generalize (lg_sl [.ref h0, .int a0, .int a1] ++ List.replicate (6 - (lg_sl [.ref h0, .int a0, .int a1]).length) Slot.unset).toArray = ls at hl ⊢
  have hl : lv_has ls 6 [(0, .ref h0), (1, .int a0), (2, .int a1)] := hl
  have hv : (if (F_X10_has (1 : Int32) a0) = (0 : Int32) then (-1 : Int32) else (if (F_X10_has (1 : Int32) a1) = (0 : Int32) then (-1 : Int32) else (-2 : Int32))) = F_X11_keepers a0 a1 := rfl
  have hS : va_S (AF Ty s.heap.size) s.heap s.heap [] := va_S.rf
  have L_46 : ∀ (H : Heap) (locs : List Loc) (ls : Array Slot), lv_has ls 6 [] → (-2 : Int32) = F_X11_keepers a0 a1 → HT g Ty G H → va_S (AF Ty s.heap.size) s.heap H locs → Wm p l e (wsG yX11_keepers cX11_keepers 6 (some .int)) ({ frames := 4, cells := 0, slots := 0, locals := 88 }) s m [.ref h0, .int a0, .int a1] below meth c H locs (0) (0) (QwI g Ty s.heap.size (fun r u => (r = F_X11_keepers a0 a1) ∧ u = (Ty, G))) 0 0 (AF Ty s.heap.size) (F0 m 46 ls []) := by
    intro H locs ls hl hv hH hS
    refine lv_bipush (v := (-2)) hx hb dX11_keepers_46 (by decide) ?_
    exact W.iret hx hb hr (fun t ht hWm => ⟨⟨(-2), (Ty, G), rfl, ⟨hv, rfl⟩, by show HT g Ty G t.heap; rw [ht]; exact hH⟩, hS.F ht⟩) hS.2.2 dX11_keepers_48
  have L_22 : ∀ (H : Heap) (locs : List Loc) (ls : Array Slot), lv_has ls 6 [] → (-1 : Int32) = F_X11_keepers a0 a1 → HT g Ty G H → va_S (AF Ty s.heap.size) s.heap H locs → Wm p l e (wsG yX11_keepers cX11_keepers 6 (some .int)) ({ frames := 4, cells := 0, slots := 0, locals := 88 }) s m [.ref h0, .int a0, .int a1] below meth c H locs (0) (0) (QwI g Ty s.heap.size (fun r u => (r = F_X11_keepers a0 a1) ∧ u = (Ty, G))) 0 0 (AF Ty s.heap.size) (F0 m 22 ls []) := by
    intro H locs ls hl hv hH hS
    refine lv_iconst (v := (-1)) hx hb dX11_keepers_22 (by decide) ?_
    exact W.iret hx hb hr (fun t ht hWm => ⟨⟨(-1), (Ty, G), rfl, ⟨hv, rfl⟩, by show HT g Ty G t.heap; rw [ht]; exact hH⟩, hS.F ht⟩) hS.2.2 dX11_keepers_23
  refine lv_aload_n hx hb dX11_keepers_0 rfl (lv_at hl 0 rfl) ?_
  obtain ⟨_, ⟨rfl, kq_2, kq_3, kq_4, kq_5, kq_6, kq_7, kq_8, kq_9, kq_10, kq_11, kq_12, kq_13, kq_14, kq_15, t_17⟩, o_c_1⟩ := hH h0 _ k_h0
  refine hg_get hx hb hG igX11 hown hK o_c_1 rfl 0 (by decide) (hG _ mw_357) rfl dX11_keepers_1 ?_
  refine lv_iload_n hx hb dX11_keepers_4 rfl (lv_at hl 1 rfl) ?_
  obtain ⟨_, ⟨rfl, kq_19, kq_20, kq_21, t_26⟩, o_c_18⟩ := hH (g.2.2 0) _ kq_2
  refine vp_callSi (W.runV (As := [.int a0]) (rest := []) ⟨hx, hb, hml, hown, hts⟩ (c_X10_has l g Ty G (g.2.2 0) a0 kq_2) (cwV 1 hts (gwV mw_603 mw_604 mw_605 mw_77 mw_606) rfl rfl rfl hv_X10_has ⟨Nat.le_of_ble_eq_true rfl, Nat.le_of_ble_eq_true rfl⟩) ⟨PcH_blind, hg_recv hK o_c_18 rfl, PcH_pre hK hH⟩ rfl rfl hl.1 rfl (lv_room (Nat.le_of_ble_eq_true rfl)) dX11_keepers_5 ⟨Nat.zero_le _, Nat.zero_le _⟩) (fun x_27 hx_27 => ?_)
  have rx_27 : rgI (0) (1) x_27 := hx_27.1
  try rw [← hx_27.2.2] at hv
  have ex_28 : x_27 = F_X10_has 1 a0 := hx_27.2.2.trans (by rw [h20])
  try rw [← ex_28] at hv
  refine lv_if_eq (tgt := 22) hx hb dX11_keepers_8 (by decide) (fun c_29 => ?_) (fun c_29 => ?_)
  · rw [if_pos c_29] at hv
    have r_30 : rgI (0) (0) x_27 := rg_w (rg_eq rl_0 c_29) (by decide) (by decide)
    exact L_22 s.heap [] ls (lv_sub hl [] rfl) hv hH hS
  · rw [if_neg c_29] at hv
    have r_31 : rgI (0) (0) a0 := rg_w (fz_has (by rw [← ex_28]; exact c_29)) (by decide) (by decide)
    have r_32 : rgI (1) (1) x_27 := rg_w (rg_neL rx_27 rl_0 c_29) (by decide) (by decide)
    refine lv_aload_n hx hb dX11_keepers_11 rfl (lv_at hl 0 rfl) ?_
    refine hg_get hx hb hG igX11 hown hK o_c_1 rfl 0 (by decide) (hG _ mw_357) rfl dX11_keepers_12 ?_
    refine lv_iload_n hx hb dX11_keepers_15 rfl (lv_at hl 2 rfl) ?_
    refine vp_callSi (W.runV (As := [.int a1]) (rest := []) ⟨hx, hb, hml, hown, hts⟩ (c_X10_has l g Ty G (g.2.2 0) a1 kq_2) (cwV 1 hts (gwV mw_603 mw_604 mw_605 mw_77 mw_606) rfl rfl rfl hv_X10_has ⟨Nat.le_of_ble_eq_true rfl, Nat.le_of_ble_eq_true rfl⟩) ⟨PcH_blind, hg_recv hK o_c_18 rfl, PcH_pre hK hH⟩ rfl rfl hl.1 rfl (lv_room (Nat.le_of_ble_eq_true rfl)) dX11_keepers_16 ⟨Nat.zero_le _, Nat.zero_le _⟩) (fun x_33 hx_33 => ?_)
    have rx_33 : rgI (0) (1) x_33 := hx_33.1
    try rw [← hx_33.2.2] at hv
    have ex_34 : x_33 = F_X10_has 1 a1 := hx_33.2.2.trans (by rw [h20])
    try rw [← ex_34] at hv
    refine lv_if_ne (tgt := 24) hx hb dX11_keepers_19 (by decide) (fun c_35 => ?_) (fun c_35 => ?_)
    · rw [if_neg c_35] at hv
      have r_36 : rgI (0) (0) a1 := rg_w (fz_has (by rw [← ex_34]; exact c_35)) (by decide) (by decide)
      have r_37 : rgI (1) (1) x_33 := rg_w (rg_neL rx_33 rl_0 c_35) (by decide) (by decide)
      refine lv_iconst (v := 1) hx hb dX11_keepers_24 (by decide) ?_
      refine lv_iload_n hx hb dX11_keepers_25 rfl (lv_at hl 2 rfl) ?_
      refine lv_ishl hx hb dX11_keepers_26 ?_
      refine lv_topi (fun x_38 ex_38 => ?_)
      try rw [← ex_38] at hv
      refine lv_istore_n (lv' := [(3, .int x_38), (0, .ref h0), (1, .int a0), (2, .int a1)]) hx hb dX11_keepers_27 rfl hl (by decide) rfl (fun ls hl => ?_)
      refine lv_iload_n hx hb dX11_keepers_28 rfl (lv_at hl 2 rfl) ?_
      refine lv_iload_n hx hb dX11_keepers_29 rfl (lv_at hl 3 rfl) ?_
      refine lv_icmp_eq (tgt := 46) hx hb dX11_keepers_30 (by decide) (fun c_39 => ?_) (fun c_39 => ?_)
      · exact L_46 s.heap [] ls (lv_sub hl [] rfl) hv hH hS
      · exact absurd (rg_one r_31 r_36) c_39
    · rw [if_pos c_35] at hv
      have r_40 : rgI (0) (0) x_33 := rg_w (rg_eq rl_0 c_35) (by decide) (by decide)
      exact L_22 s.heap [] ls (lv_sub hl [] rfl) hv hH hS

set_option maxHeartbeats 4000000 in
set_option maxRecDepth 100000 in
theorem c_X11_differs (l : Launch) (g : Gx) (Ty : TyM) (G : Gh) (sz : Nat) (h0 : Nat) (a0 : Int32) (a1 : Int32) (a2 : Int32) (k_h0 : Ty h0 = some (21, 0)) (pr0 : rgI (0) (0) a0) (pr1 : rgI (0) (0) a1) (pr2 : rgI (0) (0) a2) (hD1 : LD1 g) (hp70 : G.2.1 (g.2.2 70) = P0) : Met l yX11_differs (wsG yX11_differs cX11_differs 7 (some .boolean)) ({ frames := 26, cells := 0, slots := 0, locals := 674 }) (PcT g Ty G sz [.ref h0, .int a0, .int a1, .int a2]) (QwI g Ty sz (fun r u => (rgI (0) (0) r) ∧ u.1 = Ty ∧ FR [27] [] [] G u.2)) 0 0 (AF Ty sz) := by
  refine Met.ofW (cc := cX11_differs) (maxL := 7) (ret := (some .boolean)) (by decide) rfl ?_
  intro p e s m args below meth c s₁ B hml hv
  obtain ⟨rfl, hsz, hK, hH⟩ := hv
  subst hsz
  have hx := B.exec
  have hb := B.bytes
  have hr := B.returns
  have hts := atoms_spec (ws := (wsG yX11_differs cX11_differs 7 (some .boolean))) B.pre
  have hG : ∀ w ∈ GW, w.before ([.ref h0, .int a0, .int a1, .int a2] : List Value).toArray s = true := fun w h => hts w (List.mem_cons_of_mem _ h)
  have hown : s.vm.findClass RX11 = some m.cls := findClass_of_methodNamed B.named
  have hlocks := B.notSynchronized
  have hl := lv_entry [.ref h0, .int a0, .int a1, .int a2] (n := 7) (Nat.le_of_ble_eq_true rfl)
  rw [lg_entry_eq]
  generalize (lg_sl [.ref h0, .int a0, .int a1, .int a2] ++ List.replicate (7 - (lg_sl [.ref h0, .int a0, .int a1, .int a2]).length) Slot.unset).toArray = ls at hl ⊢
  have hl : lv_has ls 7 [(0, .ref h0), (1, .int a0), (2, .int a1), (3, .int a2)] := hl
  have hS : va_S (AF Ty s.heap.size) s.heap s.heap [] := va_S.rf
  have L_11 : ∀ (n : Nat) (H : Heap) (locs : List Loc) (G_11 : Gh) (y4_11 : Int32) (ls : Array Slot), FR [27] [] [] G G_11 → rgI (0) (0) a0 → rgI (0) (0) a1 → rgI (0) (0) a2 → rgI (0) (4) y4_11 → (4 - (y4_11).toInt).toNat < n → lv_has ls 7 [(0, .ref h0), (1, .int a0), (2, .int a1), (3, .int a2), (4, .int y4_11)] → HT g Ty G_11 H → va_S (AF Ty s.heap.size) s.heap H locs → Wm p l e (wsG yX11_differs cX11_differs 7 (some .boolean)) ({ frames := 26, cells := 0, slots := 0, locals := 674 }) s m [.ref h0, .int a0, .int a1, .int a2] below meth c H locs (0) (0) (QwI g Ty s.heap.size (fun r u => (rgI (0) (0) r) ∧ u.1 = Ty ∧ FR [27] [] [] G u.2)) 0 0 (AF Ty s.heap.size) (F0 m 11 ls []) := by
    intro n
    induction n with
    | zero => intro H locs G_11 y4_11 ls frL_11 ry1_11 ry2_11 ry3_11 ry4_11 hm; exact absurd hm (Nat.not_lt_zero _)
    | succ n ih_11 =>
      intro H locs G_11 y4_11 ls frL_11 ry1_11 ry2_11 ry3_11 ry4_11 hm_11 hl hH hS
      have L_103 : ∀ (H : Heap) (locs : List Loc) (G_103 : Gh) (ls : Array Slot), FR [27] [] [] G G_103 → rgI (0) (0) a0 → rgI (0) (0) a1 → rgI (0) (0) a2 → rgI (0) (3) y4_11 → lv_has ls 7 [(0, .ref h0), (1, .int a0), (2, .int a1), (3, .int a2), (4, .int y4_11)] → HT g Ty G_103 H → va_S (AF Ty s.heap.size) s.heap H locs → Wm p l e (wsG yX11_differs cX11_differs 7 (some .boolean)) ({ frames := 26, cells := 0, slots := 0, locals := 674 }) s m [.ref h0, .int a0, .int a1, .int a2] below meth c H locs (0) (0) (QwI g Ty s.heap.size (fun r u => (rgI (0) (0) r) ∧ u.1 = Ty ∧ FR [27] [] [] G u.2)) 0 0 (AF Ty s.heap.size) (F0 m 103 ls []) := by
        intro H locs G_103 ls frL_103 ry1_103 ry2_103 ry3_103 ry4_103 hl hH hS
        refine lv_aload_n hx hb dX11_differs_103 rfl (lv_at hl 0 rfl) ?_
        obtain ⟨_, ⟨rfl, kq_2, kq_3, kq_4, kq_5, kq_6, kq_7, kq_8, kq_9, kq_10, kq_11, kq_12, kq_13, kq_14, kq_15, t_17⟩, o_c_1⟩ := hH h0 _ k_h0
        refine hg_get hx hb hG igX11 hown hK o_c_1 rfl 5 (by decide) (hG _ mw_362) rfl dX11_differs_104 ?_
        obtain ⟨_, ⟨q_19, rfl, kq_19, rq_20, t_21⟩, o_c_18⟩ := hH (g.2.2 5) _ kq_7
        refine va_callv (va_runV (As := []) (rest := []) ⟨hx, hb, hml, hown, hts⟩ (c_X7_drop l g Ty G_103 H.size (g.2.2 5) kq_7 hD1) (cwV 0 hts (gwV mw_982 mw_983 mw_984 mw_80 mw_985) rfl rfl rfl hv_X7_drop ⟨Nat.le_of_ble_eq_true rfl, Nat.le_of_ble_eq_true rfl⟩) ⟨PcT_blind, hg_recv hK o_c_18 rfl, PcT_pre hK hH⟩ rfl rfl hl.1 rfl (lv_room (Nat.le_of_ble_eq_true rfl)) dX11_differs_107 ⟨Nat.zero_le _, Nat.zero_le _⟩) hS (fun q _ h => AF.mono hS.1 h) (fun q h => AF.mono hS.1 h) (fun ux_22 t H locs ht hvm hx_22 hB hz hk hS => ?_)
        obtain ⟨eTx_22, eGx_22⟩ := hx_22
        obtain ⟨G_23, eG_23⟩ : ∃ z, z = ux_22.2 := ⟨_, rfl⟩
        rw [← eG_23] at eGx_22
        have fr_24 : FR [27] [] [] G G_23 := FR.tr frL_103 eGx_22 (by decide) (fun _ _ => trivial) (by decide)
        have w_25 : G_23.2.1 (g.2.2 70) = P0 := (eGx_22.2.1 (g.2.2 70) trivial).trans ((frL_103.2.1 (g.2.2 70) trivial).trans hp70)
        have hH : HT g Ty G_23 H := by rw [← ht, ← eTx_22, eG_23]; exact hB
        obtain ⟨x_26, ex_26⟩ : ∃ y : Int32, y = y4_11 + 1 := ⟨_, rfl⟩
        have rx_26 : rgI (1) (4) x_26 := by rw [ex_26]; exact rg_w (rg_add ry4_103 rl_1 (by decide) (by decide)) (by decide) (by decide)
        have qx_26 : x_26.toInt = (y4_11 : Int32).toInt + 1 := by rw [ex_26]; exact rg_addE ry4_103 rl_1 (by decide) (by decide)
        refine lv_iinc (v := x_26) (lv' := [(4, .int x_26), (0, .ref h0), (1, .int a0), (2, .int a1), (3, .int a2)]) hx hb dX11_differs_110 hl (k := 4) rfl (by rw [ex_26]; rfl) (by decide) rfl (fun ls hl => ?_)
        refine lv_goto (tgt := 11) hx hb dX11_differs_113 (by decide) ?_
        exact ih_11 H locs G_23 x_26 ls fr_24 ry1_103 ry2_103 ry3_103 (rg_w rx_26 (by decide) (by decide)) (by have h1 := qx_26; have h2 := ry4_103.1; have h3 := ry4_103.2; have h4 := hm_11; omega) (lv_sub hl [1, 2, 3, 4, 0] rfl) hH hS
      have L_75 : ∀ (H : Heap) (locs : List Loc) (G_75 : Gh) (y5_75 : Int32) (y6_75 : Int32) (z0_75 : Int32) (z1_75 : Int32) (ls : Array Slot), FR [27] [] [] G G_75 → rgI (0) (0) a0 → rgI (0) (0) a1 → rgI (0) (0) a2 → rgI (0) (3) y4_11 → rgI (24) (24) y5_75 → rgI (24) (24) y6_75 → rgI (1) (1) z0_75 → rgI (1) (1) z1_75 → lv_has ls 7 [(0, .ref h0), (1, .int a0), (2, .int a1), (3, .int a2), (4, .int y4_11), (5, .int y5_75), (6, .int y6_75)] → HT g Ty G_75 H → va_S (AF Ty s.heap.size) s.heap H locs → Wm p l e (wsG yX11_differs cX11_differs 7 (some .boolean)) ({ frames := 26, cells := 0, slots := 0, locals := 674 }) s m [.ref h0, .int a0, .int a1, .int a2] below meth c H locs (0) (0) (QwI g Ty s.heap.size (fun r u => (rgI (0) (0) r) ∧ u.1 = Ty ∧ FR [27] [] [] G u.2)) 0 0 (AF Ty s.heap.size) (F0 m 75 ls [.int z0_75, .int z1_75]) := by
        intro H locs G_75 y5_75 y6_75 z0_75 z1_75 ls frL_75 ry1_75 ry2_75 ry3_75 ry4_75 ry5_75 ry6_75 rz0_75 rz1_75 hl hH hS
        refine lv_icmp_eq (tgt := 80) hx hb dX11_differs_75 (by decide) (fun c_27 => ?_) (fun c_27 => ?_)
        · refine lv_iload hx hb dX11_differs_80 (lv_at hl 5 rfl) ?_
          refine lv_bipush (v := 24) hx hb dX11_differs_82 (by decide) ?_
          refine lv_icmp_eq (tgt := 103) hx hb dX11_differs_84 (by decide) (fun c_28 => ?_) (fun c_28 => ?_)
          · exact L_103 H locs G_75 ls frL_75 ry1_75 ry2_75 ry3_75 ry4_75 (lv_sub hl [0, 1, 2, 3, 4] rfl) hH hS
          · exact absurd (rg_one ry5_75 rl_24) c_28
        · exact absurd (rg_one rz1_75 rz0_75) c_27
      have L_63 : ∀ (H : Heap) (locs : List Loc) (G_63 : Gh) (y5_63 : Int32) (y6_63 : Int32) (z0_63 : Int32) (ls : Array Slot), FR [27] [] [] G G_63 → rgI (0) (0) a0 → rgI (0) (0) a1 → rgI (0) (0) a2 → rgI (0) (3) y4_11 → rgI (24) (24) y5_63 → rgI (24) (24) y6_63 → rgI (1) (1) z0_63 → lv_has ls 7 [(0, .ref h0), (1, .int a0), (2, .int a1), (3, .int a2), (4, .int y4_11), (5, .int y5_63), (6, .int y6_63)] → HT g Ty G_63 H → va_S (AF Ty s.heap.size) s.heap H locs → Wm p l e (wsG yX11_differs cX11_differs 7 (some .boolean)) ({ frames := 26, cells := 0, slots := 0, locals := 674 }) s m [.ref h0, .int a0, .int a1, .int a2] below meth c H locs (0) (0) (QwI g Ty s.heap.size (fun r u => (rgI (0) (0) r) ∧ u.1 = Ty ∧ FR [27] [] [] G u.2)) 0 0 (AF Ty s.heap.size) (F0 m 63 ls [.int z0_63]) := by
        intro H locs G_63 y5_63 y6_63 z0_63 ls frL_63 ry1_63 ry2_63 ry3_63 ry4_63 ry5_63 ry6_63 rz0_63 hl hH hS
        refine lv_iload hx hb dX11_differs_63 (lv_at hl 6 rfl) ?_
        refine lv_bipush (v := 24) hx hb dX11_differs_65 (by decide) ?_
        refine lv_icmp_ne (tgt := 74) hx hb dX11_differs_67 (by decide) (fun c_29 => ?_) (fun c_29 => ?_)
        · exact absurd (rg_one ry6_63 rl_24) c_29
        · refine lv_iconst (v := 1) hx hb dX11_differs_70 (by decide) ?_
          refine lv_goto (tgt := 75) hx hb dX11_differs_71 (by decide) ?_
          exact L_75 H locs G_63 y5_63 y6_63 1 z0_63 ls frL_63 ry1_63 ry2_63 ry3_63 ry4_63 ry5_63 ry6_63 (rg_w rl_1 (by decide) (by decide)) rz0_63 (lv_sub hl [0, 1, 2, 3, 4, 5, 6] rfl) hH hS
      refine lv_iload hx hb dX11_differs_11 (lv_at hl 4 rfl) ?_
      refine lv_iconst (v := 4) hx hb dX11_differs_13 (by decide) ?_
      refine lv_icmp_ge (tgt := 116) hx hb dX11_differs_14 (by decide) (fun c_30 => ?_) (fun c_30 => ?_)
      · have r_31 : rgI (4) (4) y4_11 := rg_w (rg_leR rl_4 ry4_11 c_30) (by decide) (by decide)
        refine lv_iconst (v := 0) hx hb dX11_differs_116 (by decide) ?_
        exact W.zret hx hb hr rfl (fun t ht hWm => ⟨⟨0, (Ty, G_11), rfl, ⟨rg_w rl_0 (by decide) (by decide), ⟨rfl, frL_11⟩⟩, by show HT g Ty G_11 t.heap; rw [ht]; exact hH⟩, hS.F ht⟩) hS.2.2 dX11_differs_117
      · have r_32 : rgI (0) (3) y4_11 := rg_w (rg_ltL ry4_11 rl_4 (nle_lt c_30)) (by decide) (by decide)
        refine lv_aload_n hx hb dX11_differs_17 rfl (lv_at hl 0 rfl) ?_
        obtain ⟨_, ⟨rfl, kq_34, kq_35, kq_36, kq_37, kq_38, kq_39, kq_40, kq_41, kq_42, kq_43, kq_44, kq_45, kq_46, kq_47, t_49⟩, o_c_33⟩ := hH h0 _ k_h0
        refine hg_get hx hb hG igX11 hown hK o_c_33 rfl 0 (by decide) (hG _ mw_357) rfl dX11_differs_18 ?_
        refine lv_iload_n hx hb dX11_differs_21 rfl (lv_at hl 1 rfl) ?_
        refine lv_iload hx hb dX11_differs_22 (lv_at hl 4 rfl) ?_
        obtain ⟨_, ⟨rfl, kq_51, kq_52, kq_53, t_58⟩, o_c_50⟩ := hH (g.2.2 0) _ kq_34
        refine vp_callSi (W.runV (As := [.int a0, .int y4_11]) (rest := []) ⟨hx, hb, hml, hown, hts⟩ (c_X10_mountAt l g Ty G_11 (g.2.2 0) a0 y4_11 kq_34) (cwV 2 hts (gwV mw_582 mw_579 mw_580 mw_77 mw_581) rfl rfl rfl hv_X10_mountAt ⟨Nat.le_of_ble_eq_true rfl, Nat.le_of_ble_eq_true rfl⟩) ⟨PcH_blind, hg_recv hK o_c_50 rfl, PcH_pre hK hH⟩ rfl rfl hl.1 rfl (lv_room (Nat.le_of_ble_eq_true rfl)) dX11_differs_24 ⟨Nat.zero_le _, Nat.zero_le _⟩) (fun x_59 hx_59 => ?_)
        have rx_59 : rgI (0) (24) x_59 := hx_59.1
        have ex_60 : x_59 = F_X10_mountAt P0 a0 y4_11 := hx_59.2.trans (by rw [((frL_11.2.1 (g.2.2 70) trivial).trans hp70)])
        try rw [← ex_60] at hv
        have fz_61 : rgI (24) (24) x_59 := by rw [ex_60]; exact fz_mountAt
        refine lv_istore (lv' := [(5, .int x_59), (0, .ref h0), (1, .int a0), (2, .int a1), (3, .int a2), (4, .int y4_11)]) hx hb dX11_differs_27 hl (by decide) rfl (fun ls hl => ?_)
        refine lv_aload_n hx hb dX11_differs_29 rfl (lv_at hl 1 rfl) ?_
        refine hg_get hx hb hG igX11 hown hK o_c_33 rfl 0 (by decide) (hG _ mw_357) rfl dX11_differs_30 ?_
        refine lv_iload_n hx hb dX11_differs_33 rfl (lv_at hl 3 rfl) ?_
        refine lv_iload hx hb dX11_differs_34 (lv_at hl 5 rfl) ?_
        refine vp_callSi (W.runV (As := [.int a1, .int y4_11]) (rest := []) ⟨hx, hb, hml, hown, hts⟩ (c_X10_mountAt l g Ty G_11 (g.2.2 0) a1 y4_11 kq_34) (cwV 2 hts (gwV mw_582 mw_579 mw_580 mw_77 mw_581) rfl rfl rfl hv_X10_mountAt ⟨Nat.le_of_ble_eq_true rfl, Nat.le_of_ble_eq_true rfl⟩) ⟨PcH_blind, hg_recv hK o_c_50 rfl, PcH_pre hK hH⟩ rfl rfl hl.1 rfl (lv_room (Nat.le_of_ble_eq_true rfl)) dX11_differs_36 ⟨Nat.zero_le _, Nat.zero_le _⟩) (fun x_62 hx_62 => ?_)
        have rx_62 : rgI (0) (24) x_62 := hx_62.1
        have ex_63 : x_62 = F_X10_mountAt P0 a1 y4_11 := hx_62.2.trans (by rw [((frL_11.2.1 (g.2.2 70) trivial).trans hp70)])
        try rw [← ex_63] at hv
        have fz_64 : rgI (24) (24) x_62 := by rw [ex_63]; exact fz_mountAt
        refine lv_istore (lv' := [(6, .int x_62), (5, .int x_59), (0, .ref h0), (1, .int a0), (2, .int a1), (3, .int a2), (4, .int y4_11)]) hx hb dX11_differs_39 hl (by decide) rfl (fun ls hl => ?_)
        refine lv_aload_n hx hb dX11_differs_41 rfl (lv_at hl 2 rfl) ?_
        refine hg_get hx hb hG igX11 hown hK o_c_33 rfl 5 (by decide) (hG _ mw_362) rfl dX11_differs_42 ?_
        refine lv_iload hx hb dX11_differs_45 (lv_at hl 6 rfl) ?_
        refine lv_i2l hx hb dX11_differs_47 rfl ?_
        refine lv_topl (fun u_65 eu_65 => ?_)
        obtain ⟨_, ⟨q_67, rfl, kq_67, rq_68, t_69⟩, o_c_66⟩ := hH (g.2.2 5) _ kq_39
        refine va_callv (va_runV (As := [.long u_65]) (rest := []) ⟨hx, hb, hml, hown, hts⟩ (c_X7_add_x l g Ty G_11 H.size (g.2.2 5) u_65 kq_39 hD1) (cwV 1 hts (gwV mw_938 mw_592 mw_593 mw_80 mw_594) rfl rfl rfl hv_X7_add ⟨Nat.le_of_ble_eq_true rfl, Nat.le_of_ble_eq_true rfl⟩) ⟨PcT_blind, hg_recv hK o_c_66 rfl, PcT_pre hK hH⟩ rfl rfl hl.1 rfl (lv_room (Nat.le_of_ble_eq_true rfl)) dX11_differs_48 ⟨Nat.zero_le _, Nat.zero_le _⟩) hS (fun q _ h => AF.mono hS.1 h) (fun q h => AF.mono hS.1 h) (fun ux_70 t H locs ht hvm hx_70 hB hz hk hS => ?_)
        obtain ⟨eTx_70, eGx_70⟩ := hx_70
        obtain ⟨G_71, eG_71⟩ : ∃ z, z = ux_70.2 := ⟨_, rfl⟩
        rw [← eG_71] at eGx_70
        obtain ⟨hfr_72, hex_73⟩ := eGx_70
        have fr_74 : FR [27] [] [] G G_71 := FR.tr frL_11 hfr_72 (by decide) (fun _ _ => trivial) (by decide)
        have w_75 : G_71.2.1 (g.2.2 70) = P0 := (hfr_72.2.1 (g.2.2 70) trivial).trans ((frL_11.2.1 (g.2.2 70) trivial).trans hp70)
        have hH : HT g Ty G_71 H := by rw [← ht, ← eTx_70, eG_71]; exact hB
        refine lv_iload hx hb dX11_differs_51 (lv_at hl 1 rfl) ?_
        refine lv_bipush (v := 24) hx hb dX11_differs_53 (by decide) ?_
        refine lv_icmp_ne (tgt := 62) hx hb dX11_differs_55 (by decide) (fun c_76 => ?_) (fun c_76 => ?_)
        · exact absurd (rg_one fz_61 rl_24) c_76
        · refine lv_iconst (v := 1) hx hb dX11_differs_58 (by decide) ?_
          refine lv_goto (tgt := 63) hx hb dX11_differs_59 (by decide) ?_
          exact L_63 H locs G_71 x_59 x_62 1 ls fr_74 ry1_11 ry2_11 ry3_11 r_32 fz_61 fz_64 (rg_w rl_1 (by decide) (by decide)) (lv_sub hl [2, 3, 4, 5, 6, 1, 0] rfl) hH hS
  refine lv_iload_n hx hb dX11_differs_0 rfl (lv_at hl 3 rfl) ?_
  refine lv_bipush (v := 24) hx hb dX11_differs_1 (by decide) ?_
  refine lv_icmp_lt (tgt := 8) hx hb dX11_differs_3 (by decide) (fun c_77 => ?_) (fun c_77 => ?_)
  · refine lv_iconst (v := 0) hx hb dX11_differs_8 (by decide) ?_
    refine lv_istore (lv' := [(4, .int 0), (0, .ref h0), (1, .int a0), (2, .int a1), (3, .int a2)]) hx hb dX11_differs_9 hl (by decide) rfl (fun ls hl => ?_)
    exact L_11 _ s.heap [] G 0 ls FR.rf pr0 pr1 pr2 (rg_w rl_0 (by decide) (by decide)) (Nat.lt_succ_self _) (lv_sub hl [1, 2, 3, 4, 0] rfl) hH hS
  · exact rg_no2 rl_24 pr2 (nlt_le c_77) (by decide)

def F_X11_alike (a0 : Int32) (a1 : Int32) : Int32 := (if (F_X10_has (1 : Int32) a0) = (0 : Int32) then (-1 : Int32) else (if (F_X10_has (1 : Int32) a1) = (0 : Int32) then (-1 : Int32) else (1 : Int32)))
set_option maxHeartbeats 4000000 in
set_option maxRecDepth 100000 in
theorem c_X11_alike (l : Launch) (g : Gx) (Ty : TyM) (G : Gh) (sz : Nat) (h0 : Nat) (a0 : Int32) (a1 : Int32) (k_h0 : Ty h0 = some (21, 0)) (hD1 : LD1 g) (h20 : G.1 20 = 1) (hp70 : G.2.1 (g.2.2 70) = P0) : Met l yX11_alike (wsG yX11_alike cX11_alike 3 (some .int)) ({ frames := 27, cells := 0, slots := 0, locals := 700 }) (PcT g Ty G sz [.ref h0, .int a0, .int a1]) (QwI g Ty sz (fun r u => u.1 = Ty ∧ FR [27] [] [] G u.2 ∧ F_X11_alike a0 a1 = r)) 0 0 (AF Ty sz) := by
  refine Met.ofW (cc := cX11_alike) (maxL := 3) (ret := (some .int)) (by decide) rfl ?_
  intro p e s m args below meth c s₁ B hml hv
  obtain ⟨rfl, hsz, hK, hH⟩ := hv
  subst hsz
  have hx := B.exec
  have hb := B.bytes
  have hr := B.returns
  have hts := atoms_spec (ws := (wsG yX11_alike cX11_alike 3 (some .int))) B.pre
  have hG : ∀ w ∈ GW, w.before ([.ref h0, .int a0, .int a1] : List Value).toArray s = true := fun w h => hts w (List.mem_cons_of_mem _ h)
  have hown : s.vm.findClass RX11 = some m.cls := findClass_of_methodNamed B.named
  have hlocks := B.notSynchronized
  have hl := lv_entry [.ref h0, .int a0, .int a1] (n := 3) (Nat.le_of_ble_eq_true rfl)
  rw [lg_entry_eq]
  generalize (lg_sl [.ref h0, .int a0, .int a1] ++ List.replicate (3 - (lg_sl [.ref h0, .int a0, .int a1]).length) Slot.unset).toArray = ls at hl ⊢
  have hl : lv_has ls 3 [(0, .ref h0), (1, .int a0), (2, .int a1)] := hl
  have hv : (if (F_X10_has (1 : Int32) a0) = (0 : Int32) then (-1 : Int32) else (if (F_X10_has (1 : Int32) a1) = (0 : Int32) then (-1 : Int32) else (1 : Int32))) = F_X11_alike a0 a1 := rfl
  have hS : va_S (AF Ty s.heap.size) s.heap s.heap [] := va_S.rf
  have L_22 : ∀ (H : Heap) (locs : List Loc) (G_22 : Gh) (ls : Array Slot), FR [27] [] [] G G_22 → lv_has ls 3 [] → (-1 : Int32) = F_X11_alike a0 a1 → HT g Ty G_22 H → va_S (AF Ty s.heap.size) s.heap H locs → Wm p l e (wsG yX11_alike cX11_alike 3 (some .int)) ({ frames := 27, cells := 0, slots := 0, locals := 700 }) s m [.ref h0, .int a0, .int a1] below meth c H locs (0) (0) (QwI g Ty s.heap.size (fun r u => u.1 = Ty ∧ FR [27] [] [] G u.2 ∧ F_X11_alike a0 a1 = r)) 0 0 (AF Ty s.heap.size) (F0 m 22 ls []) := by
    intro H locs G_22 ls frL_22 hl hv hH hS
    refine lv_iconst (v := (-1)) hx hb dX11_alike_22 (by decide) ?_
    exact W.iret hx hb hr (fun t ht hWm => ⟨⟨(-1), (Ty, G_22), rfl, ⟨rfl, ⟨frL_22, hv.symm⟩⟩, by show HT g Ty G_22 t.heap; rw [ht]; exact hH⟩, hS.F ht⟩) hS.2.2 dX11_alike_23
  refine lv_aload_n hx hb dX11_alike_0 rfl (lv_at hl 0 rfl) ?_
  obtain ⟨_, ⟨rfl, kq_2, kq_3, kq_4, kq_5, kq_6, kq_7, kq_8, kq_9, kq_10, kq_11, kq_12, kq_13, kq_14, kq_15, t_17⟩, o_c_1⟩ := hH h0 _ k_h0
  refine hg_get hx hb hG igX11 hown hK o_c_1 rfl 0 (by decide) (hG _ mw_357) rfl dX11_alike_1 ?_
  refine lv_iload_n hx hb dX11_alike_4 rfl (lv_at hl 1 rfl) ?_
  obtain ⟨_, ⟨rfl, kq_19, kq_20, kq_21, t_26⟩, o_c_18⟩ := hH (g.2.2 0) _ kq_2
  refine vp_callSi (W.runV (As := [.int a0]) (rest := []) ⟨hx, hb, hml, hown, hts⟩ (c_X10_has l g Ty G (g.2.2 0) a0 kq_2) (cwV 1 hts (gwV mw_603 mw_604 mw_605 mw_77 mw_606) rfl rfl rfl hv_X10_has ⟨Nat.le_of_ble_eq_true rfl, Nat.le_of_ble_eq_true rfl⟩) ⟨PcH_blind, hg_recv hK o_c_18 rfl, PcH_pre hK hH⟩ rfl rfl hl.1 rfl (lv_room (Nat.le_of_ble_eq_true rfl)) dX11_alike_5 ⟨Nat.zero_le _, Nat.zero_le _⟩) (fun x_27 hx_27 => ?_)
  have rx_27 : rgI (0) (1) x_27 := hx_27.1
  try rw [← hx_27.2.2] at hv
  have ex_28 : x_27 = F_X10_has 1 a0 := hx_27.2.2.trans (by rw [h20])
  try rw [← ex_28] at hv
  refine lv_if_eq (tgt := 22) hx hb dX11_alike_8 (by decide) (fun c_29 => ?_) (fun c_29 => ?_)
  · rw [if_pos c_29] at hv
    have r_30 : rgI (0) (0) x_27 := rg_w (rg_eq rl_0 c_29) (by decide) (by decide)
    exact L_22 s.heap [] G ls FR.rf (lv_sub hl [] rfl) hv hH hS
  · rw [if_neg c_29] at hv
    have r_31 : rgI (0) (0) a0 := rg_w (fz_has (by rw [← ex_28]; exact c_29)) (by decide) (by decide)
    have r_32 : rgI (1) (1) x_27 := rg_w (rg_neL rx_27 rl_0 c_29) (by decide) (by decide)
    refine lv_aload_n hx hb dX11_alike_11 rfl (lv_at hl 0 rfl) ?_
    refine hg_get hx hb hG igX11 hown hK o_c_1 rfl 0 (by decide) (hG _ mw_357) rfl dX11_alike_12 ?_
    refine lv_iload_n hx hb dX11_alike_15 rfl (lv_at hl 2 rfl) ?_
    refine vp_callSi (W.runV (As := [.int a1]) (rest := []) ⟨hx, hb, hml, hown, hts⟩ (c_X10_has l g Ty G (g.2.2 0) a1 kq_2) (cwV 1 hts (gwV mw_603 mw_604 mw_605 mw_77 mw_606) rfl rfl rfl hv_X10_has ⟨Nat.le_of_ble_eq_true rfl, Nat.le_of_ble_eq_true rfl⟩) ⟨PcH_blind, hg_recv hK o_c_18 rfl, PcH_pre hK hH⟩ rfl rfl hl.1 rfl (lv_room (Nat.le_of_ble_eq_true rfl)) dX11_alike_16 ⟨Nat.zero_le _, Nat.zero_le _⟩) (fun x_33 hx_33 => ?_)
    have rx_33 : rgI (0) (1) x_33 := hx_33.1
    try rw [← hx_33.2.2] at hv
    have ex_34 : x_33 = F_X10_has 1 a1 := hx_33.2.2.trans (by rw [h20])
    try rw [← ex_34] at hv
    refine lv_if_ne (tgt := 24) hx hb dX11_alike_19 (by decide) (fun c_35 => ?_) (fun c_35 => ?_)
    · rw [if_neg c_35] at hv
      have r_36 : rgI (0) (0) a1 := rg_w (fz_has (by rw [← ex_34]; exact c_35)) (by decide) (by decide)
      have r_37 : rgI (1) (1) x_33 := rg_w (rg_neL rx_33 rl_0 c_35) (by decide) (by decide)
      refine lv_aload_n hx hb dX11_alike_24 rfl (lv_at hl 0 rfl) ?_
      refine hg_get hx hb hG igX11 hown hK o_c_1 rfl 5 (by decide) (hG _ mw_362) rfl dX11_alike_25 ?_
      obtain ⟨_, ⟨q_39, rfl, kq_39, rq_40, t_41⟩, o_c_38⟩ := hH (g.2.2 5) _ kq_7
      refine va_callv (va_runV (As := []) (rest := []) ⟨hx, hb, hml, hown, hts⟩ (c_X7_clear_x l g Ty G s.heap.size (g.2.2 5) kq_7 hD1) (cwV 0 hts (gwV mw_932 mw_588 mw_589 mw_80 mw_590) rfl rfl rfl hv_X7_clear ⟨Nat.le_of_ble_eq_true rfl, Nat.le_of_ble_eq_true rfl⟩) ⟨PcT_blind, hg_recv hK o_c_38 rfl, PcT_pre hK hH⟩ rfl rfl hl.1 rfl (lv_room (Nat.le_of_ble_eq_true rfl)) dX11_alike_28 ⟨Nat.zero_le _, Nat.zero_le _⟩) hS (fun q _ h => AF.mono hS.1 h) (fun q h => AF.mono hS.1 h) (fun ux_42 t H locs ht hvm hx_42 hB hz hk hS => ?_)
      obtain ⟨eTx_42, eGx_42⟩ := hx_42
      obtain ⟨G_43, eG_43⟩ : ∃ z, z = ux_42.2 := ⟨_, rfl⟩
      rw [← eG_43] at eGx_42
      obtain ⟨hfr_44, hex_45⟩ := eGx_42
      have fr_46 : FR [27] [] [] G G_43 := FR.tr FR.rf hfr_44 (by decide) (fun _ _ => trivial) (by decide)
      have u_47 : G_43.1 20 = 1 := (hfr_44.1 20 (by decide)).trans h20
      have w_48 : G_43.2.1 (g.2.2 70) = P0 := (hfr_44.2.1 (g.2.2 70) trivial).trans hp70
      have hH : HT g Ty G_43 H := by rw [← ht, ← eTx_42, eG_43]; exact hB
      refine lv_aload_n hx hb dX11_alike_31 rfl (lv_at hl 0 rfl) ?_
      refine lv_iload_n hx hb dX11_alike_32 rfl (lv_at hl 1 rfl) ?_
      refine lv_iload_n hx hb dX11_alike_33 rfl (lv_at hl 2 rfl) ?_
      refine lv_iconst (v := 0) hx hb dX11_alike_34 (by decide) ?_
      obtain ⟨_, ⟨rfl, kq_50, kq_51, kq_52, kq_53, kq_54, kq_55, kq_56, kq_57, kq_58, kq_59, kq_60, kq_61, kq_62, kq_63, t_65⟩, o_c_49⟩ := hH h0 _ k_h0
      refine va_calli (va_runV (As := [.int a0, .int a1, .int 0]) (rest := []) ⟨hx, hb, hml, hown, hts⟩ (c_X11_differs l g Ty G_43 H.size h0 a0 a1 0 k_h0 (rg_w r_31 (by decide) (by decide)) (rg_w r_36 (by decide) (by decide)) (rg_w rl_0 (by decide) (by decide)) hD1 w_48) (cwV 3 hts (gwV mw_978 mw_980 mw_23 mw_76 mw_981) rfl rfl rfl hv_X11_differs ⟨Nat.le_of_ble_eq_true rfl, Nat.le_of_ble_eq_true rfl⟩) ⟨PcT_blind, hg_recv hK o_c_49 rfl, PcT_pre hK hH⟩ rfl rfl hl.1 rfl (lv_room (Nat.le_of_ble_eq_true rfl)) dX11_alike_35 ⟨Nat.zero_le _, Nat.zero_le _⟩) hS (fun q _ h => AF.mono hS.1 h) (fun q h => AF.mono hS.1 h) (fun x_66 ux_66 t H locs ht hvm hx_66 hB hz hk hS => ?_)
      obtain ⟨hx_66, fx_66⟩ := hx_66
      obtain ⟨eTx_66, eGx_66⟩ := fx_66
      obtain ⟨G_67, eG_67⟩ : ∃ z, z = ux_66.2 := ⟨_, rfl⟩
      rw [← eG_67] at eGx_66
      have fr_68 : FR [27] [] [] G G_67 := FR.tr fr_46 eGx_66 (by decide) (fun _ _ => trivial) (by decide)
      have u_69 : G_67.1 20 = 1 := (eGx_66.1 20 (by decide)).trans u_47
      have w_70 : G_67.2.1 (g.2.2 70) = P0 := (eGx_66.2.1 (g.2.2 70) trivial).trans w_48
      have hH : HT g Ty G_67 H := by rw [← ht, ← eTx_66, eG_67]; exact hB
      have rx_66 : rgI (0) (0) x_66 := hx_66
      have ecx_66 : x_66 = (0 : Int32) := rg_is (n := 0) rx_66 rfl
      rw [ecx_66]
      refine lv_if_eq (tgt := 45) hx hb dX11_alike_38 (by decide) (fun c_71 => ?_) (fun c_71 => ?_)
      · refine lv_iconst (v := 1) hx hb dX11_alike_45 (by decide) ?_
        exact W.iret hx hb hr (fun t ht hWm => ⟨⟨1, (Ty, G_67), rfl, ⟨rfl, ⟨fr_68, hv.symm⟩⟩, by show HT g Ty G_67 t.heap; rw [ht]; exact hH⟩, hS.F ht⟩) hS.2.2 dX11_alike_46
      · exact absurd rfl c_71
    · rw [if_pos c_35] at hv
      have r_72 : rgI (0) (0) x_33 := rg_w (rg_eq rl_0 c_35) (by decide) (by decide)
      exact L_22 s.heap [] G ls FR.rf (lv_sub hl [] rfl) hv hH hS

set_option maxHeartbeats 4000000 in
set_option maxRecDepth 100000 in
theorem c_X11_nimber (l : Launch) (g : Gx) (Ty : TyM) (G : Gh) (b0 : Nat) (a1 : Int32) (a2 : Int32) (a3 : Int32) (k_b0 : Ty b0 = some (24, 0)) (pr1 : rgI (0) (0) a1) (pr3 : rgI (0) (0) a3) (hp70 : G.2.1 (g.2.2 70) = P0) : Met l yX11_nimber (wsG yX11_nimber cX11_nimber 7 (some .int)) ({ frames := 26, cells := 0, slots := 0, locals := 674 }) (PcH g Ty G [.ref b0, .int a1, .int a2, .int a3]) (vp_Si (fun r => rgI (0) (0) r)) 0 0 (fun _ => False) := by
  refine Met.ofW (cc := cX11_nimber) (maxL := 7) (ret := (some .int)) (by decide) rfl ?_
  intro p e s m args below meth c s₁ B hml hv
  obtain ⟨rfl, hK, hH⟩ := hv
  have hx := B.exec
  have hb := B.bytes
  have hr := B.returns
  have hts := atoms_spec (ws := (wsG yX11_nimber cX11_nimber 7 (some .int))) B.pre
  have hG : ∀ w ∈ GW, w.before ([.ref b0, .int a1, .int a2, .int a3] : List Value).toArray s = true := fun w h => hts w (List.mem_cons_of_mem _ h)
  have hown : s.vm.findClass RX11 = some m.cls := findClass_of_methodNamed B.named
  have hlocks := B.notSynchronized
  have hl := lv_entry [.ref b0, .int a1, .int a2, .int a3] (n := 7) (Nat.le_of_ble_eq_true rfl)
  rw [lg_entry_eq]
  generalize (lg_sl [.ref b0, .int a1, .int a2, .int a3] ++ List.replicate (7 - (lg_sl [.ref b0, .int a1, .int a2, .int a3]).length) Slot.unset).toArray = ls at hl ⊢
  have hl : lv_has ls 7 [(0, .ref b0), (1, .int a1), (2, .int a2), (3, .int a3)] := hl
  have L_63 : ∀ (y4_63 : Int32) (ls : Array Slot), rgI (0) (0) y4_63 → lv_has ls 7 [(4, .int y4_63)] → Wm p l e (wsG yX11_nimber cX11_nimber 7 (some .int)) ({ frames := 26, cells := 0, slots := 0, locals := 674 }) s m [.ref b0, .int a1, .int a2, .int a3] below meth c s.heap [] (0) (0) (vp_Si (fun r => rgI (0) (0) r)) 0 0 (fun _ => False) (F0 m 63 ls []) := by
    intro y4_63 ls ry4_63 hl
    refine lv_iload hx hb dX11_nimber_63 (lv_at hl 0 rfl) ?_
    exact W.iret hx hb hr (fun t ht hW => ⟨y4_63, rfl, rg_w ry4_63 (by decide) (by decide), ht⟩) (fun q h => by cases h) dX11_nimber_65
  have L_6 : ∀ (n : Nat) (y4_6 : Int32) (y5_6 : Int32) (ls : Array Slot), rgI (0) (0) a1 → rgI (0) (0) a3 → rgI (0) (0) y4_6 → rgI (0) (4) y5_6 → (4 - (y5_6).toInt).toNat < n → lv_has ls 7 [(0, .ref b0), (1, .int a1), (2, .int a2), (3, .int a3), (4, .int y4_6), (5, .int y5_6)] → Wm p l e (wsG yX11_nimber cX11_nimber 7 (some .int)) ({ frames := 26, cells := 0, slots := 0, locals := 674 }) s m [.ref b0, .int a1, .int a2, .int a3] below meth c s.heap [] (0) (0) (vp_Si (fun r => rgI (0) (0) r)) 0 0 (fun _ => False) (F0 m 6 ls []) := by
    intro n
    induction n with
    | zero => intro y4_6 y5_6 ls ry1_6 ry3_6 ry4_6 ry5_6 hm; exact absurd hm (Nat.not_lt_zero _)
    | succ n ih_6 =>
      intro y4_6 y5_6 ls ry1_6 ry3_6 ry4_6 ry5_6 hm_6 hl
      have L_57 : ∀ (ls : Array Slot), rgI (0) (0) a1 → rgI (0) (0) a3 → rgI (0) (0) y4_6 → rgI (0) (3) y5_6 → lv_has ls 7 [(0, .ref b0), (1, .int a1), (2, .int a2), (3, .int a3), (4, .int y4_6), (5, .int y5_6)] → Wm p l e (wsG yX11_nimber cX11_nimber 7 (some .int)) ({ frames := 26, cells := 0, slots := 0, locals := 674 }) s m [.ref b0, .int a1, .int a2, .int a3] below meth c s.heap [] (0) (0) (vp_Si (fun r => rgI (0) (0) r)) 0 0 (fun _ => False) (F0 m 57 ls []) := by
        intro ls ry1_57 ry3_57 ry4_57 ry5_57 hl
        obtain ⟨x_1, ex_1⟩ : ∃ y : Int32, y = y5_6 + 1 := ⟨_, rfl⟩
        have rx_1 : rgI (1) (4) x_1 := by rw [ex_1]; exact rg_w (rg_add ry5_57 rl_1 (by decide) (by decide)) (by decide) (by decide)
        have qx_1 : x_1.toInt = (y5_6 : Int32).toInt + 1 := by rw [ex_1]; exact rg_addE ry5_57 rl_1 (by decide) (by decide)
        refine lv_iinc (v := x_1) (lv' := [(5, .int x_1), (0, .ref b0), (1, .int a1), (2, .int a2), (3, .int a3), (4, .int y4_6)]) hx hb dX11_nimber_57 hl (k := 5) rfl (by rw [ex_1]; rfl) (by decide) rfl (fun ls hl => ?_)
        refine lv_goto (tgt := 6) hx hb dX11_nimber_60 (by decide) ?_
        exact ih_6 y4_6 x_1 ls ry1_57 ry3_57 ry4_57 (rg_w rx_1 (by decide) (by decide)) (by have h1 := qx_1; have h2 := ry5_57.1; have h3 := ry5_57.2; have h4 := hm_6; omega) (lv_sub hl [1, 2, 3, 4, 5, 0] rfl)
      refine lv_iload hx hb dX11_nimber_6 (lv_at hl 5 rfl) ?_
      refine lv_iconst (v := 4) hx hb dX11_nimber_8 (by decide) ?_
      refine lv_icmp_ge (tgt := 63) hx hb dX11_nimber_9 (by decide) (fun c_2 => ?_) (fun c_2 => ?_)
      · have r_3 : rgI (4) (4) y5_6 := rg_w (rg_leR rl_4 ry5_6 c_2) (by decide) (by decide)
        exact L_63 y4_6 ls ry4_6 (lv_sub hl [4] rfl)
      · have r_4 : rgI (0) (3) y5_6 := rg_w (rg_ltL ry5_6 rl_4 (nle_lt c_2)) (by decide) (by decide)
        refine lv_iload_n hx hb dX11_nimber_12 rfl (lv_at hl 3 rfl) ?_
        refine lv_bipush (v := 24) hx hb dX11_nimber_13 (by decide) ?_
        refine lv_icmp_ge (tgt := 63) hx hb dX11_nimber_15 (by decide) (fun c_5 => ?_) (fun c_5 => ?_)
        · exact rg_no2 rl_24 ry3_6 c_5 (by decide)
        · refine lv_aload_n hx hb dX11_nimber_18 rfl (lv_at hl 0 rfl) ?_
          refine lv_iload_n hx hb dX11_nimber_19 rfl (lv_at hl 1 rfl) ?_
          refine lv_iload hx hb dX11_nimber_20 (lv_at hl 5 rfl) ?_
          obtain ⟨_, ⟨rfl, kq_7, kq_8, kq_9, t_14⟩, o_c_6⟩ := hH b0 _ k_b0
          refine vp_callSi (W.runV (As := [.int a1, .int y5_6]) (rest := []) ⟨hx, hb, hml, hown, hts⟩ (c_X10_mountAt l g Ty G b0 a1 y5_6 k_b0) (cwV 2 hts (gwV mw_582 mw_579 mw_580 mw_77 mw_581) rfl rfl rfl hv_X10_mountAt ⟨Nat.le_of_ble_eq_true rfl, Nat.le_of_ble_eq_true rfl⟩) ⟨PcH_blind, hg_recv hK o_c_6 rfl, PcH_pre hK hH⟩ rfl rfl hl.1 rfl (lv_room (Nat.le_of_ble_eq_true rfl)) dX11_nimber_22 ⟨Nat.zero_le _, Nat.zero_le _⟩) (fun x_15 hx_15 => ?_)
          have rx_15 : rgI (0) (24) x_15 := hx_15.1
          have ex_16 : x_15 = F_X10_mountAt P0 a1 y5_6 := hx_15.2.trans (by rw [hp70])
          try rw [← ex_16] at hv
          have fz_17 : rgI (24) (24) x_15 := by rw [ex_16]; exact fz_mountAt
          refine lv_istore (lv' := [(6, .int x_15), (0, .ref b0), (1, .int a1), (2, .int a2), (3, .int a3), (4, .int y4_6), (5, .int y5_6)]) hx hb dX11_nimber_25 hl (by decide) rfl (fun ls hl => ?_)
          refine lv_iload hx hb dX11_nimber_27 (lv_at hl 0 rfl) ?_
          refine lv_bipush (v := 24) hx hb dX11_nimber_29 (by decide) ?_
          refine lv_icmp_eq (tgt := 57) hx hb dX11_nimber_31 (by decide) (fun c_18 => ?_) (fun c_18 => ?_)
          · exact L_57  ls ry1_6 ry3_6 ry4_6 r_4 (lv_sub hl [1, 2, 3, 4, 5, 6] rfl)
          · exact absurd (rg_one fz_17 rl_24) c_18
  refine lv_iconst (v := 0) hx hb dX11_nimber_0 (by decide) ?_
  refine lv_istore (lv' := [(4, .int 0), (0, .ref b0), (1, .int a1), (2, .int a2), (3, .int a3)]) hx hb dX11_nimber_1 hl (by decide) rfl (fun ls hl => ?_)
  refine lv_iconst (v := 0) hx hb dX11_nimber_3 (by decide) ?_
  refine lv_istore (lv' := [(5, .int 0), (4, .int 0), (0, .ref b0), (1, .int a1), (2, .int a2), (3, .int a3)]) hx hb dX11_nimber_4 hl (by decide) rfl (fun ls hl => ?_)
  exact L_6 _ 0 0 ls pr1 pr3 (rg_w rl_0 (by decide) (by decide)) (rg_w rl_0 (by decide) (by decide)) (Nat.lt_succ_self _) (lv_sub hl [2, 3, 4, 5, 1, 0] rfl)

def F_X11_hacks (a0 : Int32) : Int32 := (if (F_X10_has (1 : Int32) a0) = (0 : Int32) then (-1 : Int32) else (0 : Int32))
set_option maxHeartbeats 4000000 in
set_option maxRecDepth 100000 in
theorem c_X11_hacks (l : Launch) (g : Gx) (Ty : TyM) (G : Gh) (sz : Nat) (h0 : Nat) (a0 : Int32) (k_h0 : Ty h0 = some (21, 0)) (hD1 : LD1 g) (h20 : G.1 20 = 1) (hp70 : G.2.1 (g.2.2 70) = P0) : Met l yX11_hacks (wsG yX11_hacks cX11_hacks 4 (some .int)) ({ frames := 27, cells := 0, slots := 0, locals := 700 }) (PcT g Ty G sz [.ref h0, .int a0]) (QwI g Ty sz (fun r u => u.1 = Ty ∧ FR [27] [] [] G u.2 ∧ F_X11_hacks a0 = r)) 0 0 (AF Ty sz) := by
  refine Met.ofW (cc := cX11_hacks) (maxL := 4) (ret := (some .int)) (by decide) rfl ?_
  intro p e s m args below meth c s₁ B hml hv
  obtain ⟨rfl, hsz, hK, hH⟩ := hv
  subst hsz
  have hx := B.exec
  have hb := B.bytes
  have hr := B.returns
  have hts := atoms_spec (ws := (wsG yX11_hacks cX11_hacks 4 (some .int))) B.pre
  have hG : ∀ w ∈ GW, w.before ([.ref h0, .int a0] : List Value).toArray s = true := fun w h => hts w (List.mem_cons_of_mem _ h)
  have hown : s.vm.findClass RX11 = some m.cls := findClass_of_methodNamed B.named
  have hlocks := B.notSynchronized
  have hl := lv_entry [.ref h0, .int a0] (n := 4) (Nat.le_of_ble_eq_true rfl)
  rw [lg_entry_eq]
  generalize (lg_sl [.ref h0, .int a0] ++ List.replicate (4 - (lg_sl [.ref h0, .int a0]).length) Slot.unset).toArray = ls at hl ⊢
  have hl : lv_has ls 4 [(0, .ref h0), (1, .int a0)] := hl
  have hv : (if (F_X10_has (1 : Int32) a0) = (0 : Int32) then (-1 : Int32) else (0 : Int32)) = F_X11_hacks a0 := rfl
  have hS : va_S (AF Ty s.heap.size) s.heap s.heap [] := va_S.rf
  refine lv_aload_n hx hb dX11_hacks_0 rfl (lv_at hl 0 rfl) ?_
  obtain ⟨_, ⟨rfl, kq_2, kq_3, kq_4, kq_5, kq_6, kq_7, kq_8, kq_9, kq_10, kq_11, kq_12, kq_13, kq_14, kq_15, t_17⟩, o_c_1⟩ := hH h0 _ k_h0
  refine hg_get hx hb hG igX11 hown hK o_c_1 rfl 0 (by decide) (hG _ mw_357) rfl dX11_hacks_1 ?_
  refine lv_iload_n hx hb dX11_hacks_4 rfl (lv_at hl 1 rfl) ?_
  obtain ⟨_, ⟨rfl, kq_19, kq_20, kq_21, t_26⟩, o_c_18⟩ := hH (g.2.2 0) _ kq_2
  refine vp_callSi (W.runV (As := [.int a0]) (rest := []) ⟨hx, hb, hml, hown, hts⟩ (c_X10_has l g Ty G (g.2.2 0) a0 kq_2) (cwV 1 hts (gwV mw_603 mw_604 mw_605 mw_77 mw_606) rfl rfl rfl hv_X10_has ⟨Nat.le_of_ble_eq_true rfl, Nat.le_of_ble_eq_true rfl⟩) ⟨PcH_blind, hg_recv hK o_c_18 rfl, PcH_pre hK hH⟩ rfl rfl hl.1 rfl (lv_room (Nat.le_of_ble_eq_true rfl)) dX11_hacks_5 ⟨Nat.zero_le _, Nat.zero_le _⟩) (fun x_27 hx_27 => ?_)
  have rx_27 : rgI (0) (1) x_27 := hx_27.1
  try rw [← hx_27.2.2] at hv
  have ex_28 : x_27 = F_X10_has 1 a0 := hx_27.2.2.trans (by rw [h20])
  try rw [← ex_28] at hv
  refine lv_if_ne (tgt := 13) hx hb dX11_hacks_8 (by decide) (fun c_29 => ?_) (fun c_29 => ?_)
  · rw [if_neg c_29] at hv
    have r_30 : rgI (0) (0) a0 := rg_w (fz_has (by rw [← ex_28]; exact c_29)) (by decide) (by decide)
    have r_31 : rgI (1) (1) x_27 := rg_w (rg_neL rx_27 rl_0 c_29) (by decide) (by decide)
    refine lv_aload_n hx hb dX11_hacks_13 rfl (lv_at hl 0 rfl) ?_
    refine hg_get hx hb hG igX11 hown hK o_c_1 rfl 5 (by decide) (hG _ mw_362) rfl dX11_hacks_14 ?_
    obtain ⟨_, ⟨q_33, rfl, kq_33, rq_34, t_35⟩, o_c_32⟩ := hH (g.2.2 5) _ kq_7
    refine va_callv (va_runV (As := []) (rest := []) ⟨hx, hb, hml, hown, hts⟩ (c_X7_clear_x l g Ty G s.heap.size (g.2.2 5) kq_7 hD1) (cwV 0 hts (gwV mw_932 mw_588 mw_589 mw_80 mw_590) rfl rfl rfl hv_X7_clear ⟨Nat.le_of_ble_eq_true rfl, Nat.le_of_ble_eq_true rfl⟩) ⟨PcT_blind, hg_recv hK o_c_32 rfl, PcT_pre hK hH⟩ rfl rfl hl.1 rfl (lv_room (Nat.le_of_ble_eq_true rfl)) dX11_hacks_17 ⟨Nat.zero_le _, Nat.zero_le _⟩) hS (fun q _ h => AF.mono hS.1 h) (fun q h => AF.mono hS.1 h) (fun ux_36 t H locs ht hvm hx_36 hB hz hk hS => ?_)
    obtain ⟨eTx_36, eGx_36⟩ := hx_36
    obtain ⟨G_37, eG_37⟩ : ∃ z, z = ux_36.2 := ⟨_, rfl⟩
    rw [← eG_37] at eGx_36
    obtain ⟨hfr_38, hex_39⟩ := eGx_36
    have fr_40 : FR [27] [] [] G G_37 := FR.tr FR.rf hfr_38 (by decide) (fun _ _ => trivial) (by decide)
    have u_41 : G_37.1 20 = 1 := (hfr_38.1 20 (by decide)).trans h20
    have w_42 : G_37.2.1 (g.2.2 70) = P0 := (hfr_38.2.1 (g.2.2 70) trivial).trans hp70
    have hH : HT g Ty G_37 H := by rw [← ht, ← eTx_36, eG_37]; exact hB
    refine lv_aload_n hx hb dX11_hacks_20 rfl (lv_at hl 0 rfl) ?_
    obtain ⟨_, ⟨rfl, kq_44, kq_45, kq_46, kq_47, kq_48, kq_49, kq_50, kq_51, kq_52, kq_53, kq_54, kq_55, kq_56, kq_57, t_59⟩, o_c_43⟩ := hH h0 _ k_h0
    refine hg_get hx hb hG igX11 hown hK o_c_43 rfl 0 (by decide) (hG _ mw_357) rfl dX11_hacks_21 ?_
    refine lv_iload_n hx hb dX11_hacks_24 rfl (lv_at hl 1 rfl) ?_
    refine lv_bipush (v := 24) hx hb dX11_hacks_25 (by decide) ?_
    refine lv_iconst (v := 0) hx hb dX11_hacks_27 (by decide) ?_
    refine vp_callSi (W.runS (As := [.ref (g.2.2 0), .int a0, .int 24, .int 0]) (rest := []) ⟨hx, hb, hml, hown, hts⟩ (c_X11_nimber l g Ty G_37 (g.2.2 0) a0 24 0 kq_44 (rg_w r_30 (by decide) (by decide)) (rg_w rl_0 (by decide) (by decide)) w_42) (cwSx 4 hts hG (gwC mw_1130) mw_76 mw_1128 mw_1129 rfl rfl rfl hd_X11_nimber ⟨Nat.le_of_ble_eq_true rfl, Nat.le_of_ble_eq_true rfl⟩) ⟨PcH_blind, PcH_pre hK hH⟩ rfl rfl hl.1 rfl (lv_room (Nat.le_of_ble_eq_true rfl)) dX11_hacks_28 ⟨Nat.zero_le _, Nat.zero_le _⟩) (fun x_60 hx_60 => ?_)
    have rx_60 : rgI (0) (0) x_60 := hx_60
    have ecx_60 : x_60 = (0 : Int32) := rg_is (n := 0) rx_60 rfl
    rw [ecx_60]
    refine lv_if_ne (tgt := 36) hx hb dX11_hacks_31 (by decide) (fun c_61 => ?_) (fun c_61 => ?_)
    · exact absurd rfl c_61
    · refine lv_iconst (v := 0) hx hb dX11_hacks_34 (by decide) ?_
      exact W.iret hx hb hr (fun t ht hWm => ⟨⟨0, (Ty, G_37), rfl, ⟨rfl, ⟨fr_40, hv.symm⟩⟩, by show HT g Ty G_37 t.heap; rw [ht]; exact hH⟩, hS.F ht⟩) hS.2.2 dX11_hacks_35
  · rw [if_pos c_29] at hv
    have r_62 : rgI (0) (0) x_27 := rg_w (rg_eq rl_0 c_29) (by decide) (by decide)
    refine lv_iconst (v := (-1)) hx hb dX11_hacks_11 (by decide) ?_
    exact W.iret hx hb hr (fun t ht hWm => ⟨⟨(-1), (Ty, G), rfl, ⟨rfl, ⟨FR.rf, hv.symm⟩⟩, by show HT g Ty G t.heap; rw [ht]; exact hH⟩, hS.F ht⟩) hS.2.2 dX11_hacks_12

set_option maxHeartbeats 4000000 in
set_option maxRecDepth 100000 in
theorem c_X0_copyTree (l : Launch) (g : Gx) (Ty : TyM) (G : Gh) (sz : Nat) (h0 : Nat) (a0 : Int32) (a1 : Int32) (a2 : Int32) (a3 : Int32) (a4 : Int32) (k_h0 : Ty h0 = some (10, 0)) (pr0 : rgI (0) (0) a0) (pr1 : rgI (0) (0) a1) (pr2 : rgI (0) (3) a2) (pr3 : rgI (1) (1) a3) (pr4 : rgI (0) (0) a4) (hD1 : LD1 g) (h20 : G.1 20 = 1) (hp70 : G.2.1 (g.2.2 70) = P0) (hp71 : G.2.1 (g.2.2 71) = Z0) (hp72 : G.2.1 (g.2.2 72) = Z0) : Met l yX0_copyTree (wsG yX0_copyTree cX0_copyTree 9 (some .int)) ({ frames := 27, cells := 0, slots := 0, locals := 747 }) (PcT g Ty G sz [.ref h0, .int a0, .int a1, .int a2, .int a3, .int a4]) (QwI g Ty sz (fun r u => (rgI (1) (1) r) ∧ u.1 = Ty ∧ FR [20] [(g.2.2 70), (g.2.2 71), (g.2.2 72)] [] G u.2)) 0 0 (AF Ty sz) := by
  refine Met.ofW (cc := cX0_copyTree) (maxL := 9) (ret := (some .int)) (by decide) rfl ?_
  intro p e s m args below meth c s₁ B hml hv
  obtain ⟨rfl, hsz, hK, hH⟩ := hv
  subst hsz
  have hx := B.exec
  have hb := B.bytes
  have hr := B.returns
  have hts := atoms_spec (ws := (wsG yX0_copyTree cX0_copyTree 9 (some .int))) B.pre
  have hG : ∀ w ∈ GW, w.before ([.ref h0, .int a0, .int a1, .int a2, .int a3, .int a4] : List Value).toArray s = true := fun w h => hts w (List.mem_cons_of_mem _ h)
  have hown : s.vm.findClass RX0 = some m.cls := findClass_of_methodNamed B.named
  have hlocks := B.notSynchronized
  have hl := lv_entry [.ref h0, .int a0, .int a1, .int a2, .int a3, .int a4] (n := 9) (Nat.le_of_ble_eq_true rfl)
  rw [lg_entry_eq]
  generalize (lg_sl [.ref h0, .int a0, .int a1, .int a2, .int a3, .int a4] ++ List.replicate (9 - (lg_sl [.ref h0, .int a0, .int a1, .int a2, .int a3, .int a4]).length) Slot.unset).toArray = ls at hl ⊢
  have hl : lv_has ls 9 [(0, .ref h0), (1, .int a0), (2, .int a1), (3, .int a2), (4, .int a3), (5, .int a4)] := hl
  have hS : va_S (AF Ty s.heap.size) s.heap s.heap [] := va_S.rf
  have L_95 : ∀ (H : Heap) (locs : List Loc) (G_95 : Gh) (fl0_95 : Nat → Int32) (y6_95 : Int32) (ls : Array Slot), FR [20] [(g.2.2 70), (g.2.2 71), (g.2.2 72)] [] G G_95 → G_95.2.1 (g.2.2 70) = fl0_95 → rgI (1) (1) y6_95 → lv_has ls 9 [(6, .int y6_95)] → HT g Ty G_95 H → va_S (AF Ty s.heap.size) s.heap H locs → Wm p l e (wsG yX0_copyTree cX0_copyTree 9 (some .int)) ({ frames := 27, cells := 0, slots := 0, locals := 747 }) s m [.ref h0, .int a0, .int a1, .int a2, .int a3, .int a4] below meth c H locs (0) (0) (QwI g Ty s.heap.size (fun r u => (rgI (1) (1) r) ∧ u.1 = Ty ∧ FR [20] [(g.2.2 70), (g.2.2 71), (g.2.2 72)] [] G u.2)) 0 0 (AF Ty s.heap.size) (F0 m 95 ls []) := by
    intro H locs G_95 fl0_95 y6_95 ls frL_95 efl0_95 ry6_95 hl hH hS
    refine lv_iload hx hb dX0_copyTree_95 (lv_at hl 0 rfl) ?_
    exact W.iret hx hb hr (fun t ht hWm => ⟨⟨y6_95, (Ty, G_95), rfl, ⟨rg_w ry6_95 (by decide) (by decide), ⟨rfl, frL_95⟩⟩, by show HT g Ty G_95 t.heap; rw [ht]; exact hH⟩, hS.F ht⟩) hS.2.2 dX0_copyTree_97
  have L_30 : ∀ (n : Nat) (H : Heap) (locs : List Loc) (G_30 : Gh) (fl0_30 : Nat → Int32) (y6_30 : Int32) (y7_30 : Int32) (ls : Array Slot), FR [20] [(g.2.2 70), (g.2.2 71), (g.2.2 72)] [] G G_30 → G_30.2.1 (g.2.2 70) = fl0_30 → rgI (0) (0) a0 → rgI (1) (1) a3 → rgI (0) (0) a4 → rgI (1) (1) y6_30 → rgI (0) (4) y7_30 → Q1 fl0_30 → (4 - (y7_30).toInt).toNat < n → lv_has ls 9 [(0, .ref h0), (1, .int a0), (4, .int a3), (5, .int a4), (6, .int y6_30), (7, .int y7_30)] → HT g Ty G_30 H → va_S (AF Ty s.heap.size) s.heap H locs → Wm p l e (wsG yX0_copyTree cX0_copyTree 9 (some .int)) ({ frames := 27, cells := 0, slots := 0, locals := 747 }) s m [.ref h0, .int a0, .int a1, .int a2, .int a3, .int a4] below meth c H locs (0) (0) (QwI g Ty s.heap.size (fun r u => (rgI (1) (1) r) ∧ u.1 = Ty ∧ FR [20] [(g.2.2 70), (g.2.2 71), (g.2.2 72)] [] G u.2)) 0 0 (AF Ty s.heap.size) (F0 m 30 ls []) := by
    intro n
    induction n with
    | zero => intro H locs G_30 fl0_30 y6_30 y7_30 ls frL_30 efl0_30 ry1_30 ry4_30 ry5_30 ry6_30 ry7_30 hi0_30 hm; exact absurd hm (Nat.not_lt_zero _)
    | succ n ih_30 =>
      intro H locs G_30 fl0_30 y6_30 y7_30 ls frL_30 efl0_30 ry1_30 ry4_30 ry5_30 ry6_30 ry7_30 hi0_30 hm_30 hl hH hS
      refine lv_iload hx hb dX0_copyTree_30 (lv_at hl 5 rfl) ?_
      refine lv_iconst (v := 4) hx hb dX0_copyTree_32 (by decide) ?_
      refine lv_icmp_ge (tgt := 95) hx hb dX0_copyTree_33 (by decide) (fun c_1 => ?_) (fun c_1 => ?_)
      · have r_2 : rgI (4) (4) y7_30 := rg_w (rg_leR rl_4 ry7_30 c_1) (by decide) (by decide)
        exact L_95 H locs G_30 fl0_30 y6_30 ls frL_30 efl0_30 ry6_30 (lv_sub hl [4] rfl) hH hS
      · have r_3 : rgI (0) (3) y7_30 := rg_w (rg_ltL ry7_30 rl_4 (nle_lt c_1)) (by decide) (by decide)
        refine lv_iload hx hb dX0_copyTree_36 (lv_at hl 3 rfl) ?_
        refine lv_bipush (v := 24) hx hb dX0_copyTree_38 (by decide) ?_
        refine lv_icmp_ge (tgt := 95) hx hb dX0_copyTree_40 (by decide) (fun c_4 => ?_) (fun c_4 => ?_)
        · exact rg_no2 rl_24 ry5_30 c_4 (by decide)
        · refine lv_aload_n hx hb dX0_copyTree_43 rfl (lv_at hl 0 rfl) ?_
          obtain ⟨_, ⟨rfl, kq_6, kq_7, kq_8⟩, o_c_5⟩ := hH h0 _ k_h0
          refine hg_get hx hb hG igX0 hown hK o_c_5 rfl 0 (by decide) (hG _ mw_239) rfl dX0_copyTree_44 ?_
          refine lv_iload_n hx hb dX0_copyTree_47 rfl (lv_at hl 1 rfl) ?_
          refine lv_iload hx hb dX0_copyTree_48 (lv_at hl 5 rfl) ?_
          obtain ⟨_, ⟨rfl, kq_10, kq_11, kq_12, t_17⟩, o_c_9⟩ := hH (g.2.2 0) _ kq_6
          refine vp_callSi (W.runV (As := [.int a0, .int y7_30]) (rest := []) ⟨hx, hb, hml, hown, hts⟩ (c_X10_mountAt l g Ty G_30 (g.2.2 0) a0 y7_30 kq_6) (cwV 2 hts (gwV mw_778 mw_579 mw_580 mw_77 mw_581) rfl rfl rfl hv_X10_mountAt ⟨Nat.le_of_ble_eq_true rfl, Nat.le_of_ble_eq_true rfl⟩) ⟨PcH_blind, hg_recv hK o_c_9 rfl, PcH_pre hK hH⟩ rfl rfl hl.1 rfl (lv_room (Nat.le_of_ble_eq_true rfl)) dX0_copyTree_50 ⟨Nat.zero_le _, Nat.zero_le _⟩) (fun x_18 hx_18 => ?_)
          have rx_18 : rgI (0) (24) x_18 := hx_18.1
          have ex_19 : x_18 = F_X10_mountAt fl0_30 a0 y7_30 := hx_18.2.trans (by rw [efl0_30])
          try rw [← ex_19] at hv
          have cm : rgI 1 24 x_18 ∧ (¬ x_18 = 24 → x_18 = 1) := q1_at hi0_30 pr0 (ex_19)
          refine lv_istore (lv' := [(8, .int x_18), (0, .ref h0), (1, .int a0), (4, .int a3), (5, .int a4), (6, .int y6_30), (7, .int y7_30)]) hx hb dX0_copyTree_53 hl (by decide) rfl (fun ls hl => ?_)
          refine lv_iload hx hb dX0_copyTree_55 (lv_at hl 0 rfl) ?_
          refine lv_bipush (v := 24) hx hb dX0_copyTree_57 (by decide) ?_
          refine lv_icmp_eq (tgt := 89) hx hb dX0_copyTree_59 (by decide) (fun c_20 => ?_) (fun c_20 => ?_)
          · have r_21 : rgI (24) (24) x_18 := rg_w (rg_eq rl_24 c_20) (by decide) (by decide)
            obtain ⟨x_22, ex_22⟩ : ∃ y : Int32, y = y7_30 + 1 := ⟨_, rfl⟩
            have rx_22 : rgI (1) (4) x_22 := by rw [ex_22]; exact rg_w (rg_add r_3 rl_1 (by decide) (by decide)) (by decide) (by decide)
            have qx_22 : x_22.toInt = (y7_30 : Int32).toInt + 1 := by rw [ex_22]; exact rg_addE r_3 rl_1 (by decide) (by decide)
            refine lv_iinc (v := x_22) (lv' := [(7, .int x_22), (8, .int x_18), (0, .ref h0), (1, .int a0), (4, .int a3), (5, .int a4), (6, .int y6_30)]) hx hb dX0_copyTree_89 hl (k := 6) rfl (by rw [ex_22]; rfl) (by decide) rfl (fun ls hl => ?_)
            refine lv_goto (tgt := 30) hx hb dX0_copyTree_92 (by decide) ?_
            exact ih_30 H locs G_30 fl0_30 y6_30 x_22 ls frL_30 efl0_30 ry1_30 ry4_30 ry5_30 ry6_30 (rg_w rx_22 (by decide) (by decide)) hi0_30 (by have h1 := qx_22; have h2 := r_3.1; have h3 := r_3.2; have h4 := hm_30; omega) (lv_sub hl [2, 3, 4, 5, 6, 0] rfl) hH hS
          · have r_23 : rgI (1) (23) x_18 := rg_w (rg_neR cm.1 rl_24 c_20) (by decide) (by decide)
            refine lv_iload hx hb dX0_copyTree_62 (lv_at hl 3 rfl) ?_
            refine lv_iconst (v := 1) hx hb dX0_copyTree_64 (by decide) ?_
            refine lv_iload hx hb dX0_copyTree_65 (lv_at hl 0 rfl) ?_
            refine lv_ishl hx hb dX0_copyTree_67 ?_
            refine lv_topi (fun x_24 ex_24 => ?_)
            refine lv_iand hx hb dX0_copyTree_68 ?_
            refine lv_topi (fun x_25 ex_25 => ?_)
            have ca : rgI 0 0 x_25 := ct_and0 ex_25 ex_24 pr3 (cm.2 c_20)
            refine lv_if_eq (tgt := 89) hx hb dX0_copyTree_69 (by decide) (fun c_26 => ?_) (fun c_26 => ?_)
            · obtain ⟨x_27, ex_27⟩ : ∃ y : Int32, y = y7_30 + 1 := ⟨_, rfl⟩
              have rx_27 : rgI (1) (4) x_27 := by rw [ex_27]; exact rg_w (rg_add r_3 rl_1 (by decide) (by decide)) (by decide) (by decide)
              have qx_27 : x_27.toInt = (y7_30 : Int32).toInt + 1 := by rw [ex_27]; exact rg_addE r_3 rl_1 (by decide) (by decide)
              refine lv_iinc (v := x_27) (lv' := [(7, .int x_27), (8, .int x_18), (0, .ref h0), (1, .int a0), (4, .int a3), (5, .int a4), (6, .int y6_30)]) hx hb dX0_copyTree_89 hl (k := 6) rfl (by rw [ex_27]; rfl) (by decide) rfl (fun ls hl => ?_)
              refine lv_goto (tgt := 30) hx hb dX0_copyTree_92 (by decide) ?_
              exact ih_30 H locs G_30 fl0_30 y6_30 x_27 ls frL_30 efl0_30 ry1_30 ry4_30 ry5_30 ry6_30 (rg_w rx_27 (by decide) (by decide)) hi0_30 (by have h1 := qx_27; have h2 := r_3.1; have h3 := r_3.2; have h4 := hm_30; omega) (lv_sub hl [2, 3, 4, 5, 6, 0] rfl) hH hS
            · exact absurd (rg_one ca rl_0) c_26
  refine lv_aload_n hx hb dX0_copyTree_0 rfl (lv_at hl 0 rfl) ?_
  obtain ⟨_, ⟨rfl, kq_29, kq_30, kq_31⟩, o_c_28⟩ := hH h0 _ k_h0
  refine hg_get hx hb hG igX0 hown hK o_c_28 rfl 0 (by decide) (hG _ mw_239) rfl dX0_copyTree_1 ?_
  refine lv_iload_n hx hb dX0_copyTree_4 rfl (lv_at hl 2 rfl) ?_
  refine lv_iload_n hx hb dX0_copyTree_5 rfl (lv_at hl 3 rfl) ?_
  refine lv_aload_n hx hb dX0_copyTree_6 rfl (lv_at hl 0 rfl) ?_
  refine hg_get hx hb hG igX0 hown hK o_c_28 rfl 0 (by decide) (hG _ mw_239) rfl dX0_copyTree_7 ?_
  refine lv_iload_n hx hb dX0_copyTree_10 rfl (lv_at hl 1 rfl) ?_
  obtain ⟨_, ⟨rfl, kq_33, kq_34, kq_35, t_40⟩, o_c_32⟩ := hH (g.2.2 0) _ kq_29
  refine vp_callSi (W.runV (As := [.int a0]) (rest := [.int a2, .int a1, .ref (g.2.2 0)]) ⟨hx, hb, hml, hown, hts⟩ (c_X10_groupOf l g Ty G (g.2.2 0) a0 kq_29) (cwV 1 hts (gwV mw_718 mw_608 mw_609 mw_77 mw_610) rfl rfl rfl hv_X10_groupOf ⟨Nat.le_of_ble_eq_true rfl, Nat.le_of_ble_eq_true rfl⟩) ⟨PcH_blind, hg_recv hK o_c_32 rfl, PcH_pre hK hH⟩ rfl rfl hl.1 rfl (lv_room (Nat.le_of_ble_eq_true rfl)) dX0_copyTree_11 ⟨Nat.zero_le _, Nat.zero_le _⟩) (fun x_41 hx_41 => ?_)
  have ex_42 : x_41 = F_X10_groupOf Z0 a0 := hx_41.trans (by rw [hp71])
  try rw [← ex_42] at hv
  have fz_43 : rgI (0) (0) x_41 := by rw [ex_42]; exact fz_groupOf
  refine lv_aload_n hx hb dX0_copyTree_14 rfl (lv_at hl 0 rfl) ?_
  refine hg_get hx hb hG igX0 hown hK o_c_28 rfl 0 (by decide) (hG _ mw_239) rfl dX0_copyTree_15 ?_
  refine lv_iload_n hx hb dX0_copyTree_18 rfl (lv_at hl 1 rfl) ?_
  refine vp_callSi (W.runV (As := [.int a0]) (rest := [.int x_41, .int a2, .int a1, .ref (g.2.2 0)]) ⟨hx, hb, hml, hown, hts⟩ (c_X10_masterOf l g Ty G (g.2.2 0) a0 kq_29) (cwV 1 hts (gwV mw_719 mw_612 mw_613 mw_77 mw_614) rfl rfl rfl hv_X10_masterOf ⟨Nat.le_of_ble_eq_true rfl, Nat.le_of_ble_eq_true rfl⟩) ⟨PcH_blind, hg_recv hK o_c_32 rfl, PcH_pre hK hH⟩ rfl rfl hl.1 rfl (lv_room (Nat.le_of_ble_eq_true rfl)) dX0_copyTree_19 ⟨Nat.zero_le _, Nat.zero_le _⟩) (fun x_44 hx_44 => ?_)
  have ex_45 : x_44 = F_X10_masterOf Z0 a0 := hx_44.trans (by rw [hp72])
  try rw [← ex_45] at hv
  refine va_calli (va_runV (As := [.int a1, .int a2, .int x_41, .int x_44]) (rest := []) ⟨hx, hb, hml, hown, hts⟩ (c_X10_put l g Ty G s.heap.size (g.2.2 0) a1 a2 x_41 x_44 kq_29 hD1) (cwV 4 hts (gwV mw_734 mw_735 mw_736 mw_77 mw_737) rfl rfl rfl hv_X10_put ⟨Nat.le_of_ble_eq_true rfl, Nat.le_of_ble_eq_true rfl⟩) ⟨PcT_blind, hg_recv hK o_c_32 rfl, PcT_pre hK hH⟩ rfl rfl hl.1 rfl (lv_room (Nat.le_of_ble_eq_true rfl)) dX0_copyTree_22 ⟨Nat.zero_le _, Nat.zero_le _⟩) hS (fun q _ h => AF.mono hS.1 h) (fun q h => AF.mono hS.1 h) (fun x_46 ux_46 t H locs ht hvm hx_46 hB hz hk hS => ?_)
  obtain ⟨hx_46, fx_46⟩ := hx_46
  obtain ⟨eTx_46, eGx_46⟩ := fx_46
  obtain ⟨G_47, eG_47⟩ : ∃ z, z = ux_46.2 := ⟨_, rfl⟩
  rw [← eG_47] at eGx_46
  obtain ⟨hfr_48, hex_49⟩ := eGx_46
  have fr_50 : FR [20] [(g.2.2 70), (g.2.2 71), (g.2.2 72)] [] G G_47 := FR.tr FR.rf hfr_48 (by decide) (fun b h => ⟨h.1, h.2.1, h.2.2.1, trivial⟩) (by decide)
  obtain ⟨f_51, ef_51⟩ : ∃ z : Nat → Int32, G_47.2.1 (g.2.2 70) = z := ⟨_, rfl⟩
  obtain ⟨f_52, ef_52⟩ : ∃ z : Nat → Int32, G_47.2.1 (g.2.2 71) = z := ⟨_, rfl⟩
  obtain ⟨f_53, ef_53⟩ : ∃ z : Nat → Int32, G_47.2.1 (g.2.2 72) = z := ⟨_, rfl⟩
  obtain ⟨n_54, en_54⟩ : ∃ z : Int32, G_47.1 20 = z := ⟨_, rfl⟩
  have hq_55 : F_X10_put P0 Z0 Z0 1 a1 a2 x_41 x_44 = (x_46, f_51, f_52, f_53, n_54) := by have q := hex_49; rw [hp70, hp71, hp72, h20, ef_51, ef_52, ef_53, en_54] at q; exact q
  have hH : HT g Ty G_47 H := by rw [← ht, ← eTx_46, eG_47]; exact hB
  have rx_46 : rgI (0) (24) x_46 := hx_46
  have pu := put_1 hq_55
  have pu1 : rgI 1 1 x_46 := pu.1
  refine lv_istore (lv' := [(6, .int x_46), (0, .ref h0), (1, .int a0), (2, .int a1), (3, .int a2), (4, .int a3), (5, .int a4)]) hx hb dX0_copyTree_25 hl (by decide) rfl (fun ls hl => ?_)
  refine lv_iconst (v := 0) hx hb dX0_copyTree_27 (by decide) ?_
  refine lv_istore (lv' := [(7, .int 0), (6, .int x_46), (0, .ref h0), (1, .int a0), (2, .int a1), (3, .int a2), (4, .int a3), (5, .int a4)]) hx hb dX0_copyTree_28 hl (by decide) rfl (fun ls hl => ?_)
  exact L_30 _ H locs G_47 f_51 x_46 0 ls fr_50 ef_51 pr0 pr3 pr4 pu1 (rg_w rl_0 (by decide) (by decide)) pu.2 (Nat.lt_succ_self _) (lv_sub hl [2, 3, 6, 7, 1, 0] rfl) hH hS

def F_X0_bindTree (m22 : Int32) (a0 : Int32) (a1 : Int32) (a2 : Int32) : Int32 × Int32 := (if (F_X10_has (1 : Int32) a0) = (0 : Int32) then ((-1 : Int32), m22) else (if (F_X10_hasPlace (1 : Int32) a1 a2) = (0 : Int32) then ((-1 : Int32), m22) else (if (F_X10_mountAt P0 a1 a2) = (24 : Int32) then (if (F_X10_isUnbindable (0 : Int32) a0) = (0 : Int32) then (if (F_X10_groupOf Z0 a1) = (0 : Int32) then (if ((F_X10_size (1 : Int32)) + (F_J6_bitCount_0f7a4 (F_X0_bindableTree P0 (0 : Int32) a0))) ≤ (24 : Int32) then ((1 : Int32), (m22 + (1 : Int32))) else ((-9 : Int32), m22)) else ((-4 : Int32), m22)) else ((-3 : Int32), m22)) else ((-2 : Int32), m22))))
set_option maxHeartbeats 4000000 in
set_option maxRecDepth 100000 in
theorem c_X0_bindTree (l : Launch) (g : Gx) (Ty : TyM) (G : Gh) (sz : Nat) (h0 : Nat) (a0 : Int32) (a1 : Int32) (a2 : Int32) (k_h0 : Ty h0 = some (10, 0)) (hD1 : LD1 g) (h20 : G.1 20 = 1) (h21 : G.1 21 = 0) (hp70 : G.2.1 (g.2.2 70) = P0) (hp71 : G.2.1 (g.2.2 71) = Z0) (hp72 : G.2.1 (g.2.2 72) = Z0) : Met l yX0_bindTree (wsG yX0_bindTree cX0_bindTree 5 (some .int)) ({ frames := 28, cells := 0, slots := 0, locals := 775 }) (PcT g Ty G sz [.ref h0, .int a0, .int a1, .int a2]) (QwI g Ty sz (fun r u => u.1 = Ty ∧ FR [20, 22] [(g.2.2 70), (g.2.2 71), (g.2.2 72)] [] G u.2 ∧ F_X0_bindTree (G.1 22) a0 a1 a2 = (r, (u.2.1 22)))) 0 0 (AF Ty sz) := by
  refine Met.ofW (cc := cX0_bindTree) (maxL := 5) (ret := (some .int)) (by decide) rfl ?_
  intro p e s m args below meth c s₁ B hml hv
  obtain ⟨rfl, hsz, hK, hH⟩ := hv
  subst hsz
  have hx := B.exec
  have hb := B.bytes
  have hr := B.returns
  have hts := atoms_spec (ws := (wsG yX0_bindTree cX0_bindTree 5 (some .int))) B.pre
  have hG : ∀ w ∈ GW, w.before ([.ref h0, .int a0, .int a1, .int a2] : List Value).toArray s = true := fun w h => hts w (List.mem_cons_of_mem _ h)
  have hown : s.vm.findClass RX0 = some m.cls := findClass_of_methodNamed B.named
  have hlocks := B.notSynchronized
  have hl := lv_entry [.ref h0, .int a0, .int a1, .int a2] (n := 5) (Nat.le_of_ble_eq_true rfl)
  rw [lg_entry_eq]
  generalize (lg_sl [.ref h0, .int a0, .int a1, .int a2] ++ List.replicate (5 - (lg_sl [.ref h0, .int a0, .int a1, .int a2]).length) Slot.unset).toArray = ls at hl ⊢
  have hl : lv_has ls 5 [(0, .ref h0), (1, .int a0), (2, .int a1), (3, .int a2)] := hl
  have hv : (if (F_X10_has (1 : Int32) a0) = (0 : Int32) then ((-1 : Int32), (G.1 22)) else (if (F_X10_hasPlace (1 : Int32) a1 a2) = (0 : Int32) then ((-1 : Int32), (G.1 22)) else (if (F_X10_mountAt P0 a1 a2) = (24 : Int32) then (if (F_X10_isUnbindable (0 : Int32) a0) = (0 : Int32) then (if (F_X10_groupOf Z0 a1) = (0 : Int32) then (if ((F_X10_size (1 : Int32)) + (F_J6_bitCount_0f7a4 (F_X0_bindableTree P0 (0 : Int32) a0))) ≤ (24 : Int32) then ((1 : Int32), ((G.1 22) + (1 : Int32))) else ((-9 : Int32), (G.1 22))) else ((-4 : Int32), (G.1 22))) else ((-3 : Int32), (G.1 22))) else ((-2 : Int32), (G.1 22))))) = F_X0_bindTree (G.1 22) a0 a1 a2 := rfl
  have hS : va_S (AF Ty s.heap.size) s.heap s.heap [] := va_S.rf
  have L_23 : ∀ (H : Heap) (locs : List Loc) (G_23 : Gh) (nl22_23 : Int32) (ls : Array Slot), FR [20, 22] [(g.2.2 70), (g.2.2 71), (g.2.2 72)] [] G G_23 → G_23.1 22 = nl22_23 → lv_has ls 5 [] → ((-1 : Int32), nl22_23) = F_X0_bindTree (G.1 22) a0 a1 a2 → HT g Ty G_23 H → va_S (AF Ty s.heap.size) s.heap H locs → Wm p l e (wsG yX0_bindTree cX0_bindTree 5 (some .int)) ({ frames := 28, cells := 0, slots := 0, locals := 775 }) s m [.ref h0, .int a0, .int a1, .int a2] below meth c H locs (0) (0) (QwI g Ty s.heap.size (fun r u => u.1 = Ty ∧ FR [20, 22] [(g.2.2 70), (g.2.2 71), (g.2.2 72)] [] G u.2 ∧ F_X0_bindTree (G.1 22) a0 a1 a2 = (r, (u.2.1 22)))) 0 0 (AF Ty s.heap.size) (F0 m 23 ls []) := by
    intro H locs G_23 nl22_23 ls frL_23 enl22_23 hl hv hH hS
    refine lv_iconst (v := (-1)) hx hb dX0_bindTree_23 (by decide) ?_
    exact W.iret hx hb hr (fun t ht hWm => ⟨⟨(-1), (Ty, G_23), rfl, ⟨rfl, ⟨frL_23, hv.symm.trans (by rw [enl22_23])⟩⟩, by show HT g Ty G_23 t.heap; rw [ht]; exact hH⟩, hS.F ht⟩) hS.2.2 dX0_bindTree_24
  refine lv_aload_n hx hb dX0_bindTree_0 rfl (lv_at hl 0 rfl) ?_
  obtain ⟨_, ⟨rfl, kq_2, kq_3, kq_4⟩, o_c_1⟩ := hH h0 _ k_h0
  refine hg_get hx hb hG igX0 hown hK o_c_1 rfl 0 (by decide) (hG _ mw_239) rfl dX0_bindTree_1 ?_
  refine lv_iload_n hx hb dX0_bindTree_4 rfl (lv_at hl 1 rfl) ?_
  obtain ⟨_, ⟨rfl, kq_6, kq_7, kq_8, t_13⟩, o_c_5⟩ := hH (g.2.2 0) _ kq_2
  refine vp_callSi (W.runV (As := [.int a0]) (rest := []) ⟨hx, hb, hml, hown, hts⟩ (c_X10_has l g Ty G (g.2.2 0) a0 kq_2) (cwV 1 hts (gwV mw_765 mw_604 mw_605 mw_77 mw_606) rfl rfl rfl hv_X10_has ⟨Nat.le_of_ble_eq_true rfl, Nat.le_of_ble_eq_true rfl⟩) ⟨PcH_blind, hg_recv hK o_c_5 rfl, PcH_pre hK hH⟩ rfl rfl hl.1 rfl (lv_room (Nat.le_of_ble_eq_true rfl)) dX0_bindTree_5 ⟨Nat.zero_le _, Nat.zero_le _⟩) (fun x_14 hx_14 => ?_)
  have rx_14 : rgI (0) (1) x_14 := hx_14.1
  try rw [← hx_14.2.2] at hv
  have ex_15 : x_14 = F_X10_has 1 a0 := hx_14.2.2.trans (by rw [h20])
  try rw [← ex_15] at hv
  refine lv_if_eq (tgt := 23) hx hb dX0_bindTree_8 (by decide) (fun c_16 => ?_) (fun c_16 => ?_)
  · rw [if_pos c_16] at hv
    have r_17 : rgI (0) (0) x_14 := rg_w (rg_eq rl_0 c_16) (by decide) (by decide)
    exact L_23 s.heap [] G (G.1 22) ls FR.rf rfl (lv_sub hl [] rfl) hv hH hS
  · rw [if_neg c_16] at hv
    have r_18 : rgI (0) (0) a0 := rg_w (fz_has (by rw [← ex_15]; exact c_16)) (by decide) (by decide)
    have r_19 : rgI (1) (1) x_14 := rg_w (rg_neL rx_14 rl_0 c_16) (by decide) (by decide)
    refine lv_aload_n hx hb dX0_bindTree_11 rfl (lv_at hl 0 rfl) ?_
    refine hg_get hx hb hG igX0 hown hK o_c_1 rfl 0 (by decide) (hG _ mw_239) rfl dX0_bindTree_12 ?_
    refine lv_iload_n hx hb dX0_bindTree_15 rfl (lv_at hl 2 rfl) ?_
    refine lv_iload_n hx hb dX0_bindTree_16 rfl (lv_at hl 3 rfl) ?_
    refine vp_callSi (W.runV (As := [.int a1, .int a2]) (rest := []) ⟨hx, hb, hml, hown, hts⟩ (c_X10_hasPlace l g Ty G (g.2.2 0) a1 a2 kq_2) (cwV 2 hts (gwV mw_640 mw_641 mw_642 mw_77 mw_643) rfl rfl rfl hv_X10_hasPlace ⟨Nat.le_of_ble_eq_true rfl, Nat.le_of_ble_eq_true rfl⟩) ⟨PcH_blind, hg_recv hK o_c_5 rfl, PcH_pre hK hH⟩ rfl rfl hl.1 rfl (lv_room (Nat.le_of_ble_eq_true rfl)) dX0_bindTree_17 ⟨Nat.zero_le _, Nat.zero_le _⟩) (fun x_20 hx_20 => ?_)
    have rx_20 : rgI (0) (1) x_20 := hx_20.1
    try rw [← hx_20.2.2] at hv
    have ex_21 : x_20 = F_X10_hasPlace 1 a1 a2 := hx_20.2.2.trans (by rw [h20])
    try rw [← ex_21] at hv
    refine lv_if_ne (tgt := 25) hx hb dX0_bindTree_20 (by decide) (fun c_22 => ?_) (fun c_22 => ?_)
    · rw [if_neg c_22] at hv
      have r_23 : rgI (0) (0) a1 := rg_w ((fz_hasPlace (by rw [← ex_21]; exact c_22)).1) (by decide) (by decide)
      have r_24 : rgI (0) (3) a2 := rg_w ((fz_hasPlace (by rw [← ex_21]; exact c_22)).2) (by decide) (by decide)
      have r_25 : rgI (1) (1) x_20 := rg_w (rg_neL rx_20 rl_0 c_22) (by decide) (by decide)
      refine lv_aload_n hx hb dX0_bindTree_25 rfl (lv_at hl 0 rfl) ?_
      refine hg_get hx hb hG igX0 hown hK o_c_1 rfl 0 (by decide) (hG _ mw_239) rfl dX0_bindTree_26 ?_
      refine lv_iload_n hx hb dX0_bindTree_29 rfl (lv_at hl 2 rfl) ?_
      refine lv_iload_n hx hb dX0_bindTree_30 rfl (lv_at hl 3 rfl) ?_
      refine vp_callSi (W.runV (As := [.int a1, .int a2]) (rest := []) ⟨hx, hb, hml, hown, hts⟩ (c_X10_mountAt l g Ty G (g.2.2 0) a1 a2 kq_2) (cwV 2 hts (gwV mw_778 mw_579 mw_580 mw_77 mw_581) rfl rfl rfl hv_X10_mountAt ⟨Nat.le_of_ble_eq_true rfl, Nat.le_of_ble_eq_true rfl⟩) ⟨PcH_blind, hg_recv hK o_c_5 rfl, PcH_pre hK hH⟩ rfl rfl hl.1 rfl (lv_room (Nat.le_of_ble_eq_true rfl)) dX0_bindTree_31 ⟨Nat.zero_le _, Nat.zero_le _⟩) (fun x_26 hx_26 => ?_)
      have rx_26 : rgI (0) (24) x_26 := hx_26.1
      try rw [← hx_26.2] at hv
      have ex_27 : x_26 = F_X10_mountAt P0 a1 a2 := hx_26.2.trans (by rw [hp70])
      try rw [← ex_27] at hv
      have fz_28 : rgI (24) (24) x_26 := by rw [ex_27]; exact fz_mountAt
      refine lv_bipush (v := 24) hx hb dX0_bindTree_34 (by decide) ?_
      refine lv_icmp_eq (tgt := 42) hx hb dX0_bindTree_36 (by decide) (fun c_29 => ?_) (fun c_29 => ?_)
      · rw [if_pos c_29] at hv
        refine lv_aload_n hx hb dX0_bindTree_42 rfl (lv_at hl 0 rfl) ?_
        refine hg_get hx hb hG igX0 hown hK o_c_1 rfl 0 (by decide) (hG _ mw_239) rfl dX0_bindTree_43 ?_
        refine lv_iload_n hx hb dX0_bindTree_46 rfl (lv_at hl 1 rfl) ?_
        refine vp_callSi (W.runV (As := [.int a0]) (rest := []) ⟨hx, hb, hml, hown, hts⟩ (c_X10_isUnbindable l g Ty G (g.2.2 0) a0 kq_2) (cwV 1 hts (gwV mw_766 mw_767 mw_768 mw_77 mw_769) rfl rfl rfl hv_X10_isUnbindable ⟨Nat.le_of_ble_eq_true rfl, Nat.le_of_ble_eq_true rfl⟩) ⟨PcH_blind, hg_recv hK o_c_5 rfl, PcH_pre hK hH⟩ rfl rfl hl.1 rfl (lv_room (Nat.le_of_ble_eq_true rfl)) dX0_bindTree_47 ⟨Nat.zero_le _, Nat.zero_le _⟩) (fun x_30 hx_30 => ?_)
        have rx_30 : rgI (0) (1) x_30 := hx_30.1
        try rw [← hx_30.2.2] at hv
        have ex_31 : x_30 = F_X10_isUnbindable 0 a0 := hx_30.2.2.trans (by rw [h21])
        try rw [← ex_31] at hv
        have fz_32 : rgI (0) (0) x_30 := by rw [ex_31]; exact fz_isUnbindable
        refine lv_if_eq (tgt := 56) hx hb dX0_bindTree_50 (by decide) (fun c_33 => ?_) (fun c_33 => ?_)
        · rw [if_pos c_33] at hv
          refine lv_aload_n hx hb dX0_bindTree_56 rfl (lv_at hl 0 rfl) ?_
          refine hg_get hx hb hG igX0 hown hK o_c_1 rfl 0 (by decide) (hG _ mw_239) rfl dX0_bindTree_57 ?_
          refine lv_iload_n hx hb dX0_bindTree_60 rfl (lv_at hl 2 rfl) ?_
          refine vp_callSi (W.runV (As := [.int a1]) (rest := []) ⟨hx, hb, hml, hown, hts⟩ (c_X10_groupOf l g Ty G (g.2.2 0) a1 kq_2) (cwV 1 hts (gwV mw_718 mw_608 mw_609 mw_77 mw_610) rfl rfl rfl hv_X10_groupOf ⟨Nat.le_of_ble_eq_true rfl, Nat.le_of_ble_eq_true rfl⟩) ⟨PcH_blind, hg_recv hK o_c_5 rfl, PcH_pre hK hH⟩ rfl rfl hl.1 rfl (lv_room (Nat.le_of_ble_eq_true rfl)) dX0_bindTree_61 ⟨Nat.zero_le _, Nat.zero_le _⟩) (fun x_34 hx_34 => ?_)
          try rw [← hx_34] at hv
          have ex_35 : x_34 = F_X10_groupOf Z0 a1 := hx_34.trans (by rw [hp71])
          try rw [← ex_35] at hv
          have fz_36 : rgI (0) (0) x_34 := by rw [ex_35]; exact fz_groupOf
          refine lv_if_eq (tgt := 70) hx hb dX0_bindTree_64 (by decide) (fun c_37 => ?_) (fun c_37 => ?_)
          · rw [if_pos c_37] at hv
            refine lv_aload_n hx hb dX0_bindTree_70 rfl (lv_at hl 0 rfl) ?_
            refine lv_iload_n hx hb dX0_bindTree_71 rfl (lv_at hl 1 rfl) ?_
            refine vp_callSi (W.runV (As := [.int a0]) (rest := []) ⟨hx, hb, hml, hown, hts⟩ (c_X0_bindableTree l g Ty G h0 a0 k_h0) (cwV 1 hts (gwV mw_779 mw_781 mw_17 mw_82 mw_782) rfl rfl rfl hv_X0_bindableTree ⟨Nat.le_of_ble_eq_true rfl, Nat.le_of_ble_eq_true rfl⟩) ⟨PcH_blind, hg_recv hK o_c_1 rfl, PcH_pre hK hH⟩ rfl rfl hl.1 rfl (lv_room (Nat.le_of_ble_eq_true rfl)) dX0_bindTree_72 ⟨Nat.zero_le _, Nat.zero_le _⟩) (fun x_38 hx_38 => ?_)
            try rw [← hx_38] at hv
            have ex_39 : x_38 = F_X0_bindableTree P0 0 a0 := hx_38.trans (by rw [hp70, h21])
            try rw [← ex_39] at hv
            have fz_40 : rgI (1) (1) x_38 := by rw [ex_39]; exact (fz_bindable r_18)
            refine lv_istore (lv' := [(4, .int x_38), (0, .ref h0), (1, .int a0), (2, .int a1), (3, .int a2)]) hx hb dX0_bindTree_75 hl (by decide) rfl (fun ls hl => ?_)
            refine lv_aload_n hx hb dX0_bindTree_77 rfl (lv_at hl 1 rfl) ?_
            refine hg_get hx hb hG igX0 hown hK o_c_1 rfl 0 (by decide) (hG _ mw_239) rfl dX0_bindTree_78 ?_
            refine vp_callSi (W.runV (As := []) (rest := []) ⟨hx, hb, hml, hown, hts⟩ (c_X10_size l g Ty G (g.2.2 0) kq_2) (cwV 0 hts (gwV mw_708 mw_709 mw_710 mw_77 mw_711) rfl rfl rfl hv_X10_size ⟨Nat.le_of_ble_eq_true rfl, Nat.le_of_ble_eq_true rfl⟩) ⟨PcH_blind, hg_recv hK o_c_5 rfl, PcH_pre hK hH⟩ rfl rfl hl.1 rfl (lv_room (Nat.le_of_ble_eq_true rfl)) dX0_bindTree_81 ⟨Nat.zero_le _, Nat.zero_le _⟩) (fun x_41 hx_41 => ?_)
            try rw [← hx_41] at hv
            have ex_42 : x_41 = F_X10_size 1 := hx_41.trans (by rw [h20])
            try rw [← ex_42] at hv
            have fz_43 : rgI (1) (1) x_41 := by rw [ex_42]; exact fz_size
            refine lv_iload hx hb dX0_bindTree_84 (lv_at hl 0 rfl) ?_
            refine vp_callSi (W.runS (As := [.int x_38]) (rest := [.int x_41]) ⟨hx, hb, hml, hown, hts⟩ (c_J6_bitCount_x l g Ty G x_38 ) (cwSx 1 hts hG (gwC mw_620) mw_99 mw_713 mw_619 rfl rfl rfl hd_J6_bitCount_0f7a4 ⟨Nat.le_of_ble_eq_true rfl, Nat.le_of_ble_eq_true rfl⟩) ⟨PcH_blind, PcH_pre hK hH⟩ rfl rfl hl.1 rfl (lv_room (Nat.le_of_ble_eq_true rfl)) dX0_bindTree_86 ⟨Nat.zero_le _, Nat.zero_le _⟩) (fun x_44 hx_44 => ?_)
            have rx_44 : rgI (0) (63) x_44 := hx_44.1
            try rw [← hx_44.2] at hv
            try rw [← hx_44.2] at hv
            have fz_45 : rgI (1) (1) x_44 := by rw [hx_44.2]; exact (fz_bc1 fz_40)
            refine lv_iadd hx hb dX0_bindTree_89 ?_
            refine lv_topi (fun x_46 ex_46 => ?_)
            try rw [← ex_46] at hv
            have rx_46 : rgI (2) (2) x_46 := by rw [ex_46]; exact rg_w (rg_add fz_43 fz_45 (by decide) (by decide)) (by decide) (by decide)
            refine lv_bipush (v := 24) hx hb dX0_bindTree_90 (by decide) ?_
            refine lv_icmp_le (tgt := 98) hx hb dX0_bindTree_92 (by decide) (fun c_47 => ?_) (fun c_47 => ?_)
            · rw [if_pos c_47] at hv
              refine lv_aload_n hx hb dX0_bindTree_98 rfl (lv_at hl 1 rfl) ?_
              refine hg_get hx hb hG igX0 hown hK o_c_1 rfl 0 (by decide) (hG _ mw_239) rfl dX0_bindTree_99 ?_
              refine lv_dup hx hb dX0_bindTree_102 rfl ?_
              refine hg_getN hx hb hG igX10 hown hK o_c_5 rfl 5 (by decide) ((hK.2.1 _ nwf_125).use rfl) rfl dX0_bindTree_103 ?_
              refine lv_iconst (v := 1) hx hb dX0_bindTree_106 (by decide) ?_
              refine lv_iadd hx hb dX0_bindTree_107 ?_
              refine lv_topi (fun x_48 ex_48 => ?_)
              try rw [← ex_48] at hv
              refine hg_putN (ty := .int) hx hb hG igX10 tyX10 tyX10_ok nmX10 hown hK hS o_c_5 (AF.of kq_2) rfl 5 (by decide) ((hK.2.1 _ nwf_125).use rfl) rfl (by decide +kernel) rfl rfl (Nat.le_of_ble_eq_true rfl) dX0_bindTree_108 (fun H locs o_c_5 hz oq hS => ?_)
              obtain ⟨G_49, eG_49⟩ : ∃ z : Gh, z = gset G 22 x_48 := ⟨_, rfl⟩
              have hH : HT g Ty G_49 H := by rw [eG_49]; exact HT.putM 22 x_48 hH kq_2 ⟨rfl, kq_6, kq_7, kq_8, t_13⟩ o_c_5 oq (⟨⟨by decide, by decide⟩, t_13⟩)
              have fr_50 : FR [20, 22] [(g.2.2 70), (g.2.2 71), (g.2.2 72)] [] G G_49 := FR.n FR.rf eG_49 (by decide)
              have u_51 : G_49.1 20 = 1 := by rw [eG_49]; exact (gs_ne (by decide)).trans h20
              have u_52 : G_49.1 21 = 0 := by rw [eG_49]; exact (gs_ne (by decide)).trans h21
              have u_53 : G_49.1 22 = x_48 := by rw [eG_49]; exact gs_eq
              have w_54 : G_49.2.1 (g.2.2 70) = P0 := by rw [eG_49]; exact hp70
              have w_55 : G_49.2.1 (g.2.2 71) = Z0 := by rw [eG_49]; exact hp71
              have w_56 : G_49.2.1 (g.2.2 72) = Z0 := by rw [eG_49]; exact hp72
              clear oq hz
              refine lv_aload_n hx hb dX0_bindTree_111 rfl (lv_at hl 1 rfl) ?_
              refine lv_iload_n hx hb dX0_bindTree_112 rfl (lv_at hl 2 rfl) ?_
              refine lv_iload_n hx hb dX0_bindTree_113 rfl (lv_at hl 3 rfl) ?_
              refine lv_iload_n hx hb dX0_bindTree_114 rfl (lv_at hl 4 rfl) ?_
              refine lv_iload hx hb dX0_bindTree_115 (lv_at hl 0 rfl) ?_
              refine lv_iconst (v := 0) hx hb dX0_bindTree_117 (by decide) ?_
              obtain ⟨_, ⟨rfl, kq_58, kq_59, kq_60⟩, o_c_57⟩ := hH h0 _ k_h0
              refine va_calli (va_runV (As := [.int a0, .int a1, .int a2, .int x_38, .int 0]) (rest := []) ⟨hx, hb, hml, hown, hts⟩ (c_X0_copyTree l g Ty G_49 H.size h0 a0 a1 a2 x_38 0 k_h0 (rg_w r_18 (by decide) (by decide)) (rg_w r_23 (by decide) (by decide)) (rg_w r_24 (by decide) (by decide)) (rg_w fz_40 (by decide) (by decide)) (rg_w rl_0 (by decide) (by decide)) hD1 u_51 w_54 w_55 w_56) (cwV 5 hts (gwV mw_784 mw_786 mw_18 mw_82 mw_787) rfl rfl rfl hv_X0_copyTree ⟨Nat.le_of_ble_eq_true rfl, Nat.le_of_ble_eq_true rfl⟩) ⟨PcT_blind, hg_recv hK o_c_57 rfl, PcT_pre hK hH⟩ rfl rfl hl.1 rfl (lv_room (Nat.le_of_ble_eq_true rfl)) dX0_bindTree_118 ⟨Nat.zero_le _, Nat.zero_le _⟩) hS (fun q _ h => AF.mono hS.1 h) (fun q h => AF.mono hS.1 h) (fun x_61 ux_61 t H locs ht hvm hx_61 hB hz hk hS => ?_)
              obtain ⟨hx_61, fx_61⟩ := hx_61
              obtain ⟨eTx_61, eGx_61⟩ := fx_61
              obtain ⟨G_62, eG_62⟩ : ∃ z, z = ux_61.2 := ⟨_, rfl⟩
              rw [← eG_62] at eGx_61
              have fr_63 : FR [20, 22] [(g.2.2 70), (g.2.2 71), (g.2.2 72)] [] G G_62 := FR.tr fr_50 eGx_61 (by decide) (fun b h => ⟨h.1, h.2.1, h.2.2.1, trivial⟩) (by decide)
              have u_64 : G_62.1 21 = 0 := (eGx_61.1 21 (by decide)).trans u_52
              have u_65 : G_62.1 22 = x_48 := (eGx_61.1 22 (by decide)).trans u_53
              have hH : HT g Ty G_62 H := by rw [← ht, ← eTx_61, eG_62]; exact hB
              have rx_61 : rgI (1) (1) x_61 := hx_61
              have ecx_61 : x_61 = (1 : Int32) := rg_is (n := 1) rx_61 rfl
              rw [ecx_61]
              exact W.iret hx hb hr (fun t ht hWm => ⟨⟨1, (Ty, G_62), rfl, ⟨rfl, ⟨fr_63, hv.symm.trans (by rw [u_65])⟩⟩, by show HT g Ty G_62 t.heap; rw [ht]; exact hH⟩, hS.F ht⟩) hS.2.2 dX0_bindTree_121
            · rw [if_neg c_47] at hv
              exact rg_no rl_24 rx_46 (nle_lt c_47) (by decide)
          · rw [if_neg c_37] at hv
            exact absurd (rg_one fz_36 rl_0) c_37
        · rw [if_neg c_33] at hv
          exact absurd (rg_one fz_32 rl_0) c_33
      · rw [if_neg c_29] at hv
        exact absurd (rg_one fz_28 rl_24) c_29
    · rw [if_pos c_22] at hv
      have r_66 : rgI (0) (0) x_20 := rg_w (rg_eq rl_0 c_22) (by decide) (by decide)
      exact L_23 s.heap [] G (G.1 22) ls FR.rf rfl (lv_sub hl [] rfl) hv hH hS

def F_X11_trees (m22 : Int32) (a0 : Int32) (a1 : Int32) (a2 : Int32) : Int32 × Int32 := (tu2 (F_X0_bindTree m22 a0 a1 a2) (fun z3 z4 => ((F_X11_toldWithCame z3), z4)))
set_option maxHeartbeats 4000000 in
set_option maxRecDepth 100000 in
theorem c_X11_trees (l : Launch) (g : Gx) (Ty : TyM) (G : Gh) (sz : Nat) (h0 : Nat) (a0 : Int32) (a1 : Int32) (a2 : Int32) (k_h0 : Ty h0 = some (21, 0)) (hD1 : LD1 g) (h20 : G.1 20 = 1) (h21 : G.1 21 = 0) (hp70 : G.2.1 (g.2.2 70) = P0) (hp71 : G.2.1 (g.2.2 71) = Z0) (hp72 : G.2.1 (g.2.2 72) = Z0) : Met l yX11_trees (wsG yX11_trees cX11_trees 4 (some .int)) ({ frames := 29, cells := 4, slots := 79, locals := 799 }) (PcT g Ty G sz [.ref h0, .int a0, .int a1, .int a2]) (QwI g Ty sz (fun r u => Ext sz Ty u.1 ∧ FR [20, 22, 27, 28] [(g.2.2 70), (g.2.2 71), (g.2.2 72)] [] G u.2 ∧ F_X11_trees (G.1 22) a0 a1 a2 = (r, (u.2.1 22)))) 4 79 (AF Ty sz) := by
  refine Met.ofW (cc := cX11_trees) (maxL := 4) (ret := (some .int)) (by decide) rfl ?_
  intro p e s m args below meth c s₁ B hml hv
  obtain ⟨rfl, hsz, hK, hH⟩ := hv
  subst hsz
  have hx := B.exec
  have hb := B.bytes
  have hr := B.returns
  have hts := atoms_spec (ws := (wsG yX11_trees cX11_trees 4 (some .int))) B.pre
  have hG : ∀ w ∈ GW, w.before ([.ref h0, .int a0, .int a1, .int a2] : List Value).toArray s = true := fun w h => hts w (List.mem_cons_of_mem _ h)
  have hown : s.vm.findClass RX11 = some m.cls := findClass_of_methodNamed B.named
  have hlocks := B.notSynchronized
  have hl := lv_entry [.ref h0, .int a0, .int a1, .int a2] (n := 4) (Nat.le_of_ble_eq_true rfl)
  rw [lg_entry_eq]
  generalize (lg_sl [.ref h0, .int a0, .int a1, .int a2] ++ List.replicate (4 - (lg_sl [.ref h0, .int a0, .int a1, .int a2]).length) Slot.unset).toArray = ls at hl ⊢
  have hl : lv_has ls 4 [(0, .ref h0), (1, .int a0), (2, .int a1), (3, .int a2)] := hl
  have hv : (tu2 (F_X0_bindTree (G.1 22) a0 a1 a2) (fun z1 z2 => ((F_X11_toldWithCame z1), z2))) = F_X11_trees (G.1 22) a0 a1 a2 := rfl
  have hS : va_S (AF Ty s.heap.size) s.heap s.heap [] := va_S.rf
  refine lv_aload_n hx hb dX11_trees_0 rfl (lv_at hl 0 rfl) ?_
  obtain ⟨_, ⟨rfl, kq_2, kq_3, kq_4, kq_5, kq_6, kq_7, kq_8, kq_9, kq_10, kq_11, kq_12, kq_13, kq_14, kq_15, t_17⟩, o_c_1⟩ := hH h0 _ k_h0
  refine hg_get hx hb hG igX11 hown hK o_c_1 rfl 1 (by decide) (hG _ mw_358) rfl dX11_trees_1 ?_
  refine lv_aload_n hx hb dX11_trees_4 rfl (lv_at hl 0 rfl) ?_
  refine hg_get hx hb hG igX11 hown hK o_c_1 rfl 0 (by decide) (hG _ mw_357) rfl dX11_trees_5 ?_
  obtain ⟨_, ⟨q_19, q_20, q_21, q_22, q_23, q_24, q_25, rfl, kq_19, kq_20, kq_21⟩, o_c_18⟩ := hH (g.2.2 1) _ kq_3
  refine va_callv (va_runV (As := [.ref (g.2.2 0)]) (rest := []) ⟨hx, hb, hml, hown, hts⟩ (c_X10_take_n l g Ty G s.heap.size (g.2.2 1) (g.2.2 0) kq_3 kq_2) (cwV 1 hts (gwV mw_628 mw_629 mw_630 mw_77 mw_631) rfl rfl rfl hv_X10_take ⟨Nat.le_of_ble_eq_true rfl, Nat.le_of_ble_eq_true rfl⟩) ⟨PcT_blind, hg_recv hK o_c_18 rfl, PcT_pre hK hH⟩ rfl rfl hl.1 rfl (lv_room (Nat.le_of_ble_eq_true rfl)) dX11_trees_8 ⟨Nat.le_of_ble_eq_true rfl, Nat.le_of_ble_eq_true rfl⟩) hS (fun q _ h => AF.mono hS.1 h) (fun q h => AF.mono hS.1 h) (fun ux_26 t H locs ht hvm hx_26 hB hz hk hS => ?_)
  have hH : HT g Ty G H := by rw [← ht]; rw [hx_26] at hB; exact hB
  refine lv_aload_n hx hb dX11_trees_11 rfl (lv_at hl 0 rfl) ?_
  refine lv_aload_n hx hb dX11_trees_12 rfl (lv_at hl 0 rfl) ?_
  obtain ⟨_, ⟨rfl, kq_28, kq_29, kq_30, kq_31, kq_32, kq_33, kq_34, kq_35, kq_36, kq_37, kq_38, kq_39, kq_40, kq_41, t_43⟩, o_c_27⟩ := hH h0 _ k_h0
  refine hg_get hx hb hG igX11 hown hK o_c_27 rfl 8 (by decide) (hG _ mw_365) rfl dX11_trees_13 ?_
  refine lv_iload_n hx hb dX11_trees_16 rfl (lv_at hl 1 rfl) ?_
  refine lv_iload_n hx hb dX11_trees_17 rfl (lv_at hl 2 rfl) ?_
  refine lv_iload_n hx hb dX11_trees_18 rfl (lv_at hl 3 rfl) ?_
  obtain ⟨_, ⟨rfl, kq_45, kq_46, kq_47⟩, o_c_44⟩ := hH (g.2.2 8) _ kq_36
  refine va_calli (va_runV (As := [.int a0, .int a1, .int a2]) (rest := [.ref h0]) ⟨hx, hb, hml, hown, hts⟩ (c_X0_bindTree l g Ty G H.size (g.2.2 8) a0 a1 a2 kq_36 hD1 h20 h21 hp70 hp71 hp72) (cwV 3 hts (gwV mw_774 mw_775 mw_776 mw_82 mw_777) rfl rfl rfl hv_X0_bindTree ⟨Nat.le_of_ble_eq_true rfl, Nat.le_of_ble_eq_true rfl⟩) ⟨PcT_blind, hg_recv hK o_c_44 rfl, PcT_pre hK hH⟩ rfl rfl hl.1 rfl (lv_room (Nat.le_of_ble_eq_true rfl)) dX11_trees_19 ⟨Nat.le_of_ble_eq_true rfl, Nat.le_of_ble_eq_true rfl⟩) hS (fun q _ h => AF.mono hS.1 h) (fun q h => AF.mono hS.1 h) (fun x_48 ux_48 t H locs ht hvm hx_48 hB hz hk hS => ?_)
  obtain ⟨eTx_48, eGx_48⟩ := hx_48
  obtain ⟨G_49, eG_49⟩ : ∃ z, z = ux_48.2 := ⟨_, rfl⟩
  rw [← eG_49] at eGx_48
  obtain ⟨hfr_50, hex_51⟩ := eGx_48
  have fr_52 : FR [20, 22, 27, 28] [(g.2.2 70), (g.2.2 71), (g.2.2 72)] [] G G_49 := FR.tr FR.rf hfr_50 (by decide) (fun b h => ⟨h.1, h.2.1, h.2.2.1, trivial⟩) (by decide)
  have u_53 : G_49.1 21 = 0 := (hfr_50.1 21 (by decide)).trans h21
  obtain ⟨n_54, en_54⟩ : ∃ z : Int32, G_49.1 22 = z := ⟨_, rfl⟩
  have hq_55 : F_X0_bindTree (G.1 22) a0 a1 a2 = (x_48, n_54) := by have q := hex_51; rw [en_54] at q; exact q
  rw [hq_55, tu2_eq] at hv
  have hH : HT g Ty G_49 H := by rw [← ht, ← eTx_48, eG_49]; exact hB
  obtain ⟨_, ⟨rfl, kq_57, kq_58, kq_59, kq_60, kq_61, kq_62, kq_63, kq_64, kq_65, kq_66, kq_67, kq_68, kq_69, kq_70, t_72⟩, o_c_56⟩ := hH h0 _ k_h0
  have hLx_73 := hS.1
  refine va_calli (va_runV (As := [.int x_48]) (rest := []) ⟨hx, hb, hml, hown, hts⟩ (c_X11_toldWithCame l g Ty G_49 H.size h0 x_48 k_h0 hD1) (cwV 1 hts (gwV mw_738 mw_740 mw_15 mw_76 mw_741) rfl rfl rfl hv_X11_toldWithCame ⟨Nat.le_of_ble_eq_true rfl, Nat.le_of_ble_eq_true rfl⟩) ⟨PcT_blind, hg_recv hK o_c_56 rfl, PcT_pre hK hH⟩ rfl rfl hl.1 rfl (lv_room (Nat.le_of_ble_eq_true rfl)) dX11_trees_22 ⟨Nat.le_of_ble_eq_true rfl, Nat.le_of_ble_eq_true rfl⟩) hS (fun q _ h => AF.mono hS.1 h) (fun q h => AF.mono hS.1 h) (fun x_73 ux_73 t H locs ht hvm hx_73 hB hz hk hS => ?_)
  obtain ⟨eTx_73, eGx_73⟩ := hx_73
  obtain ⟨T_74, eT_74⟩ : ∃ z, z = ux_73.1 := ⟨_, rfl⟩
  rw [← eT_74] at eTx_73
  have k_75 := eTx_73.1 _ _ k_h0
  have hE_76 : Ext s.heap.size Ty T_74 := Ext.le hLx_73 eTx_73
  obtain ⟨G_77, eG_77⟩ : ∃ z, z = ux_73.2 := ⟨_, rfl⟩
  rw [← eG_77] at eGx_73
  obtain ⟨hfr_78, hex_79⟩ := eGx_73
  have fr_80 : FR [20, 22, 27, 28] [(g.2.2 70), (g.2.2 71), (g.2.2 72)] [] G G_77 := FR.tr fr_52 hfr_78 (by decide) (fun _ _ => trivial) (by decide)
  have u_81 : G_77.1 21 = 0 := (hfr_78.1 21 (by decide)).trans u_53
  have u_82 : G_77.1 22 = n_54 := (hfr_78.1 22 (by decide)).trans en_54
  have hq_83 : F_X11_toldWithCame x_48 = x_73 := by have q := hex_79; exact q
  try rw [hq_83] at hv
  have hH : HT g T_74 G_77 H := by rw [← ht, eT_74, eG_77]; exact hB
  exact W.iret hx hb hr (fun t ht hWm => ⟨⟨x_73, (T_74, G_77), rfl, ⟨hE_76, ⟨fr_80, hv.symm.trans (by rw [u_82])⟩⟩, by show HT g T_74 G_77 t.heap; rw [ht]; exact hH⟩, hS.F ht⟩) hS.2.2 dX11_trees_25
