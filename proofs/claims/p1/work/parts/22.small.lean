set_option maxHeartbeats 4000000 in
set_option maxRecDepth 100000 in
theorem c_X9_signAt (l : Launch) (g : Gx) (Ty : TyM) (G : Gh) (h0 : Nat) (a0 : Int32) (k_h0 : Ty h0 = some (19, 0)) : Met l yX9_signAt (wsG yX9_signAt cX9_signAt 2 (some .int)) ({ frames := 0, cells := 0, slots := 0, locals := 0 }) (PcH g Ty G [.ref h0, .int a0]) (vp_Si (fun r => True)) 0 0 (fun _ => False) := by
  refine Met.ofW (cc := cX9_signAt) (maxL := 2) (ret := (some .int)) (by decide) rfl ?_
  intro p e s m args below meth c s₁ B hml hv
  obtain ⟨rfl, hK, hH⟩ := hv
  have hx := B.exec
  have hb := B.bytes
  have hr := B.returns
  have hts := atoms_spec (ws := (wsG yX9_signAt cX9_signAt 2 (some .int))) B.pre
  have hG : ∀ w ∈ GW, w.before ([.ref h0, .int a0] : List Value).toArray s = true := fun w h => hts w (List.mem_cons_of_mem _ h)
  have hown : s.vm.findClass RX9 = some m.cls := findClass_of_methodNamed B.named
  have hlocks := B.notSynchronized
  have hl := lv_entry [.ref h0, .int a0] (n := 2) (Nat.le_of_ble_eq_true rfl)
  rw [lg_entry_eq]
  generalize (lg_sl [.ref h0, .int a0] ++ List.replicate (2 - (lg_sl [.ref h0, .int a0]).length) Slot.unset).toArray = ls at hl ⊢
  have hl : lv_has ls 2 [(0, .ref h0), (1, .int a0)] := hl
  have L_21 : ∀ (ls : Array Slot), lv_has ls 2 [] → Wm p l e (wsG yX9_signAt cX9_signAt 2 (some .int)) ({ frames := 0, cells := 0, slots := 0, locals := 0 }) s m [.ref h0, .int a0] below meth c s.heap [] (0) (0) (vp_Si (fun r => True)) 0 0 (fun _ => False) (F0 m 21 ls []) := by
    intro ls hl
    refine lv_iconst (v := (-1)) hx hb dX9_signAt_21 (by decide) ?_
    exact W.iret hx hb hr (fun t ht hW => ⟨(-1), rfl, trivial, ht⟩) (fun q h => by cases h) dX9_signAt_22
  refine lv_iload_n hx hb dX9_signAt_0 rfl (lv_at hl 1 rfl) ?_
  refine lv_if_lt (tgt := 21) hx hb dX9_signAt_1 (by decide) (fun c_1 => ?_) (fun c_1 => ?_)
  · have r_2 : rgI (-2147483648) (-1) a0 := rg_w (rg_ltL (rg_top a0) rl_0 c_1) (by decide) (by decide)
    exact L_21  ls (lv_sub hl [] rfl)
  · have r_3 : rgI (0) (2147483647) a0 := rg_w (rg_leR rl_0 (rg_top a0) (nlt_le c_1)) (by decide) (by decide)
    refine lv_iload_n hx hb dX9_signAt_4 rfl (lv_at hl 1 rfl) ?_
    refine lv_aload_n hx hb dX9_signAt_5 rfl (lv_at hl 0 rfl) ?_
    obtain ⟨_, ⟨q_5, rfl, kq_5, rq_6, t_7⟩, o_c_4⟩ := hH h0 _ k_h0
    refine hg_get hx hb hG igX9 hown hK o_c_4 rfl 1 (by decide) (hG _ mw_172) rfl dX9_signAt_6 ?_
    refine lv_icmp_ge (tgt := 21) hx hb dX9_signAt_9 (by decide) (fun c_8 => ?_) (fun c_8 => ?_)
    · exact L_21  ls (lv_sub hl [] rfl)
    · have r_9 : rgI (0) (79) a0 := rg_w (rg_ltL r_3 rq_6 (nle_lt c_8)) (by decide) (by decide)
      have r_10 : rgI (1) (80) (G.1 0) := rg_w (rg_ltR r_3 rq_6 (nle_lt c_8)) (by decide) (by decide)
      refine lv_aload_n hx hb dX9_signAt_12 rfl (lv_at hl 0 rfl) ?_
      refine hg_get hx hb hG igX9 hown hK o_c_4 rfl 0 (by decide) (hG _ mw_171) rfl dX9_signAt_13 ?_
      refine lv_iload_n hx hb dX9_signAt_16 rfl (lv_at hl 1 rfl) ?_
      obtain ⟨_, ⟨f_12, rfl⟩, o_c_11⟩ := hH q_5 _ kq_5
      refine hg_iald hx hb hK o_c_11 (rg_in (n := 80) r_9 (by decide) (by decide)) dX9_signAt_17 ?_
      refine lv_topi (fun x_13 ex_13 => ?_)
      refine lv_goto (tgt := 22) hx hb dX9_signAt_18 (by decide) ?_
      exact W.iret hx hb hr (fun t ht hW => ⟨x_13, rfl, trivial, ht⟩) (fun q h => by cases h) dX9_signAt_22

set_option maxHeartbeats 4000000 in
set_option maxRecDepth 100000 in
theorem c_X9_dirAt (l : Launch) (g : Gx) (Ty : TyM) (G : Gh) (h0 : Nat) (a0 : Int32) (k_h0 : Ty h0 = some (19, 0)) : Met l yX9_dirAt (wsG yX9_dirAt cX9_dirAt 3 (some .int)) ({ frames := 1, cells := 0, slots := 0, locals := 21 }) (PcH g Ty G [.ref h0, .int a0]) (vp_Si (fun r => rgI (-1) (3) r)) 0 0 (fun _ => False) := by
  refine Met.ofW (cc := cX9_dirAt) (maxL := 3) (ret := (some .int)) (by decide) rfl ?_
  intro p e s m args below meth c s₁ B hml hv
  obtain ⟨rfl, hK, hH⟩ := hv
  have hx := B.exec
  have hb := B.bytes
  have hr := B.returns
  have hts := atoms_spec (ws := (wsG yX9_dirAt cX9_dirAt 3 (some .int))) B.pre
  have hG : ∀ w ∈ GW, w.before ([.ref h0, .int a0] : List Value).toArray s = true := fun w h => hts w (List.mem_cons_of_mem _ h)
  have hown : s.vm.findClass RX9 = some m.cls := findClass_of_methodNamed B.named
  have hlocks := B.notSynchronized
  have hl := lv_entry [.ref h0, .int a0] (n := 3) (Nat.le_of_ble_eq_true rfl)
  rw [lg_entry_eq]
  generalize (lg_sl [.ref h0, .int a0] ++ List.replicate (3 - (lg_sl [.ref h0, .int a0]).length) Slot.unset).toArray = ls at hl ⊢
  have hl : lv_has ls 3 [(0, .ref h0), (1, .int a0)] := hl
  have L_25 : ∀ (ls : Array Slot), lv_has ls 3 [] → Wm p l e (wsG yX9_dirAt cX9_dirAt 3 (some .int)) ({ frames := 1, cells := 0, slots := 0, locals := 21 }) s m [.ref h0, .int a0] below meth c s.heap [] (0) (0) (vp_Si (fun r => rgI (-1) (3) r)) 0 0 (fun _ => False) (F0 m 25 ls []) := by
    intro ls hl
    refine lv_iconst (v := (-1)) hx hb dX9_dirAt_25 (by decide) ?_
    exact W.iret hx hb hr (fun t ht hW => ⟨(-1), rfl, rg_w rl_m1 (by decide) (by decide), ht⟩) (fun q h => by cases h) dX9_dirAt_26
  refine lv_aload_n hx hb dX9_dirAt_0 rfl (lv_at hl 0 rfl) ?_
  refine lv_iload_n hx hb dX9_dirAt_1 rfl (lv_at hl 1 rfl) ?_
  obtain ⟨_, ⟨q_2, rfl, kq_2, rq_3, t_4⟩, o_c_1⟩ := hH h0 _ k_h0
  refine vp_callSi (W.runV (As := [.int a0]) (rest := []) ⟨hx, hb, hml, hown, hts⟩ (c_X9_signAt l g Ty G h0 a0 k_h0) (cwV 1 hts (gwV mw_577 mw_428 mw_429 mw_79 mw_430) rfl rfl rfl hv_X9_signAt ⟨Nat.le_of_ble_eq_true rfl, Nat.le_of_ble_eq_true rfl⟩) ⟨PcH_blind, hg_recv hK o_c_1 rfl, PcH_pre hK hH⟩ rfl rfl hl.1 rfl (lv_room (Nat.le_of_ble_eq_true rfl)) dX9_dirAt_2 ⟨Nat.zero_le _, Nat.zero_le _⟩) (fun x_5 hx_5 => ?_)
  refine lv_istore_n (lv' := [(2, .int x_5), (0, .ref h0), (1, .int a0)]) hx hb dX9_dirAt_5 rfl hl (by decide) rfl (fun ls hl => ?_)
  refine lv_iload_n hx hb dX9_dirAt_6 rfl (lv_at hl 0 rfl) ?_
  refine lv_bipush (v := 97) hx hb dX9_dirAt_7 (by decide) ?_
  refine lv_icmp_lt (tgt := 25) hx hb dX9_dirAt_9 (by decide) (fun c_6 => ?_) (fun c_6 => ?_)
  · have r_7 : rgI (-2147483648) (96) x_5 := rg_w (rg_ltL (rg_top x_5) rl_97 c_6) (by decide) (by decide)
    exact L_25  ls (lv_sub hl [] rfl)
  · have r_8 : rgI (97) (2147483647) x_5 := rg_w (rg_leR rl_97 (rg_top x_5) (nlt_le c_6)) (by decide) (by decide)
    refine lv_iload_n hx hb dX9_dirAt_12 rfl (lv_at hl 0 rfl) ?_
    refine lv_bipush (v := 100) hx hb dX9_dirAt_13 (by decide) ?_
    refine lv_icmp_gt (tgt := 25) hx hb dX9_dirAt_15 (by decide) (fun c_9 => ?_) (fun c_9 => ?_)
    · have r_10 : rgI (101) (2147483647) x_5 := rg_w (rg_ltR rl_100 r_8 c_9) (by decide) (by decide)
      exact L_25  ls (lv_sub hl [] rfl)
    · have r_11 : rgI (97) (100) x_5 := rg_w (rg_leL r_8 rl_100 (nlt_le c_9)) (by decide) (by decide)
      refine lv_iload_n hx hb dX9_dirAt_18 rfl (lv_at hl 0 rfl) ?_
      refine lv_bipush (v := 97) hx hb dX9_dirAt_19 (by decide) ?_
      refine lv_isub hx hb dX9_dirAt_21 ?_
      refine lv_topi (fun x_12 ex_12 => ?_)
      have rx_12 : rgI (0) (3) x_12 := by rw [ex_12]; exact rg_w (rg_sub r_11 rl_97 (by decide) (by decide)) (by decide) (by decide)
      refine lv_goto (tgt := 26) hx hb dX9_dirAt_22 (by decide) ?_
      exact W.iret hx hb hr (fun t ht hW => ⟨x_12, rfl, rg_w rx_12 (by decide) (by decide), ht⟩) (fun q h => by cases h) dX9_dirAt_26
