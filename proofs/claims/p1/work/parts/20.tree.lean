set_option maxHeartbeats 4000000 in
set_option maxRecDepth 100000 in
theorem c_J6_bitCount_0f7a4 (l : Launch) (g : Gx) (Ty : TyM) (G : Gh) (a0 : Int32) : Met l yJ6_bitCount_0f7a4 (wsG yJ6_bitCount_0f7a4 cJ6_bitCount_0f7a4 1 (some .int)) ({ frames := 0, cells := 0, slots := 0, locals := 0 }) (PcH g Ty G [.int a0]) (vp_Si (fun r => True)) 0 0 (fun _ => False) := by
  refine Met.ofW (cc := cJ6_bitCount_0f7a4) (maxL := 1) (ret := (some .int)) (by decide) rfl ?_
  intro p e s m args below meth c s₁ B hml hv
  obtain ⟨rfl, hK, hH⟩ := hv
  have hx := B.exec
  have hb := B.bytes
  have hr := B.returns
  have hts := atoms_spec (ws := (wsG yJ6_bitCount_0f7a4 cJ6_bitCount_0f7a4 1 (some .int))) B.pre
  have hG : ∀ w ∈ GW, w.before ([.int a0] : List Value).toArray s = true := fun w h => hts w (List.mem_cons_of_mem _ h)
  have hown : s.vm.findClass "java/lang/Integer" = some m.cls := findClass_of_methodNamed B.named
  have hlocks := B.notSynchronized
  have hl := lv_entry [.int a0] (n := 1) (Nat.le_of_ble_eq_true rfl)
  rw [lg_entry_eq]
  generalize (lg_sl [.int a0] ++ List.replicate (1 - (lg_sl [.int a0]).length) Slot.unset).toArray = ls at hl ⊢
  have hl : lv_has ls 1 [(0, .int a0)] := hl
  refine lv_iload_n hx hb dJ6_bitCount_0f7a4_0 rfl (lv_at hl 0 rfl) ?_
  refine lv_iload_n hx hb dJ6_bitCount_0f7a4_1 rfl (lv_at hl 0 rfl) ?_
  refine lv_iconst (v := 1) hx hb dJ6_bitCount_0f7a4_2 (by decide) ?_
  refine lv_iushr hx hb dJ6_bitCount_0f7a4_3 rfl ?_
  refine lv_topi (fun x_1 ex_1 => ?_)
  refine lv_ldcw (v := 1431655765) hx hb hown (hG _ mw_621) dJ6_bitCount_0f7a4_4 ?_
  refine lv_iand hx hb dJ6_bitCount_0f7a4_7 ?_
  refine lv_topi (fun x_2 ex_2 => ?_)
  refine lv_isub hx hb dJ6_bitCount_0f7a4_8 ?_
  refine lv_topi (fun x_3 ex_3 => ?_)
  refine lv_istore_n (lv' := [(0, .int x_3)]) hx hb dJ6_bitCount_0f7a4_9 rfl hl (by decide) rfl (fun ls hl => ?_)
  refine lv_iload_n hx hb dJ6_bitCount_0f7a4_10 rfl (lv_at hl 0 rfl) ?_
  refine lv_ldcw (v := 858993459) hx hb hown (hG _ mw_622) dJ6_bitCount_0f7a4_11 ?_
  refine lv_iand hx hb dJ6_bitCount_0f7a4_14 ?_
  refine lv_topi (fun x_4 ex_4 => ?_)
  refine lv_iload_n hx hb dJ6_bitCount_0f7a4_15 rfl (lv_at hl 0 rfl) ?_
  refine lv_iconst (v := 2) hx hb dJ6_bitCount_0f7a4_16 (by decide) ?_
  refine lv_iushr hx hb dJ6_bitCount_0f7a4_17 rfl ?_
  refine lv_topi (fun x_5 ex_5 => ?_)
  refine lv_ldcw (v := 858993459) hx hb hown (hG _ mw_622) dJ6_bitCount_0f7a4_18 ?_
  refine lv_iand hx hb dJ6_bitCount_0f7a4_21 ?_
  refine lv_topi (fun x_6 ex_6 => ?_)
  refine lv_iadd hx hb dJ6_bitCount_0f7a4_22 ?_
  refine lv_topi (fun x_7 ex_7 => ?_)
  refine lv_istore_n (lv' := [(0, .int x_7)]) hx hb dJ6_bitCount_0f7a4_23 rfl hl (by decide) rfl (fun ls hl => ?_)
  refine lv_iload_n hx hb dJ6_bitCount_0f7a4_24 rfl (lv_at hl 0 rfl) ?_
  refine lv_iload_n hx hb dJ6_bitCount_0f7a4_25 rfl (lv_at hl 0 rfl) ?_
  refine lv_iconst (v := 4) hx hb dJ6_bitCount_0f7a4_26 (by decide) ?_
  refine lv_iushr hx hb dJ6_bitCount_0f7a4_27 rfl ?_
  refine lv_topi (fun x_8 ex_8 => ?_)
  refine lv_iadd hx hb dJ6_bitCount_0f7a4_28 ?_
  refine lv_topi (fun x_9 ex_9 => ?_)
  refine lv_ldcw (v := 252645135) hx hb hown (hG _ mw_623) dJ6_bitCount_0f7a4_29 ?_
  refine lv_iand hx hb dJ6_bitCount_0f7a4_32 ?_
  refine lv_topi (fun x_10 ex_10 => ?_)
  refine lv_istore_n (lv' := [(0, .int x_10)]) hx hb dJ6_bitCount_0f7a4_33 rfl hl (by decide) rfl (fun ls hl => ?_)
  refine lv_iload_n hx hb dJ6_bitCount_0f7a4_34 rfl (lv_at hl 0 rfl) ?_
  refine lv_iload_n hx hb dJ6_bitCount_0f7a4_35 rfl (lv_at hl 0 rfl) ?_
  refine lv_bipush (v := 8) hx hb dJ6_bitCount_0f7a4_36 (by decide) ?_
  refine lv_iushr hx hb dJ6_bitCount_0f7a4_38 rfl ?_
  refine lv_topi (fun x_11 ex_11 => ?_)
  refine lv_iadd hx hb dJ6_bitCount_0f7a4_39 ?_
  refine lv_topi (fun x_12 ex_12 => ?_)
  refine lv_istore_n (lv' := [(0, .int x_12)]) hx hb dJ6_bitCount_0f7a4_40 rfl hl (by decide) rfl (fun ls hl => ?_)
  refine lv_iload_n hx hb dJ6_bitCount_0f7a4_41 rfl (lv_at hl 0 rfl) ?_
  refine lv_iload_n hx hb dJ6_bitCount_0f7a4_42 rfl (lv_at hl 0 rfl) ?_
  refine lv_bipush (v := 16) hx hb dJ6_bitCount_0f7a4_43 (by decide) ?_
  refine lv_iushr hx hb dJ6_bitCount_0f7a4_45 rfl ?_
  refine lv_topi (fun x_13 ex_13 => ?_)
  refine lv_iadd hx hb dJ6_bitCount_0f7a4_46 ?_
  refine lv_topi (fun x_14 ex_14 => ?_)
  refine lv_istore_n (lv' := [(0, .int x_14)]) hx hb dJ6_bitCount_0f7a4_47 rfl hl (by decide) rfl (fun ls hl => ?_)
  refine lv_iload_n hx hb dJ6_bitCount_0f7a4_48 rfl (lv_at hl 0 rfl) ?_
  refine lv_bipush (v := 63) hx hb dJ6_bitCount_0f7a4_49 (by decide) ?_
  refine lv_iand hx hb dJ6_bitCount_0f7a4_51 ?_
  refine lv_topi (fun x_15 ex_15 => ?_)
  have rx_15 : rgI (0) (63) x_15 := by rw [ex_15]; exact rg_w (rg_and63 _) (by decide) (by decide)
  exact W.iret hx hb hr (fun t ht hW => ⟨x_15, rfl, trivial, ht⟩) (fun q h => by cases h) dJ6_bitCount_0f7a4_52

set_option maxHeartbeats 4000000 in
set_option maxRecDepth 100000 in
theorem c_X10_has_o (l : Launch) (g : Gx) (Ty : TyM) (G : Gh) (h0 : Nat) (a0 : Int32) (k_h0 : Ty h0 = some (20, 0)) : Met l yX10_has (wsG yX10_has cX10_has 2 (some .boolean)) ({ frames := 0, cells := 0, slots := 0, locals := 0 }) (PcH g Ty G [.ref h0, .int a0]) (vp_Si (fun r => rgI (0) (1) r ∧ (r = 0 ∨ rgI (0) (23) a0))) 0 0 (fun _ => False) := by
  refine Met.ofW (cc := cX10_has) (maxL := 2) (ret := (some .boolean)) (by decide) rfl ?_
  intro p e s m args below meth c s₁ B hml hv
  obtain ⟨rfl, hK, hH⟩ := hv
  have hx := B.exec
  have hb := B.bytes
  have hr := B.returns
  have hts := atoms_spec (ws := (wsG yX10_has cX10_has 2 (some .boolean))) B.pre
  have hG : ∀ w ∈ GW, w.before ([.ref h0, .int a0] : List Value).toArray s = true := fun w h => hts w (List.mem_cons_of_mem _ h)
  have hown : s.vm.findClass RX10 = some m.cls := findClass_of_methodNamed B.named
  have hlocks := B.notSynchronized
  have hl := lv_entry [.ref h0, .int a0] (n := 2) (Nat.le_of_ble_eq_true rfl)
  rw [lg_entry_eq]
  generalize (lg_sl [.ref h0, .int a0] ++ List.replicate (2 - (lg_sl [.ref h0, .int a0]).length) Slot.unset).toArray = ls at hl ⊢
  have hl : lv_has ls 2 [(0, .ref h0), (1, .int a0)] := hl
  have L_25 : ∀ (ls : Array Slot), lv_has ls 2 [] → Wm p l e (wsG yX10_has cX10_has 2 (some .boolean)) ({ frames := 0, cells := 0, slots := 0, locals := 0 }) s m [.ref h0, .int a0] below meth c s.heap [] (0) (0) (vp_Si (fun r => rgI (0) (1) r ∧ (r = 0 ∨ rgI (0) (23) a0))) 0 0 (fun _ => False) (F0 m 25 ls []) := by
    intro ls hl
    refine lv_iconst (v := 0) hx hb dX10_has_25 (by decide) ?_
    exact W.zret hx hb hr rfl (fun t ht hW => ⟨0, rfl, ⟨rg_w rl_0 (by decide) (by decide), Or.inl rfl⟩, ht⟩) (fun q h => by cases h) dX10_has_26
  refine lv_iload_n hx hb dX10_has_0 rfl (lv_at hl 1 rfl) ?_
  refine lv_if_lt (tgt := 25) hx hb dX10_has_1 (by decide) (fun c_1 => ?_) (fun c_1 => ?_)
  · have r_2 : rgI (-2147483648) (-1) a0 := rg_w (rg_ltL (rg_top a0) rl_0 c_1) (by decide) (by decide)
    exact L_25  ls (lv_sub hl [] rfl)
  · have r_3 : rgI (0) (2147483647) a0 := rg_w (rg_leR rl_0 (rg_top a0) (nlt_le c_1)) (by decide) (by decide)
    refine lv_iload_n hx hb dX10_has_4 rfl (lv_at hl 1 rfl) ?_
    refine lv_bipush (v := 24) hx hb dX10_has_5 (by decide) ?_
    refine lv_icmp_ge (tgt := 25) hx hb dX10_has_7 (by decide) (fun c_4 => ?_) (fun c_4 => ?_)
    · have r_5 : rgI (24) (2147483647) a0 := rg_w (rg_leR rl_24 r_3 c_4) (by decide) (by decide)
      exact L_25  ls (lv_sub hl [] rfl)
    · have r_6 : rgI (0) (23) a0 := rg_w (rg_ltL r_3 rl_24 (nle_lt c_4)) (by decide) (by decide)
      refine lv_aload_n hx hb dX10_has_10 rfl (lv_at hl 0 rfl) ?_
      obtain ⟨_, ⟨q_8, q_9, q_10, q_11, q_12, q_13, q_14, rfl, kq_8, kq_9, kq_10⟩, o_c_7⟩ := hH h0 _ k_h0
      refine hg_get hx hb hG igX10 hown hK o_c_7 rfl 3 (by decide) (hG _ mw_118) rfl dX10_has_11 ?_
      refine lv_iconst (v := 1) hx hb dX10_has_14 (by decide) ?_
      refine lv_iload_n hx hb dX10_has_15 rfl (lv_at hl 1 rfl) ?_
      refine lv_ishl hx hb dX10_has_16 ?_
      refine lv_topi (fun x_15 ex_15 => ?_)
      refine lv_iand hx hb dX10_has_17 ?_
      refine lv_topi (fun x_16 ex_16 => ?_)
      refine lv_if_eq (tgt := 25) hx hb dX10_has_18 (by decide) (fun c_17 => ?_) (fun c_17 => ?_)
      · have r_18 : rgI (0) (0) x_16 := rg_w (rg_eq rl_0 c_17) (by decide) (by decide)
        exact L_25  ls (lv_sub hl [] rfl)
      · refine lv_iconst (v := 1) hx hb dX10_has_21 (by decide) ?_
        refine lv_goto (tgt := 26) hx hb dX10_has_22 (by decide) ?_
        exact W.zret hx hb hr rfl (fun t ht hW => ⟨1, rfl, ⟨rg_w rl_1 (by decide) (by decide), Or.inr (rg_w r_6 (by decide) (by decide))⟩, ht⟩) (fun q h => by cases h) dX10_has_26

set_option maxHeartbeats 4000000 in
set_option maxRecDepth 100000 in
theorem c_X10_hasPlace_o (l : Launch) (g : Gx) (Ty : TyM) (G : Gh) (h0 : Nat) (a0 : Int32) (a1 : Int32) (k_h0 : Ty h0 = some (20, 0)) : Met l yX10_hasPlace (wsG yX10_hasPlace cX10_hasPlace 3 (some .boolean)) ({ frames := 1, cells := 0, slots := 0, locals := 21 }) (PcH g Ty G [.ref h0, .int a0, .int a1]) (vp_Si (fun r => rgI (0) (1) r ∧ (r = 0 ∨ rgI (0) (23) a0))) 0 0 (fun _ => False) := by
  refine Met.ofW (cc := cX10_hasPlace) (maxL := 3) (ret := (some .boolean)) (by decide) rfl ?_
  intro p e s m args below meth c s₁ B hml hv
  obtain ⟨rfl, hK, hH⟩ := hv
  have hx := B.exec
  have hb := B.bytes
  have hr := B.returns
  have hts := atoms_spec (ws := (wsG yX10_hasPlace cX10_hasPlace 3 (some .boolean))) B.pre
  have hG : ∀ w ∈ GW, w.before ([.ref h0, .int a0, .int a1] : List Value).toArray s = true := fun w h => hts w (List.mem_cons_of_mem _ h)
  have hown : s.vm.findClass RX10 = some m.cls := findClass_of_methodNamed B.named
  have hlocks := B.notSynchronized
  have hl := lv_entry [.ref h0, .int a0, .int a1] (n := 3) (Nat.le_of_ble_eq_true rfl)
  rw [lg_entry_eq]
  generalize (lg_sl [.ref h0, .int a0, .int a1] ++ List.replicate (3 - (lg_sl [.ref h0, .int a0, .int a1]).length) Slot.unset).toArray = ls at hl ⊢
  have hl : lv_has ls 3 [(0, .ref h0), (1, .int a0), (2, .int a1)] := hl
  have L_21 : ∀ (ls : Array Slot), lv_has ls 3 [] → Wm p l e (wsG yX10_hasPlace cX10_hasPlace 3 (some .boolean)) ({ frames := 1, cells := 0, slots := 0, locals := 21 }) s m [.ref h0, .int a0, .int a1] below meth c s.heap [] (0) (0) (vp_Si (fun r => rgI (0) (1) r ∧ (r = 0 ∨ rgI (0) (23) a0))) 0 0 (fun _ => False) (F0 m 21 ls []) := by
    intro ls hl
    refine lv_iconst (v := 0) hx hb dX10_hasPlace_21 (by decide) ?_
    exact W.zret hx hb hr rfl (fun t ht hW => ⟨0, rfl, ⟨rg_w rl_0 (by decide) (by decide), Or.inl rfl⟩, ht⟩) (fun q h => by cases h) dX10_hasPlace_22
  refine lv_aload_n hx hb dX10_hasPlace_0 rfl (lv_at hl 0 rfl) ?_
  refine lv_iload_n hx hb dX10_hasPlace_1 rfl (lv_at hl 1 rfl) ?_
  obtain ⟨_, ⟨q_2, q_3, q_4, q_5, q_6, q_7, q_8, rfl, kq_2, kq_3, kq_4⟩, o_c_1⟩ := hH h0 _ k_h0
  refine vp_callSi (W.runV (As := [.int a0]) (rest := []) ⟨hx, hb, hml, hown, hts⟩ (c_X10_has_o l g Ty G h0 a0 k_h0) (cwV 1 hts (gwV mw_644 mw_604 mw_605 mw_77 mw_606) rfl rfl rfl hv_X10_has ⟨Nat.le_of_ble_eq_true rfl, Nat.le_of_ble_eq_true rfl⟩) ⟨PcH_blind, hg_recv hK o_c_1 rfl, PcH_pre hK hH⟩ rfl rfl hl.1 rfl (lv_room (Nat.le_of_ble_eq_true rfl)) dX10_hasPlace_2 ⟨Nat.zero_le _, Nat.zero_le _⟩) (fun x_9 hx_9 => ?_)
  have rx_9 : rgI (0) (1) x_9 := hx_9.1
  refine lv_if_eq (tgt := 21) hx hb dX10_hasPlace_5 (by decide) (fun c_10 => ?_) (fun c_10 => ?_)
  · have r_11 : rgI (0) (0) x_9 := rg_w (rg_eq rl_0 c_10) (by decide) (by decide)
    exact L_21  ls (lv_sub hl [] rfl)
  · have r_12 : rgI (1) (1) x_9 := rg_w (rg_neL rx_9 rl_0 c_10) (by decide) (by decide)
    have r_13 : rgI (0) (23) a0 := rg_w (hx_9.2.resolve_left c_10) (by decide) (by decide)
    refine lv_iload_n hx hb dX10_hasPlace_8 rfl (lv_at hl 2 rfl) ?_
    refine lv_if_lt (tgt := 21) hx hb dX10_hasPlace_9 (by decide) (fun c_14 => ?_) (fun c_14 => ?_)
    · have r_15 : rgI (-2147483648) (-1) a1 := rg_w (rg_ltL (rg_top a1) rl_0 c_14) (by decide) (by decide)
      exact L_21  ls (lv_sub hl [] rfl)
    · have r_16 : rgI (0) (2147483647) a1 := rg_w (rg_leR rl_0 (rg_top a1) (nlt_le c_14)) (by decide) (by decide)
      refine lv_iload_n hx hb dX10_hasPlace_12 rfl (lv_at hl 2 rfl) ?_
      refine lv_iconst (v := 4) hx hb dX10_hasPlace_13 (by decide) ?_
      refine lv_icmp_ge (tgt := 21) hx hb dX10_hasPlace_14 (by decide) (fun c_17 => ?_) (fun c_17 => ?_)
      · have r_18 : rgI (4) (2147483647) a1 := rg_w (rg_leR rl_4 r_16 c_17) (by decide) (by decide)
        exact L_21  ls (lv_sub hl [] rfl)
      · have r_19 : rgI (0) (3) a1 := rg_w (rg_ltL r_16 rl_4 (nle_lt c_17)) (by decide) (by decide)
        refine lv_iconst (v := 1) hx hb dX10_hasPlace_17 (by decide) ?_
        refine lv_goto (tgt := 22) hx hb dX10_hasPlace_18 (by decide) ?_
        exact W.zret hx hb hr rfl (fun t ht hW => ⟨1, rfl, ⟨rg_w rl_1 (by decide) (by decide), Or.inr (rg_w r_13 (by decide) (by decide))⟩, ht⟩) (fun q h => by cases h) dX10_hasPlace_22

set_option maxHeartbeats 4000000 in
set_option maxRecDepth 100000 in
theorem c_X10_isUnbindable_o (l : Launch) (g : Gx) (Ty : TyM) (G : Gh) (h0 : Nat) (a0 : Int32) (k_h0 : Ty h0 = some (20, 0)) : Met l yX10_isUnbindable (wsG yX10_isUnbindable cX10_isUnbindable 2 (some .boolean)) ({ frames := 0, cells := 0, slots := 0, locals := 0 }) (PcH g Ty G [.ref h0, .int a0]) (vp_Si (fun r => rgI (0) (1) r ∧ (r = 0 ∨ rgI (0) (23) a0))) 0 0 (fun _ => False) := by
  refine Met.ofW (cc := cX10_isUnbindable) (maxL := 2) (ret := (some .boolean)) (by decide) rfl ?_
  intro p e s m args below meth c s₁ B hml hv
  obtain ⟨rfl, hK, hH⟩ := hv
  have hx := B.exec
  have hb := B.bytes
  have hr := B.returns
  have hts := atoms_spec (ws := (wsG yX10_isUnbindable cX10_isUnbindable 2 (some .boolean))) B.pre
  have hG : ∀ w ∈ GW, w.before ([.ref h0, .int a0] : List Value).toArray s = true := fun w h => hts w (List.mem_cons_of_mem _ h)
  have hown : s.vm.findClass RX10 = some m.cls := findClass_of_methodNamed B.named
  have hlocks := B.notSynchronized
  have hl := lv_entry [.ref h0, .int a0] (n := 2) (Nat.le_of_ble_eq_true rfl)
  rw [lg_entry_eq]
  generalize (lg_sl [.ref h0, .int a0] ++ List.replicate (2 - (lg_sl [.ref h0, .int a0]).length) Slot.unset).toArray = ls at hl ⊢
  have hl : lv_has ls 2 [(0, .ref h0), (1, .int a0)] := hl
  have L_25 : ∀ (ls : Array Slot), lv_has ls 2 [] → Wm p l e (wsG yX10_isUnbindable cX10_isUnbindable 2 (some .boolean)) ({ frames := 0, cells := 0, slots := 0, locals := 0 }) s m [.ref h0, .int a0] below meth c s.heap [] (0) (0) (vp_Si (fun r => rgI (0) (1) r ∧ (r = 0 ∨ rgI (0) (23) a0))) 0 0 (fun _ => False) (F0 m 25 ls []) := by
    intro ls hl
    refine lv_iconst (v := 0) hx hb dX10_isUnbindable_25 (by decide) ?_
    exact W.zret hx hb hr rfl (fun t ht hW => ⟨0, rfl, ⟨rg_w rl_0 (by decide) (by decide), Or.inl rfl⟩, ht⟩) (fun q h => by cases h) dX10_isUnbindable_26
  refine lv_iload_n hx hb dX10_isUnbindable_0 rfl (lv_at hl 1 rfl) ?_
  refine lv_if_lt (tgt := 25) hx hb dX10_isUnbindable_1 (by decide) (fun c_1 => ?_) (fun c_1 => ?_)
  · have r_2 : rgI (-2147483648) (-1) a0 := rg_w (rg_ltL (rg_top a0) rl_0 c_1) (by decide) (by decide)
    exact L_25  ls (lv_sub hl [] rfl)
  · have r_3 : rgI (0) (2147483647) a0 := rg_w (rg_leR rl_0 (rg_top a0) (nlt_le c_1)) (by decide) (by decide)
    refine lv_iload_n hx hb dX10_isUnbindable_4 rfl (lv_at hl 1 rfl) ?_
    refine lv_bipush (v := 24) hx hb dX10_isUnbindable_5 (by decide) ?_
    refine lv_icmp_ge (tgt := 25) hx hb dX10_isUnbindable_7 (by decide) (fun c_4 => ?_) (fun c_4 => ?_)
    · have r_5 : rgI (24) (2147483647) a0 := rg_w (rg_leR rl_24 r_3 c_4) (by decide) (by decide)
      exact L_25  ls (lv_sub hl [] rfl)
    · have r_6 : rgI (0) (23) a0 := rg_w (rg_ltL r_3 rl_24 (nle_lt c_4)) (by decide) (by decide)
      refine lv_aload_n hx hb dX10_isUnbindable_10 rfl (lv_at hl 0 rfl) ?_
      obtain ⟨_, ⟨q_8, q_9, q_10, q_11, q_12, q_13, q_14, rfl, kq_8, kq_9, kq_10⟩, o_c_7⟩ := hH h0 _ k_h0
      refine hg_get hx hb hG igX10 hown hK o_c_7 rfl 4 (by decide) (hG _ mw_122) rfl dX10_isUnbindable_11 ?_
      refine lv_iconst (v := 1) hx hb dX10_isUnbindable_14 (by decide) ?_
      refine lv_iload_n hx hb dX10_isUnbindable_15 rfl (lv_at hl 1 rfl) ?_
      refine lv_ishl hx hb dX10_isUnbindable_16 ?_
      refine lv_topi (fun x_15 ex_15 => ?_)
      refine lv_iand hx hb dX10_isUnbindable_17 ?_
      refine lv_topi (fun x_16 ex_16 => ?_)
      refine lv_if_eq (tgt := 25) hx hb dX10_isUnbindable_18 (by decide) (fun c_17 => ?_) (fun c_17 => ?_)
      · have r_18 : rgI (0) (0) x_16 := rg_w (rg_eq rl_0 c_17) (by decide) (by decide)
        exact L_25  ls (lv_sub hl [] rfl)
      · refine lv_iconst (v := 1) hx hb dX10_isUnbindable_21 (by decide) ?_
        refine lv_goto (tgt := 26) hx hb dX10_isUnbindable_22 (by decide) ?_
        exact W.zret hx hb hr rfl (fun t ht hW => ⟨1, rfl, ⟨rg_w rl_1 (by decide) (by decide), Or.inr (rg_w r_6 (by decide) (by decide))⟩, ht⟩) (fun q h => by cases h) dX10_isUnbindable_26

set_option maxHeartbeats 4000000 in
set_option maxRecDepth 100000 in
theorem c_X10_parentOf_o (l : Launch) (g : Gx) (Ty : TyM) (G : Gh) (h0 : Nat) (a0 : Int32) (k_h0 : Ty h0 = some (20, 0)) : Met l yX10_parentOf (wsG yX10_parentOf cX10_parentOf 2 (some .int)) ({ frames := 0, cells := 0, slots := 0, locals := 0 }) (PcH g Ty G [.ref h0, .int a0]) (vp_Si (fun r => True)) 0 0 (fun _ => False) := by
  refine Met.ofW (cc := cX10_parentOf) (maxL := 2) (ret := (some .int)) (by decide) rfl ?_
  intro p e s m args below meth c s₁ B hml hv
  obtain ⟨rfl, hK, hH⟩ := hv
  have hx := B.exec
  have hb := B.bytes
  have hr := B.returns
  have hts := atoms_spec (ws := (wsG yX10_parentOf cX10_parentOf 2 (some .int))) B.pre
  have hG : ∀ w ∈ GW, w.before ([.ref h0, .int a0] : List Value).toArray s = true := fun w h => hts w (List.mem_cons_of_mem _ h)
  have hown : s.vm.findClass RX10 = some m.cls := findClass_of_methodNamed B.named
  have hlocks := B.notSynchronized
  have hl := lv_entry [.ref h0, .int a0] (n := 2) (Nat.le_of_ble_eq_true rfl)
  rw [lg_entry_eq]
  generalize (lg_sl [.ref h0, .int a0] ++ List.replicate (2 - (lg_sl [.ref h0, .int a0]).length) Slot.unset).toArray = ls at hl ⊢
  have hl : lv_has ls 2 [(0, .ref h0), (1, .int a0)] := hl
  have L_30 : ∀ (ls : Array Slot), lv_has ls 2 [] → Wm p l e (wsG yX10_parentOf cX10_parentOf 2 (some .int)) ({ frames := 0, cells := 0, slots := 0, locals := 0 }) s m [.ref h0, .int a0] below meth c s.heap [] (0) (0) (vp_Si (fun r => True)) 0 0 (fun _ => False) (F0 m 30 ls []) := by
    intro ls hl
    refine lv_bipush (v := 24) hx hb dX10_parentOf_30 (by decide) ?_
    exact W.iret hx hb hr (fun t ht hW => ⟨24, rfl, trivial, ht⟩) (fun q h => by cases h) dX10_parentOf_32
  refine lv_iload_n hx hb dX10_parentOf_0 rfl (lv_at hl 1 rfl) ?_
  refine lv_if_lt (tgt := 30) hx hb dX10_parentOf_1 (by decide) (fun c_1 => ?_) (fun c_1 => ?_)
  · have r_2 : rgI (-2147483648) (-1) a0 := rg_w (rg_ltL (rg_top a0) rl_0 c_1) (by decide) (by decide)
    exact L_30  ls (lv_sub hl [] rfl)
  · have r_3 : rgI (0) (2147483647) a0 := rg_w (rg_leR rl_0 (rg_top a0) (nlt_le c_1)) (by decide) (by decide)
    refine lv_iload_n hx hb dX10_parentOf_4 rfl (lv_at hl 1 rfl) ?_
    refine lv_bipush (v := 24) hx hb dX10_parentOf_5 (by decide) ?_
    refine lv_icmp_ge (tgt := 30) hx hb dX10_parentOf_7 (by decide) (fun c_4 => ?_) (fun c_4 => ?_)
    · have r_5 : rgI (24) (2147483647) a0 := rg_w (rg_leR rl_24 r_3 c_4) (by decide) (by decide)
      exact L_30  ls (lv_sub hl [] rfl)
    · have r_6 : rgI (0) (23) a0 := rg_w (rg_ltL r_3 rl_24 (nle_lt c_4)) (by decide) (by decide)
      refine lv_aload_n hx hb dX10_parentOf_10 rfl (lv_at hl 0 rfl) ?_
      obtain ⟨_, ⟨q_8, q_9, q_10, q_11, q_12, q_13, q_14, rfl, kq_8, kq_9, kq_10⟩, o_c_7⟩ := hH h0 _ k_h0
      refine hg_get hx hb hG igX10 hown hK o_c_7 rfl 0 (by decide) (hG _ mw_115) rfl dX10_parentOf_11 ?_
      refine lv_iload_n hx hb dX10_parentOf_14 rfl (lv_at hl 1 rfl) ?_
      obtain ⟨_, ⟨f_16, rfl⟩, o_c_15⟩ := hH q_8 _ kq_8
      refine hg_iald hx hb hK o_c_15 (rg_in (n := 24) r_6 (by decide) (by decide)) dX10_parentOf_15 ?_
      refine lv_topi (fun x_17 ex_17 => ?_)
      refine lv_if_lt (tgt := 30) hx hb dX10_parentOf_16 (by decide) (fun c_18 => ?_) (fun c_18 => ?_)
      · have r_19 : rgI (-2147483648) (-1) x_17 := rg_w (rg_ltL (rg_top x_17) rl_0 c_18) (by decide) (by decide)
        exact L_30  ls (lv_sub hl [] rfl)
      · have r_20 : rgI (0) (2147483647) x_17 := rg_w (rg_leR rl_0 (rg_top x_17) (nlt_le c_18)) (by decide) (by decide)
        refine lv_aload_n hx hb dX10_parentOf_19 rfl (lv_at hl 0 rfl) ?_
        refine hg_get hx hb hG igX10 hown hK o_c_7 rfl 0 (by decide) (hG _ mw_115) rfl dX10_parentOf_20 ?_
        refine lv_iload_n hx hb dX10_parentOf_23 rfl (lv_at hl 1 rfl) ?_
        refine hg_iald hx hb hK o_c_15 (rg_in (n := 24) r_6 (by decide) (by decide)) dX10_parentOf_24 ?_
        refine lv_topi (fun x_21 ex_21 => ?_)
        refine lv_iconst (v := 4) hx hb dX10_parentOf_25 (by decide) ?_
        refine lv_idiv hx hb dX10_parentOf_26 (by decide) ?_
        refine lv_topi (fun x_22 ex_22 => ?_)
        refine lv_goto (tgt := 32) hx hb dX10_parentOf_27 (by decide) ?_
        exact W.iret hx hb hr (fun t ht hW => ⟨x_22, rfl, trivial, ht⟩) (fun q h => by cases h) dX10_parentOf_32

set_option maxHeartbeats 4000000 in
set_option maxRecDepth 100000 in
theorem c_X10_dirOf_o (l : Launch) (g : Gx) (Ty : TyM) (G : Gh) (h0 : Nat) (a0 : Int32) (k_h0 : Ty h0 = some (20, 0)) : Met l yX10_dirOf (wsG yX10_dirOf cX10_dirOf 2 (some .int)) ({ frames := 0, cells := 0, slots := 0, locals := 0 }) (PcH g Ty G [.ref h0, .int a0]) (vp_Si (fun r => True)) 0 0 (fun _ => False) := by
  refine Met.ofW (cc := cX10_dirOf) (maxL := 2) (ret := (some .int)) (by decide) rfl ?_
  intro p e s m args below meth c s₁ B hml hv
  obtain ⟨rfl, hK, hH⟩ := hv
  have hx := B.exec
  have hb := B.bytes
  have hr := B.returns
  have hts := atoms_spec (ws := (wsG yX10_dirOf cX10_dirOf 2 (some .int))) B.pre
  have hG : ∀ w ∈ GW, w.before ([.ref h0, .int a0] : List Value).toArray s = true := fun w h => hts w (List.mem_cons_of_mem _ h)
  have hown : s.vm.findClass RX10 = some m.cls := findClass_of_methodNamed B.named
  have hlocks := B.notSynchronized
  have hl := lv_entry [.ref h0, .int a0] (n := 2) (Nat.le_of_ble_eq_true rfl)
  rw [lg_entry_eq]
  generalize (lg_sl [.ref h0, .int a0] ++ List.replicate (2 - (lg_sl [.ref h0, .int a0]).length) Slot.unset).toArray = ls at hl ⊢
  have hl : lv_has ls 2 [(0, .ref h0), (1, .int a0)] := hl
  have L_30 : ∀ (ls : Array Slot), lv_has ls 2 [] → Wm p l e (wsG yX10_dirOf cX10_dirOf 2 (some .int)) ({ frames := 0, cells := 0, slots := 0, locals := 0 }) s m [.ref h0, .int a0] below meth c s.heap [] (0) (0) (vp_Si (fun r => True)) 0 0 (fun _ => False) (F0 m 30 ls []) := by
    intro ls hl
    refine lv_iconst (v := 4) hx hb dX10_dirOf_30 (by decide) ?_
    exact W.iret hx hb hr (fun t ht hW => ⟨4, rfl, trivial, ht⟩) (fun q h => by cases h) dX10_dirOf_31
  refine lv_iload_n hx hb dX10_dirOf_0 rfl (lv_at hl 1 rfl) ?_
  refine lv_if_lt (tgt := 30) hx hb dX10_dirOf_1 (by decide) (fun c_1 => ?_) (fun c_1 => ?_)
  · have r_2 : rgI (-2147483648) (-1) a0 := rg_w (rg_ltL (rg_top a0) rl_0 c_1) (by decide) (by decide)
    exact L_30  ls (lv_sub hl [] rfl)
  · have r_3 : rgI (0) (2147483647) a0 := rg_w (rg_leR rl_0 (rg_top a0) (nlt_le c_1)) (by decide) (by decide)
    refine lv_iload_n hx hb dX10_dirOf_4 rfl (lv_at hl 1 rfl) ?_
    refine lv_bipush (v := 24) hx hb dX10_dirOf_5 (by decide) ?_
    refine lv_icmp_ge (tgt := 30) hx hb dX10_dirOf_7 (by decide) (fun c_4 => ?_) (fun c_4 => ?_)
    · have r_5 : rgI (24) (2147483647) a0 := rg_w (rg_leR rl_24 r_3 c_4) (by decide) (by decide)
      exact L_30  ls (lv_sub hl [] rfl)
    · have r_6 : rgI (0) (23) a0 := rg_w (rg_ltL r_3 rl_24 (nle_lt c_4)) (by decide) (by decide)
      refine lv_aload_n hx hb dX10_dirOf_10 rfl (lv_at hl 0 rfl) ?_
      obtain ⟨_, ⟨q_8, q_9, q_10, q_11, q_12, q_13, q_14, rfl, kq_8, kq_9, kq_10⟩, o_c_7⟩ := hH h0 _ k_h0
      refine hg_get hx hb hG igX10 hown hK o_c_7 rfl 0 (by decide) (hG _ mw_115) rfl dX10_dirOf_11 ?_
      refine lv_iload_n hx hb dX10_dirOf_14 rfl (lv_at hl 1 rfl) ?_
      obtain ⟨_, ⟨f_16, rfl⟩, o_c_15⟩ := hH q_8 _ kq_8
      refine hg_iald hx hb hK o_c_15 (rg_in (n := 24) r_6 (by decide) (by decide)) dX10_dirOf_15 ?_
      refine lv_topi (fun x_17 ex_17 => ?_)
      refine lv_if_lt (tgt := 30) hx hb dX10_dirOf_16 (by decide) (fun c_18 => ?_) (fun c_18 => ?_)
      · have r_19 : rgI (-2147483648) (-1) x_17 := rg_w (rg_ltL (rg_top x_17) rl_0 c_18) (by decide) (by decide)
        exact L_30  ls (lv_sub hl [] rfl)
      · have r_20 : rgI (0) (2147483647) x_17 := rg_w (rg_leR rl_0 (rg_top x_17) (nlt_le c_18)) (by decide) (by decide)
        refine lv_aload_n hx hb dX10_dirOf_19 rfl (lv_at hl 0 rfl) ?_
        refine hg_get hx hb hG igX10 hown hK o_c_7 rfl 0 (by decide) (hG _ mw_115) rfl dX10_dirOf_20 ?_
        refine lv_iload_n hx hb dX10_dirOf_23 rfl (lv_at hl 1 rfl) ?_
        refine hg_iald hx hb hK o_c_15 (rg_in (n := 24) r_6 (by decide) (by decide)) dX10_dirOf_24 ?_
        refine lv_topi (fun x_21 ex_21 => ?_)
        refine lv_iconst (v := 4) hx hb dX10_dirOf_25 (by decide) ?_
        refine lv_irem hx hb dX10_dirOf_26 (by decide) ?_
        refine lv_topi (fun x_22 ex_22 => ?_)
        refine lv_goto (tgt := 31) hx hb dX10_dirOf_27 (by decide) ?_
        exact W.iret hx hb hr (fun t ht hW => ⟨x_22, rfl, trivial, ht⟩) (fun q h => by cases h) dX10_dirOf_31

set_option maxHeartbeats 4000000 in
set_option maxRecDepth 100000 in
theorem c_X10_groupOf_o (l : Launch) (g : Gx) (Ty : TyM) (G : Gh) (h0 : Nat) (a0 : Int32) (k_h0 : Ty h0 = some (20, 0)) : Met l yX10_groupOf (wsG yX10_groupOf cX10_groupOf 2 (some .int)) ({ frames := 0, cells := 0, slots := 0, locals := 0 }) (PcH g Ty G [.ref h0, .int a0]) (vp_Si (fun r => True)) 0 0 (fun _ => False) := by
  refine Met.ofW (cc := cX10_groupOf) (maxL := 2) (ret := (some .int)) (by decide) rfl ?_
  intro p e s m args below meth c s₁ B hml hv
  obtain ⟨rfl, hK, hH⟩ := hv
  have hx := B.exec
  have hb := B.bytes
  have hr := B.returns
  have hts := atoms_spec (ws := (wsG yX10_groupOf cX10_groupOf 2 (some .int))) B.pre
  have hG : ∀ w ∈ GW, w.before ([.ref h0, .int a0] : List Value).toArray s = true := fun w h => hts w (List.mem_cons_of_mem _ h)
  have hown : s.vm.findClass RX10 = some m.cls := findClass_of_methodNamed B.named
  have hlocks := B.notSynchronized
  have hl := lv_entry [.ref h0, .int a0] (n := 2) (Nat.le_of_ble_eq_true rfl)
  rw [lg_entry_eq]
  generalize (lg_sl [.ref h0, .int a0] ++ List.replicate (2 - (lg_sl [.ref h0, .int a0]).length) Slot.unset).toArray = ls at hl ⊢
  have hl : lv_has ls 2 [(0, .ref h0), (1, .int a0)] := hl
  have L_19 : ∀ (ls : Array Slot), lv_has ls 2 [] → Wm p l e (wsG yX10_groupOf cX10_groupOf 2 (some .int)) ({ frames := 0, cells := 0, slots := 0, locals := 0 }) s m [.ref h0, .int a0] below meth c s.heap [] (0) (0) (vp_Si (fun r => True)) 0 0 (fun _ => False) (F0 m 19 ls []) := by
    intro ls hl
    refine lv_iconst (v := 0) hx hb dX10_groupOf_19 (by decide) ?_
    exact W.iret hx hb hr (fun t ht hW => ⟨0, rfl, trivial, ht⟩) (fun q h => by cases h) dX10_groupOf_20
  refine lv_iload_n hx hb dX10_groupOf_0 rfl (lv_at hl 1 rfl) ?_
  refine lv_if_lt (tgt := 19) hx hb dX10_groupOf_1 (by decide) (fun c_1 => ?_) (fun c_1 => ?_)
  · have r_2 : rgI (-2147483648) (-1) a0 := rg_w (rg_ltL (rg_top a0) rl_0 c_1) (by decide) (by decide)
    exact L_19  ls (lv_sub hl [] rfl)
  · have r_3 : rgI (0) (2147483647) a0 := rg_w (rg_leR rl_0 (rg_top a0) (nlt_le c_1)) (by decide) (by decide)
    refine lv_iload_n hx hb dX10_groupOf_4 rfl (lv_at hl 1 rfl) ?_
    refine lv_bipush (v := 24) hx hb dX10_groupOf_5 (by decide) ?_
    refine lv_icmp_ge (tgt := 19) hx hb dX10_groupOf_7 (by decide) (fun c_4 => ?_) (fun c_4 => ?_)
    · have r_5 : rgI (24) (2147483647) a0 := rg_w (rg_leR rl_24 r_3 c_4) (by decide) (by decide)
      exact L_19  ls (lv_sub hl [] rfl)
    · have r_6 : rgI (0) (23) a0 := rg_w (rg_ltL r_3 rl_24 (nle_lt c_4)) (by decide) (by decide)
      refine lv_aload_n hx hb dX10_groupOf_10 rfl (lv_at hl 0 rfl) ?_
      obtain ⟨_, ⟨q_8, q_9, q_10, q_11, q_12, q_13, q_14, rfl, kq_8, kq_9, kq_10⟩, o_c_7⟩ := hH h0 _ k_h0
      refine hg_get hx hb hG igX10 hown hK o_c_7 rfl 1 (by decide) (hG _ mw_116) rfl dX10_groupOf_11 ?_
      refine lv_iload_n hx hb dX10_groupOf_14 rfl (lv_at hl 1 rfl) ?_
      obtain ⟨_, ⟨f_16, rfl⟩, o_c_15⟩ := hH q_9 _ kq_9
      refine hg_iald hx hb hK o_c_15 (rg_in (n := 24) r_6 (by decide) (by decide)) dX10_groupOf_15 ?_
      refine lv_topi (fun x_17 ex_17 => ?_)
      refine lv_goto (tgt := 20) hx hb dX10_groupOf_16 (by decide) ?_
      exact W.iret hx hb hr (fun t ht hW => ⟨x_17, rfl, trivial, ht⟩) (fun q h => by cases h) dX10_groupOf_20

set_option maxHeartbeats 4000000 in
set_option maxRecDepth 100000 in
theorem c_X10_masterOf_o (l : Launch) (g : Gx) (Ty : TyM) (G : Gh) (h0 : Nat) (a0 : Int32) (k_h0 : Ty h0 = some (20, 0)) : Met l yX10_masterOf (wsG yX10_masterOf cX10_masterOf 2 (some .int)) ({ frames := 0, cells := 0, slots := 0, locals := 0 }) (PcH g Ty G [.ref h0, .int a0]) (vp_Si (fun r => True)) 0 0 (fun _ => False) := by
  refine Met.ofW (cc := cX10_masterOf) (maxL := 2) (ret := (some .int)) (by decide) rfl ?_
  intro p e s m args below meth c s₁ B hml hv
  obtain ⟨rfl, hK, hH⟩ := hv
  have hx := B.exec
  have hb := B.bytes
  have hr := B.returns
  have hts := atoms_spec (ws := (wsG yX10_masterOf cX10_masterOf 2 (some .int))) B.pre
  have hG : ∀ w ∈ GW, w.before ([.ref h0, .int a0] : List Value).toArray s = true := fun w h => hts w (List.mem_cons_of_mem _ h)
  have hown : s.vm.findClass RX10 = some m.cls := findClass_of_methodNamed B.named
  have hlocks := B.notSynchronized
  have hl := lv_entry [.ref h0, .int a0] (n := 2) (Nat.le_of_ble_eq_true rfl)
  rw [lg_entry_eq]
  generalize (lg_sl [.ref h0, .int a0] ++ List.replicate (2 - (lg_sl [.ref h0, .int a0]).length) Slot.unset).toArray = ls at hl ⊢
  have hl : lv_has ls 2 [(0, .ref h0), (1, .int a0)] := hl
  have L_19 : ∀ (ls : Array Slot), lv_has ls 2 [] → Wm p l e (wsG yX10_masterOf cX10_masterOf 2 (some .int)) ({ frames := 0, cells := 0, slots := 0, locals := 0 }) s m [.ref h0, .int a0] below meth c s.heap [] (0) (0) (vp_Si (fun r => True)) 0 0 (fun _ => False) (F0 m 19 ls []) := by
    intro ls hl
    refine lv_iconst (v := 0) hx hb dX10_masterOf_19 (by decide) ?_
    exact W.iret hx hb hr (fun t ht hW => ⟨0, rfl, trivial, ht⟩) (fun q h => by cases h) dX10_masterOf_20
  refine lv_iload_n hx hb dX10_masterOf_0 rfl (lv_at hl 1 rfl) ?_
  refine lv_if_lt (tgt := 19) hx hb dX10_masterOf_1 (by decide) (fun c_1 => ?_) (fun c_1 => ?_)
  · have r_2 : rgI (-2147483648) (-1) a0 := rg_w (rg_ltL (rg_top a0) rl_0 c_1) (by decide) (by decide)
    exact L_19  ls (lv_sub hl [] rfl)
  · have r_3 : rgI (0) (2147483647) a0 := rg_w (rg_leR rl_0 (rg_top a0) (nlt_le c_1)) (by decide) (by decide)
    refine lv_iload_n hx hb dX10_masterOf_4 rfl (lv_at hl 1 rfl) ?_
    refine lv_bipush (v := 24) hx hb dX10_masterOf_5 (by decide) ?_
    refine lv_icmp_ge (tgt := 19) hx hb dX10_masterOf_7 (by decide) (fun c_4 => ?_) (fun c_4 => ?_)
    · have r_5 : rgI (24) (2147483647) a0 := rg_w (rg_leR rl_24 r_3 c_4) (by decide) (by decide)
      exact L_19  ls (lv_sub hl [] rfl)
    · have r_6 : rgI (0) (23) a0 := rg_w (rg_ltL r_3 rl_24 (nle_lt c_4)) (by decide) (by decide)
      refine lv_aload_n hx hb dX10_masterOf_10 rfl (lv_at hl 0 rfl) ?_
      obtain ⟨_, ⟨q_8, q_9, q_10, q_11, q_12, q_13, q_14, rfl, kq_8, kq_9, kq_10⟩, o_c_7⟩ := hH h0 _ k_h0
      refine hg_get hx hb hG igX10 hown hK o_c_7 rfl 2 (by decide) (hG _ mw_117) rfl dX10_masterOf_11 ?_
      refine lv_iload_n hx hb dX10_masterOf_14 rfl (lv_at hl 1 rfl) ?_
      obtain ⟨_, ⟨f_16, rfl⟩, o_c_15⟩ := hH q_10 _ kq_10
      refine hg_iald hx hb hK o_c_15 (rg_in (n := 24) r_6 (by decide) (by decide)) dX10_masterOf_15 ?_
      refine lv_topi (fun x_17 ex_17 => ?_)
      refine lv_goto (tgt := 20) hx hb dX10_masterOf_16 (by decide) ?_
      exact W.iret hx hb hr (fun t ht hW => ⟨x_17, rfl, trivial, ht⟩) (fun q h => by cases h) dX10_masterOf_20

set_option maxHeartbeats 4000000 in
set_option maxRecDepth 100000 in
theorem c_X10_kindOf_o (l : Launch) (g : Gx) (Ty : TyM) (G : Gh) (h0 : Nat) (a0 : Int32) (k_h0 : Ty h0 = some (20, 0)) : Met l yX10_kindOf (wsG yX10_kindOf cX10_kindOf 2 (some .int)) ({ frames := 1, cells := 0, slots := 0, locals := 21 }) (PcH g Ty G [.ref h0, .int a0]) (vp_Si (fun r => True)) 0 0 (fun _ => False) := by
  refine Met.ofW (cc := cX10_kindOf) (maxL := 2) (ret := (some .int)) (by decide) rfl ?_
  intro p e s m args below meth c s₁ B hml hv
  obtain ⟨rfl, hK, hH⟩ := hv
  have hx := B.exec
  have hb := B.bytes
  have hr := B.returns
  have hts := atoms_spec (ws := (wsG yX10_kindOf cX10_kindOf 2 (some .int))) B.pre
  have hG : ∀ w ∈ GW, w.before ([.ref h0, .int a0] : List Value).toArray s = true := fun w h => hts w (List.mem_cons_of_mem _ h)
  have hown : s.vm.findClass RX10 = some m.cls := findClass_of_methodNamed B.named
  have hlocks := B.notSynchronized
  have hl := lv_entry [.ref h0, .int a0] (n := 2) (Nat.le_of_ble_eq_true rfl)
  rw [lg_entry_eq]
  generalize (lg_sl [.ref h0, .int a0] ++ List.replicate (2 - (lg_sl [.ref h0, .int a0]).length) Slot.unset).toArray = ls at hl ⊢
  have hl : lv_has ls 2 [(0, .ref h0), (1, .int a0)] := hl
  refine lv_aload_n hx hb dX10_kindOf_0 rfl (lv_at hl 0 rfl) ?_
  refine lv_iload_n hx hb dX10_kindOf_1 rfl (lv_at hl 1 rfl) ?_
  obtain ⟨_, ⟨q_2, q_3, q_4, q_5, q_6, q_7, q_8, rfl, kq_2, kq_3, kq_4⟩, o_c_1⟩ := hH h0 _ k_h0
  refine vp_callSi (W.runV (As := [.int a0]) (rest := []) ⟨hx, hb, hml, hown, hts⟩ (c_X10_has_o l g Ty G h0 a0 k_h0) (cwV 1 hts (gwV mw_644 mw_604 mw_605 mw_77 mw_606) rfl rfl rfl hv_X10_has ⟨Nat.le_of_ble_eq_true rfl, Nat.le_of_ble_eq_true rfl⟩) ⟨PcH_blind, hg_recv hK o_c_1 rfl, PcH_pre hK hH⟩ rfl rfl hl.1 rfl (lv_room (Nat.le_of_ble_eq_true rfl)) dX10_kindOf_2 ⟨Nat.zero_le _, Nat.zero_le _⟩) (fun x_9 hx_9 => ?_)
  have rx_9 : rgI (0) (1) x_9 := hx_9.1
  refine lv_if_ne (tgt := 10) hx hb dX10_kindOf_5 (by decide) (fun c_10 => ?_) (fun c_10 => ?_)
  · have r_11 : rgI (1) (1) x_9 := rg_w (rg_neL rx_9 rl_0 c_10) (by decide) (by decide)
    have r_12 : rgI (0) (23) a0 := rg_w (hx_9.2.resolve_left c_10) (by decide) (by decide)
    refine lv_aload_n hx hb dX10_kindOf_10 rfl (lv_at hl 0 rfl) ?_
    refine hg_get hx hb hG igX10 hown hK o_c_1 rfl 1 (by decide) (hG _ mw_116) rfl dX10_kindOf_11 ?_
    refine lv_iload_n hx hb dX10_kindOf_14 rfl (lv_at hl 1 rfl) ?_
    obtain ⟨_, ⟨f_14, rfl⟩, o_c_13⟩ := hH q_3 _ kq_3
    refine hg_iald hx hb hK o_c_13 (rg_in (n := 24) r_12 (by decide) (by decide)) dX10_kindOf_15 ?_
    refine lv_topi (fun x_15 ex_15 => ?_)
    refine lv_if_eq (tgt := 34) hx hb dX10_kindOf_16 (by decide) (fun c_16 => ?_) (fun c_16 => ?_)
    · have r_17 : rgI (0) (0) x_15 := rg_w (rg_eq rl_0 c_16) (by decide) (by decide)
      refine lv_aload_n hx hb dX10_kindOf_34 rfl (lv_at hl 0 rfl) ?_
      refine hg_get hx hb hG igX10 hown hK o_c_1 rfl 2 (by decide) (hG _ mw_117) rfl dX10_kindOf_35 ?_
      refine lv_iload_n hx hb dX10_kindOf_38 rfl (lv_at hl 1 rfl) ?_
      obtain ⟨_, ⟨f_19, rfl⟩, o_c_18⟩ := hH q_4 _ kq_4
      refine hg_iald hx hb hK o_c_18 (rg_in (n := 24) r_12 (by decide) (by decide)) dX10_kindOf_39 ?_
      refine lv_topi (fun x_20 ex_20 => ?_)
      refine lv_if_eq (tgt := 45) hx hb dX10_kindOf_40 (by decide) (fun c_21 => ?_) (fun c_21 => ?_)
      · have r_22 : rgI (0) (0) x_20 := rg_w (rg_eq rl_0 c_21) (by decide) (by decide)
        refine lv_aload_n hx hb dX10_kindOf_45 rfl (lv_at hl 0 rfl) ?_
        refine hg_get hx hb hG igX10 hown hK o_c_1 rfl 4 (by decide) (hG _ mw_122) rfl dX10_kindOf_46 ?_
        refine lv_iconst (v := 1) hx hb dX10_kindOf_49 (by decide) ?_
        refine lv_iload_n hx hb dX10_kindOf_50 rfl (lv_at hl 1 rfl) ?_
        refine lv_ishl hx hb dX10_kindOf_51 ?_
        refine lv_topi (fun x_23 ex_23 => ?_)
        refine lv_iand hx hb dX10_kindOf_52 ?_
        refine lv_topi (fun x_24 ex_24 => ?_)
        refine lv_if_eq (tgt := 60) hx hb dX10_kindOf_53 (by decide) (fun c_25 => ?_) (fun c_25 => ?_)
        · have r_26 : rgI (0) (0) x_24 := rg_w (rg_eq rl_0 c_25) (by decide) (by decide)
          refine lv_iconst (v := 0) hx hb dX10_kindOf_60 (by decide) ?_
          exact W.iret hx hb hr (fun t ht hW => ⟨0, rfl, trivial, ht⟩) (fun q h => by cases h) dX10_kindOf_61
        · refine lv_iconst (v := 3) hx hb dX10_kindOf_56 (by decide) ?_
          refine lv_goto (tgt := 61) hx hb dX10_kindOf_57 (by decide) ?_
          exact W.iret hx hb hr (fun t ht hW => ⟨3, rfl, trivial, ht⟩) (fun q h => by cases h) dX10_kindOf_61
      · refine lv_iconst (v := 2) hx hb dX10_kindOf_43 (by decide) ?_
        exact W.iret hx hb hr (fun t ht hW => ⟨2, rfl, trivial, ht⟩) (fun q h => by cases h) dX10_kindOf_44
    · refine lv_aload_n hx hb dX10_kindOf_19 rfl (lv_at hl 0 rfl) ?_
      refine hg_get hx hb hG igX10 hown hK o_c_1 rfl 2 (by decide) (hG _ mw_117) rfl dX10_kindOf_20 ?_
      refine lv_iload_n hx hb dX10_kindOf_23 rfl (lv_at hl 1 rfl) ?_
      obtain ⟨_, ⟨f_28, rfl⟩, o_c_27⟩ := hH q_4 _ kq_4
      refine hg_iald hx hb hK o_c_27 (rg_in (n := 24) r_12 (by decide) (by decide)) dX10_kindOf_24 ?_
      refine lv_topi (fun x_29 ex_29 => ?_)
      refine lv_if_eq (tgt := 32) hx hb dX10_kindOf_25 (by decide) (fun c_30 => ?_) (fun c_30 => ?_)
      · have r_31 : rgI (0) (0) x_29 := rg_w (rg_eq rl_0 c_30) (by decide) (by decide)
        refine lv_iconst (v := 1) hx hb dX10_kindOf_32 (by decide) ?_
        exact W.iret hx hb hr (fun t ht hW => ⟨1, rfl, trivial, ht⟩) (fun q h => by cases h) dX10_kindOf_33
      · refine lv_iconst (v := 4) hx hb dX10_kindOf_28 (by decide) ?_
        refine lv_goto (tgt := 33) hx hb dX10_kindOf_29 (by decide) ?_
        exact W.iret hx hb hr (fun t ht hW => ⟨4, rfl, trivial, ht⟩) (fun q h => by cases h) dX10_kindOf_33
  · have r_32 : rgI (0) (0) x_9 := rg_w (rg_eq rl_0 c_10) (by decide) (by decide)
    refine lv_iconst (v := 0) hx hb dX10_kindOf_8 (by decide) ?_
    exact W.iret hx hb hr (fun t ht hW => ⟨0, rfl, trivial, ht⟩) (fun q h => by cases h) dX10_kindOf_9

set_option maxHeartbeats 4000000 in
set_option maxRecDepth 100000 in
theorem c_X10_mountAt_o (l : Launch) (g : Gx) (Ty : TyM) (G : Gh) (h0 : Nat) (a0 : Int32) (a1 : Int32) (k_h0 : Ty h0 = some (20, 0)) : Met l yX10_mountAt (wsG yX10_mountAt cX10_mountAt 5 (some .int)) ({ frames := 0, cells := 0, slots := 0, locals := 0 }) (PcH g Ty G [.ref h0, .int a0, .int a1]) (vp_Si (fun r => True)) 0 0 (fun _ => False) := by
  refine Met.ofW (cc := cX10_mountAt) (maxL := 5) (ret := (some .int)) (by decide) rfl ?_
  intro p e s m args below meth c s₁ B hml hv
  obtain ⟨rfl, hK, hH⟩ := hv
  have hx := B.exec
  have hb := B.bytes
  have hr := B.returns
  have hts := atoms_spec (ws := (wsG yX10_mountAt cX10_mountAt 5 (some .int))) B.pre
  have hG : ∀ w ∈ GW, w.before ([.ref h0, .int a0, .int a1] : List Value).toArray s = true := fun w h => hts w (List.mem_cons_of_mem _ h)
  have hown : s.vm.findClass RX10 = some m.cls := findClass_of_methodNamed B.named
  have hlocks := B.notSynchronized
  have hl := lv_entry [.ref h0, .int a0, .int a1] (n := 5) (Nat.le_of_ble_eq_true rfl)
  rw [lg_entry_eq]
  generalize (lg_sl [.ref h0, .int a0, .int a1] ++ List.replicate (5 - (lg_sl [.ref h0, .int a0, .int a1]).length) Slot.unset).toArray = ls at hl ⊢
  have hl : lv_has ls 5 [(0, .ref h0), (1, .int a0), (2, .int a1)] := hl
  have L_40 : ∀ (ls : Array Slot), lv_has ls 5 [] → Wm p l e (wsG yX10_mountAt cX10_mountAt 5 (some .int)) ({ frames := 0, cells := 0, slots := 0, locals := 0 }) s m [.ref h0, .int a0, .int a1] below meth c s.heap [] (0) (0) (vp_Si (fun r => True)) 0 0 (fun _ => False) (F0 m 40 ls []) := by
    intro ls hl
    refine lv_bipush (v := 24) hx hb dX10_mountAt_40 (by decide) ?_
    exact W.iret hx hb hr (fun t ht hW => ⟨24, rfl, trivial, ht⟩) (fun q h => by cases h) dX10_mountAt_42
  have L_9 : ∀ (n : Nat) (y3_9 : Int32) (y4_9 : Int32) (ls : Array Slot), rgI (0) (24) y4_9 → (24 - (y4_9).toInt).toNat < n → lv_has ls 5 [(0, .ref h0), (3, .int y3_9), (4, .int y4_9)] → Wm p l e (wsG yX10_mountAt cX10_mountAt 5 (some .int)) ({ frames := 0, cells := 0, slots := 0, locals := 0 }) s m [.ref h0, .int a0, .int a1] below meth c s.heap [] (0) (0) (vp_Si (fun r => True)) 0 0 (fun _ => False) (F0 m 9 ls []) := by
    intro n
    induction n with
    | zero => intro y3_9 y4_9 ls ry4_9 hm; exact absurd hm (Nat.not_lt_zero _)
    | succ n ih_9 =>
      intro y3_9 y4_9 ls ry4_9 hm_9 hl
      refine lv_iload hx hb dX10_mountAt_9 (lv_at hl 2 rfl) ?_
      refine lv_bipush (v := 24) hx hb dX10_mountAt_11 (by decide) ?_
      refine lv_icmp_ge (tgt := 40) hx hb dX10_mountAt_13 (by decide) (fun c_1 => ?_) (fun c_1 => ?_)
      · have r_2 : rgI (24) (24) y4_9 := rg_w (rg_leR rl_24 ry4_9 c_1) (by decide) (by decide)
        exact L_40  ls (lv_sub hl [] rfl)
      · have r_3 : rgI (0) (23) y4_9 := rg_w (rg_ltL ry4_9 rl_24 (nle_lt c_1)) (by decide) (by decide)
        refine lv_iload_n hx hb dX10_mountAt_16 rfl (lv_at hl 1 rfl) ?_
        refine lv_if_lt (tgt := 40) hx hb dX10_mountAt_17 (by decide) (fun c_4 => ?_) (fun c_4 => ?_)
        · have r_5 : rgI (-2147483648) (-1) y3_9 := rg_w (rg_ltL (rg_top y3_9) rl_0 c_4) (by decide) (by decide)
          exact L_40  ls (lv_sub hl [] rfl)
        · have r_6 : rgI (0) (2147483647) y3_9 := rg_w (rg_leR rl_0 (rg_top y3_9) (nlt_le c_4)) (by decide) (by decide)
          refine lv_aload_n hx hb dX10_mountAt_20 rfl (lv_at hl 0 rfl) ?_
          obtain ⟨_, ⟨q_8, q_9, q_10, q_11, q_12, q_13, q_14, rfl, kq_8, kq_9, kq_10⟩, o_c_7⟩ := hH h0 _ k_h0
          refine hg_get hx hb hG igX10 hown hK o_c_7 rfl 0 (by decide) (hG _ mw_115) rfl dX10_mountAt_21 ?_
          refine lv_iload hx hb dX10_mountAt_24 (lv_at hl 2 rfl) ?_
          obtain ⟨_, ⟨f_16, rfl⟩, o_c_15⟩ := hH q_8 _ kq_8
          refine hg_iald hx hb hK o_c_15 (rg_in (n := 24) r_3 (by decide) (by decide)) dX10_mountAt_26 ?_
          refine lv_topi (fun x_17 ex_17 => ?_)
          refine lv_iload_n hx hb dX10_mountAt_27 rfl (lv_at hl 1 rfl) ?_
          refine lv_icmp_ne (tgt := 34) hx hb dX10_mountAt_28 (by decide) (fun c_18 => ?_) (fun c_18 => ?_)
          · obtain ⟨x_19, ex_19⟩ : ∃ y : Int32, y = y4_9 + 1 := ⟨_, rfl⟩
            have rx_19 : rgI (1) (24) x_19 := by rw [ex_19]; exact rg_w (rg_add r_3 rl_1 (by decide) (by decide)) (by decide) (by decide)
            have qx_19 : x_19.toInt = (y4_9 : Int32).toInt + 1 := by rw [ex_19]; exact rg_addE r_3 rl_1 (by decide) (by decide)
            refine lv_iinc (v := x_19) (lv' := [(4, .int x_19), (0, .ref h0), (3, .int y3_9)]) hx hb dX10_mountAt_34 hl (k := 2) rfl (by rw [ex_19]; rfl) (by decide) rfl (fun ls hl => ?_)
            refine lv_goto (tgt := 9) hx hb dX10_mountAt_37 (by decide) ?_
            exact ih_9 y3_9 x_19 ls (rg_w rx_19 (by decide) (by decide)) (by have h1 := qx_19; have h2 := r_3.1; have h3 := r_3.2; have h4 := hm_9; omega) (lv_sub hl [1, 2, 0] rfl)
          · have r_20 : rgI (0) (2147483647) x_17 := rg_w (rg_eq r_6 c_18) (by decide) (by decide)
            refine lv_iload hx hb dX10_mountAt_31 (lv_at hl 2 rfl) ?_
            exact W.iret hx hb hr (fun t ht hW => ⟨y4_9, rfl, trivial, ht⟩) (fun q h => by cases h) dX10_mountAt_33
  refine lv_iconst (v := 4) hx hb dX10_mountAt_0 (by decide) ?_
  refine lv_iload_n hx hb dX10_mountAt_1 rfl (lv_at hl 1 rfl) ?_
  refine lv_imul hx hb dX10_mountAt_2 ?_
  refine lv_topi (fun x_21 ex_21 => ?_)
  refine lv_iload_n hx hb dX10_mountAt_3 rfl (lv_at hl 2 rfl) ?_
  refine lv_iadd hx hb dX10_mountAt_4 ?_
  refine lv_topi (fun x_22 ex_22 => ?_)
  refine lv_istore_n (lv' := [(3, .int x_22), (0, .ref h0), (1, .int a0), (2, .int a1)]) hx hb dX10_mountAt_5 rfl hl (by decide) rfl (fun ls hl => ?_)
  refine lv_iconst (v := 0) hx hb dX10_mountAt_6 (by decide) ?_
  refine lv_istore (lv' := [(4, .int 0), (3, .int x_22), (0, .ref h0), (1, .int a0), (2, .int a1)]) hx hb dX10_mountAt_7 hl (by decide) rfl (fun ls hl => ?_)
  exact L_9 _ x_22 0 ls (rg_w rl_0 (by decide) (by decide)) (Nat.lt_succ_self _) (lv_sub hl [2, 1, 0] rfl)

set_option maxHeartbeats 4000000 in
set_option maxRecDepth 100000 in
theorem c_X10_takenAt_o (l : Launch) (g : Gx) (Ty : TyM) (G : Gh) (h0 : Nat) (a0 : Int32) (k_h0 : Ty h0 = some (20, 0)) : Met l yX10_takenAt (wsG yX10_takenAt cX10_takenAt 4 (some .int)) ({ frames := 0, cells := 0, slots := 0, locals := 0 }) (PcH g Ty G [.ref h0, .int a0]) (vp_Si (fun r => True)) 0 0 (fun _ => False) := by
  refine Met.ofW (cc := cX10_takenAt) (maxL := 4) (ret := (some .int)) (by decide) rfl ?_
  intro p e s m args below meth c s₁ B hml hv
  obtain ⟨rfl, hK, hH⟩ := hv
  have hx := B.exec
  have hb := B.bytes
  have hr := B.returns
  have hts := atoms_spec (ws := (wsG yX10_takenAt cX10_takenAt 4 (some .int))) B.pre
  have hG : ∀ w ∈ GW, w.before ([.ref h0, .int a0] : List Value).toArray s = true := fun w h => hts w (List.mem_cons_of_mem _ h)
  have hown : s.vm.findClass RX10 = some m.cls := findClass_of_methodNamed B.named
  have hlocks := B.notSynchronized
  have hl := lv_entry [.ref h0, .int a0] (n := 4) (Nat.le_of_ble_eq_true rfl)
  rw [lg_entry_eq]
  generalize (lg_sl [.ref h0, .int a0] ++ List.replicate (4 - (lg_sl [.ref h0, .int a0]).length) Slot.unset).toArray = ls at hl ⊢
  have hl : lv_has ls 4 [(0, .ref h0), (1, .int a0)] := hl
  have L_4 : ∀ (n : Nat) (y2_4 : Int32) (y3_4 : Int32) (ls : Array Slot), rgI (0) (24) y3_4 → (24 - (y3_4).toInt).toNat < n → lv_has ls 4 [(0, .ref h0), (1, .int a0), (2, .int y2_4), (3, .int y3_4)] → Wm p l e (wsG yX10_takenAt cX10_takenAt 4 (some .int)) ({ frames := 0, cells := 0, slots := 0, locals := 0 }) s m [.ref h0, .int a0] below meth c s.heap [] (0) (0) (vp_Si (fun r => True)) 0 0 (fun _ => False) (F0 m 4 ls []) := by
    intro n
    induction n with
    | zero => intro y2_4 y3_4 ls ry3_4 hm; exact absurd hm (Nat.not_lt_zero _)
    | succ n ih_4 =>
      intro y2_4 y3_4 ls ry3_4 hm_4 hl
      have L_44 : ∀ (y2_44 : Int32) (ls : Array Slot), rgI (0) (23) y3_4 → lv_has ls 4 [(0, .ref h0), (1, .int a0), (2, .int y2_44), (3, .int y3_4)] → Wm p l e (wsG yX10_takenAt cX10_takenAt 4 (some .int)) ({ frames := 0, cells := 0, slots := 0, locals := 0 }) s m [.ref h0, .int a0] below meth c s.heap [] (0) (0) (vp_Si (fun r => True)) 0 0 (fun _ => False) (F0 m 44 ls []) := by
        intro y2_44 ls ry3_44 hl
        obtain ⟨x_1, ex_1⟩ : ∃ y : Int32, y = y3_4 + 1 := ⟨_, rfl⟩
        have rx_1 : rgI (1) (24) x_1 := by rw [ex_1]; exact rg_w (rg_add ry3_44 rl_1 (by decide) (by decide)) (by decide) (by decide)
        have qx_1 : x_1.toInt = (y3_4 : Int32).toInt + 1 := by rw [ex_1]; exact rg_addE ry3_44 rl_1 (by decide) (by decide)
        refine lv_iinc (v := x_1) (lv' := [(3, .int x_1), (0, .ref h0), (1, .int a0), (2, .int y2_44)]) hx hb dX10_takenAt_44 hl (k := 3) rfl (by rw [ex_1]; rfl) (by decide) rfl (fun ls hl => ?_)
        refine lv_goto (tgt := 4) hx hb dX10_takenAt_47 (by decide) ?_
        exact ih_4 y2_44 x_1 ls (rg_w rx_1 (by decide) (by decide)) (by have h1 := qx_1; have h2 := ry3_44.1; have h3 := ry3_44.2; have h4 := hm_4; omega) (lv_sub hl [1, 2, 3, 0] rfl)
      refine lv_iload_n hx hb dX10_takenAt_4 rfl (lv_at hl 3 rfl) ?_
      refine lv_bipush (v := 24) hx hb dX10_takenAt_5 (by decide) ?_
      refine lv_icmp_ge (tgt := 50) hx hb dX10_takenAt_7 (by decide) (fun c_2 => ?_) (fun c_2 => ?_)
      · have r_3 : rgI (24) (24) y3_4 := rg_w (rg_leR rl_24 ry3_4 c_2) (by decide) (by decide)
        refine lv_iload_n hx hb dX10_takenAt_50 rfl (lv_at hl 2 rfl) ?_
        exact W.iret hx hb hr (fun t ht hW => ⟨y2_4, rfl, trivial, ht⟩) (fun q h => by cases h) dX10_takenAt_51
      · have r_4 : rgI (0) (23) y3_4 := rg_w (rg_ltL ry3_4 rl_24 (nle_lt c_2)) (by decide) (by decide)
        refine lv_aload_n hx hb dX10_takenAt_10 rfl (lv_at hl 0 rfl) ?_
        obtain ⟨_, ⟨q_6, q_7, q_8, q_9, q_10, q_11, q_12, rfl, kq_6, kq_7, kq_8⟩, o_c_5⟩ := hH h0 _ k_h0
        refine hg_get hx hb hG igX10 hown hK o_c_5 rfl 0 (by decide) (hG _ mw_115) rfl dX10_takenAt_11 ?_
        refine lv_iload_n hx hb dX10_takenAt_14 rfl (lv_at hl 3 rfl) ?_
        obtain ⟨_, ⟨f_14, rfl⟩, o_c_13⟩ := hH q_6 _ kq_6
        refine hg_iald hx hb hK o_c_13 (rg_in (n := 24) r_4 (by decide) (by decide)) dX10_takenAt_15 ?_
        refine lv_topi (fun x_15 ex_15 => ?_)
        refine lv_if_lt (tgt := 44) hx hb dX10_takenAt_16 (by decide) (fun c_16 => ?_) (fun c_16 => ?_)
        · have r_17 : rgI (-2147483648) (-1) x_15 := rg_w (rg_ltL (rg_top x_15) rl_0 c_16) (by decide) (by decide)
          exact L_44 y2_4 ls r_4 (lv_sub hl [0, 1, 2, 3] rfl)
        · have r_18 : rgI (0) (2147483647) x_15 := rg_w (rg_leR rl_0 (rg_top x_15) (nlt_le c_16)) (by decide) (by decide)
          refine lv_aload_n hx hb dX10_takenAt_19 rfl (lv_at hl 0 rfl) ?_
          refine hg_get hx hb hG igX10 hown hK o_c_5 rfl 0 (by decide) (hG _ mw_115) rfl dX10_takenAt_20 ?_
          refine lv_iload_n hx hb dX10_takenAt_23 rfl (lv_at hl 3 rfl) ?_
          refine hg_iald hx hb hK o_c_13 (rg_in (n := 24) r_4 (by decide) (by decide)) dX10_takenAt_24 ?_
          refine lv_topi (fun x_19 ex_19 => ?_)
          refine lv_iconst (v := 4) hx hb dX10_takenAt_25 (by decide) ?_
          refine lv_irem hx hb dX10_takenAt_26 (by decide) ?_
          refine lv_topi (fun x_20 ex_20 => ?_)
          refine lv_iload_n hx hb dX10_takenAt_27 rfl (lv_at hl 1 rfl) ?_
          refine lv_icmp_ne (tgt := 44) hx hb dX10_takenAt_28 (by decide) (fun c_21 => ?_) (fun c_21 => ?_)
          · exact L_44 y2_4 ls r_4 (lv_sub hl [0, 1, 2, 3] rfl)
          · refine lv_iload_n hx hb dX10_takenAt_31 rfl (lv_at hl 2 rfl) ?_
            refine lv_iconst (v := 1) hx hb dX10_takenAt_32 (by decide) ?_
            refine lv_aload_n hx hb dX10_takenAt_33 rfl (lv_at hl 0 rfl) ?_
            refine hg_get hx hb hG igX10 hown hK o_c_5 rfl 0 (by decide) (hG _ mw_115) rfl dX10_takenAt_34 ?_
            refine lv_iload_n hx hb dX10_takenAt_37 rfl (lv_at hl 3 rfl) ?_
            refine hg_iald hx hb hK o_c_13 (rg_in (n := 24) r_4 (by decide) (by decide)) dX10_takenAt_38 ?_
            refine lv_topi (fun x_22 ex_22 => ?_)
            refine lv_iconst (v := 4) hx hb dX10_takenAt_39 (by decide) ?_
            refine lv_idiv hx hb dX10_takenAt_40 (by decide) ?_
            refine lv_topi (fun x_23 ex_23 => ?_)
            refine lv_ishl hx hb dX10_takenAt_41 ?_
            refine lv_topi (fun x_24 ex_24 => ?_)
            refine lv_ior hx hb dX10_takenAt_42 ?_
            refine lv_topi (fun x_25 ex_25 => ?_)
            refine lv_istore_n (lv' := [(2, .int x_25), (0, .ref h0), (1, .int a0), (3, .int y3_4)]) hx hb dX10_takenAt_43 rfl hl (by decide) rfl (fun ls hl => ?_)
            exact L_44 x_25 ls r_4 (lv_sub hl [1, 2, 0, 3] rfl)
  refine lv_iconst (v := 0) hx hb dX10_takenAt_0 (by decide) ?_
  refine lv_istore_n (lv' := [(2, .int 0), (0, .ref h0), (1, .int a0)]) hx hb dX10_takenAt_1 rfl hl (by decide) rfl (fun ls hl => ?_)
  refine lv_iconst (v := 0) hx hb dX10_takenAt_2 (by decide) ?_
  refine lv_istore_n (lv' := [(3, .int 0), (2, .int 0), (0, .ref h0), (1, .int a0)]) hx hb dX10_takenAt_3 rfl hl (by decide) rfl (fun ls hl => ?_)
  exact L_4 _ 0 0 ls (rg_w rl_0 (by decide) (by decide)) (Nat.lt_succ_self _) (lv_sub hl [2, 3, 1, 0] rfl)

set_option maxHeartbeats 4000000 in
set_option maxRecDepth 100000 in
theorem c_X10_childrenOf_o (l : Launch) (g : Gx) (Ty : TyM) (G : Gh) (h0 : Nat) (a0 : Int32) (k_h0 : Ty h0 = some (20, 0)) : Met l yX10_childrenOf (wsG yX10_childrenOf cX10_childrenOf 4 (some .int)) ({ frames := 1, cells := 0, slots := 0, locals := 21 }) (PcH g Ty G [.ref h0, .int a0]) (vp_Si (fun r => True)) 0 0 (fun _ => False) := by
  refine Met.ofW (cc := cX10_childrenOf) (maxL := 4) (ret := (some .int)) (by decide) rfl ?_
  intro p e s m args below meth c s₁ B hml hv
  obtain ⟨rfl, hK, hH⟩ := hv
  have hx := B.exec
  have hb := B.bytes
  have hr := B.returns
  have hts := atoms_spec (ws := (wsG yX10_childrenOf cX10_childrenOf 4 (some .int))) B.pre
  have hG : ∀ w ∈ GW, w.before ([.ref h0, .int a0] : List Value).toArray s = true := fun w h => hts w (List.mem_cons_of_mem _ h)
  have hown : s.vm.findClass RX10 = some m.cls := findClass_of_methodNamed B.named
  have hlocks := B.notSynchronized
  have hl := lv_entry [.ref h0, .int a0] (n := 4) (Nat.le_of_ble_eq_true rfl)
  rw [lg_entry_eq]
  generalize (lg_sl [.ref h0, .int a0] ++ List.replicate (4 - (lg_sl [.ref h0, .int a0]).length) Slot.unset).toArray = ls at hl ⊢
  have hl : lv_has ls 4 [(0, .ref h0), (1, .int a0)] := hl
  have L_4 : ∀ (n : Nat) (y2_4 : Int32) (y3_4 : Int32) (ls : Array Slot), rgI (0) (24) y3_4 → (24 - (y3_4).toInt).toNat < n → lv_has ls 4 [(0, .ref h0), (1, .int a0), (2, .int y2_4), (3, .int y3_4)] → Wm p l e (wsG yX10_childrenOf cX10_childrenOf 4 (some .int)) ({ frames := 1, cells := 0, slots := 0, locals := 21 }) s m [.ref h0, .int a0] below meth c s.heap [] (0) (0) (vp_Si (fun r => True)) 0 0 (fun _ => False) (F0 m 4 ls []) := by
    intro n
    induction n with
    | zero => intro y2_4 y3_4 ls ry3_4 hm; exact absurd hm (Nat.not_lt_zero _)
    | succ n ih_4 =>
      intro y2_4 y3_4 ls ry3_4 hm_4 hl
      have L_25 : ∀ (y2_25 : Int32) (ls : Array Slot), rgI (0) (23) y3_4 → lv_has ls 4 [(0, .ref h0), (1, .int a0), (2, .int y2_25), (3, .int y3_4)] → Wm p l e (wsG yX10_childrenOf cX10_childrenOf 4 (some .int)) ({ frames := 1, cells := 0, slots := 0, locals := 21 }) s m [.ref h0, .int a0] below meth c s.heap [] (0) (0) (vp_Si (fun r => True)) 0 0 (fun _ => False) (F0 m 25 ls []) := by
        intro y2_25 ls ry3_25 hl
        obtain ⟨x_1, ex_1⟩ : ∃ y : Int32, y = y3_4 + 1 := ⟨_, rfl⟩
        have rx_1 : rgI (1) (24) x_1 := by rw [ex_1]; exact rg_w (rg_add ry3_25 rl_1 (by decide) (by decide)) (by decide) (by decide)
        have qx_1 : x_1.toInt = (y3_4 : Int32).toInt + 1 := by rw [ex_1]; exact rg_addE ry3_25 rl_1 (by decide) (by decide)
        refine lv_iinc (v := x_1) (lv' := [(3, .int x_1), (0, .ref h0), (1, .int a0), (2, .int y2_25)]) hx hb dX10_childrenOf_25 hl (k := 3) rfl (by rw [ex_1]; rfl) (by decide) rfl (fun ls hl => ?_)
        refine lv_goto (tgt := 4) hx hb dX10_childrenOf_28 (by decide) ?_
        exact ih_4 y2_25 x_1 ls (rg_w rx_1 (by decide) (by decide)) (by have h1 := qx_1; have h2 := ry3_25.1; have h3 := ry3_25.2; have h4 := hm_4; omega) (lv_sub hl [1, 2, 3, 0] rfl)
      refine lv_iload_n hx hb dX10_childrenOf_4 rfl (lv_at hl 3 rfl) ?_
      refine lv_bipush (v := 24) hx hb dX10_childrenOf_5 (by decide) ?_
      refine lv_icmp_ge (tgt := 31) hx hb dX10_childrenOf_7 (by decide) (fun c_2 => ?_) (fun c_2 => ?_)
      · have r_3 : rgI (24) (24) y3_4 := rg_w (rg_leR rl_24 ry3_4 c_2) (by decide) (by decide)
        refine lv_iload_n hx hb dX10_childrenOf_31 rfl (lv_at hl 2 rfl) ?_
        exact W.iret hx hb hr (fun t ht hW => ⟨y2_4, rfl, trivial, ht⟩) (fun q h => by cases h) dX10_childrenOf_32
      · have r_4 : rgI (0) (23) y3_4 := rg_w (rg_ltL ry3_4 rl_24 (nle_lt c_2)) (by decide) (by decide)
        refine lv_aload_n hx hb dX10_childrenOf_10 rfl (lv_at hl 0 rfl) ?_
        refine lv_iload_n hx hb dX10_childrenOf_11 rfl (lv_at hl 3 rfl) ?_
        obtain ⟨_, ⟨q_6, q_7, q_8, q_9, q_10, q_11, q_12, rfl, kq_6, kq_7, kq_8⟩, o_c_5⟩ := hH h0 _ k_h0
        refine vp_callSi (W.runV (As := [.int y3_4]) (rest := []) ⟨hx, hb, hml, hown, hts⟩ (c_X10_parentOf_o l g Ty G h0 y3_4 k_h0) (cwV 1 hts (gwV mw_682 mw_683 mw_684 mw_77 mw_685) rfl rfl rfl hv_X10_parentOf ⟨Nat.le_of_ble_eq_true rfl, Nat.le_of_ble_eq_true rfl⟩) ⟨PcH_blind, hg_recv hK o_c_5 rfl, PcH_pre hK hH⟩ rfl rfl hl.1 rfl (lv_room (Nat.le_of_ble_eq_true rfl)) dX10_childrenOf_12 ⟨Nat.zero_le _, Nat.zero_le _⟩) (fun x_13 hx_13 => ?_)
        refine lv_iload_n hx hb dX10_childrenOf_15 rfl (lv_at hl 1 rfl) ?_
        refine lv_icmp_ne (tgt := 25) hx hb dX10_childrenOf_16 (by decide) (fun c_14 => ?_) (fun c_14 => ?_)
        · exact L_25 y2_4 ls r_4 (lv_sub hl [0, 1, 2, 3] rfl)
        · refine lv_iload_n hx hb dX10_childrenOf_19 rfl (lv_at hl 2 rfl) ?_
          refine lv_iconst (v := 1) hx hb dX10_childrenOf_20 (by decide) ?_
          refine lv_iload_n hx hb dX10_childrenOf_21 rfl (lv_at hl 3 rfl) ?_
          refine lv_ishl hx hb dX10_childrenOf_22 ?_
          refine lv_topi (fun x_15 ex_15 => ?_)
          refine lv_ior hx hb dX10_childrenOf_23 ?_
          refine lv_topi (fun x_16 ex_16 => ?_)
          refine lv_istore_n (lv' := [(2, .int x_16), (0, .ref h0), (1, .int a0), (3, .int y3_4)]) hx hb dX10_childrenOf_24 rfl hl (by decide) rfl (fun ls hl => ?_)
          exact L_25 x_16 ls r_4 (lv_sub hl [1, 2, 0, 3] rfl)
  refine lv_iconst (v := 0) hx hb dX10_childrenOf_0 (by decide) ?_
  refine lv_istore_n (lv' := [(2, .int 0), (0, .ref h0), (1, .int a0)]) hx hb dX10_childrenOf_1 rfl hl (by decide) rfl (fun ls hl => ?_)
  refine lv_iconst (v := 0) hx hb dX10_childrenOf_2 (by decide) ?_
  refine lv_istore_n (lv' := [(3, .int 0), (2, .int 0), (0, .ref h0), (1, .int a0)]) hx hb dX10_childrenOf_3 rfl hl (by decide) rfl (fun ls hl => ?_)
  exact L_4 _ 0 0 ls (rg_w rl_0 (by decide) (by decide)) (Nat.lt_succ_self _) (lv_sub hl [2, 3, 1, 0] rfl)

set_option maxHeartbeats 4000000 in
set_option maxRecDepth 100000 in
theorem c_X10_stepsTo_o (l : Launch) (g : Gx) (Ty : TyM) (G : Gh) (h0 : Nat) (a0 : Int32) (k_h0 : Ty h0 = some (20, 0)) : Met l yX10_stepsTo (wsG yX10_stepsTo cX10_stepsTo 5 (some .int)) ({ frames := 1, cells := 0, slots := 0, locals := 21 }) (PcH g Ty G [.ref h0, .int a0]) (vp_Si (fun r => True)) 0 0 (fun _ => False) := by
  refine Met.ofW (cc := cX10_stepsTo) (maxL := 5) (ret := (some .int)) (by decide) rfl ?_
  intro p e s m args below meth c s₁ B hml hv
  obtain ⟨rfl, hK, hH⟩ := hv
  have hx := B.exec
  have hb := B.bytes
  have hr := B.returns
  have hts := atoms_spec (ws := (wsG yX10_stepsTo cX10_stepsTo 5 (some .int))) B.pre
  have hG : ∀ w ∈ GW, w.before ([.ref h0, .int a0] : List Value).toArray s = true := fun w h => hts w (List.mem_cons_of_mem _ h)
  have hown : s.vm.findClass RX10 = some m.cls := findClass_of_methodNamed B.named
  have hlocks := B.notSynchronized
  have hl := lv_entry [.ref h0, .int a0] (n := 5) (Nat.le_of_ble_eq_true rfl)
  rw [lg_entry_eq]
  generalize (lg_sl [.ref h0, .int a0] ++ List.replicate (5 - (lg_sl [.ref h0, .int a0]).length) Slot.unset).toArray = ls at hl ⊢
  have hl : lv_has ls 5 [(0, .ref h0), (1, .int a0)] := hl
  have L_39 : ∀ (y2_39 : Int32) (ls : Array Slot), lv_has ls 5 [(2, .int y2_39)] → Wm p l e (wsG yX10_stepsTo cX10_stepsTo 5 (some .int)) ({ frames := 1, cells := 0, slots := 0, locals := 21 }) s m [.ref h0, .int a0] below meth c s.heap [] (0) (0) (vp_Si (fun r => True)) 0 0 (fun _ => False) (F0 m 39 ls []) := by
    intro y2_39 ls hl
    refine lv_iload_n hx hb dX10_stepsTo_39 rfl (lv_at hl 0 rfl) ?_
    exact W.iret hx hb hr (fun t ht hW => ⟨y2_39, rfl, trivial, ht⟩) (fun q h => by cases h) dX10_stepsTo_40
  have L_11 : ∀ (n : Nat) (y2_11 : Int32) (y3_11 : Int32) (y4_11 : Int32) (ls : Array Slot), rgI (0) (24) y4_11 → (24 - (y4_11).toInt).toNat < n → lv_has ls 5 [(0, .ref h0), (2, .int y2_11), (3, .int y3_11), (4, .int y4_11)] → Wm p l e (wsG yX10_stepsTo cX10_stepsTo 5 (some .int)) ({ frames := 1, cells := 0, slots := 0, locals := 21 }) s m [.ref h0, .int a0] below meth c s.heap [] (0) (0) (vp_Si (fun r => True)) 0 0 (fun _ => False) (F0 m 11 ls []) := by
    intro n
    induction n with
    | zero => intro y2_11 y3_11 y4_11 ls ry4_11 hm; exact absurd hm (Nat.not_lt_zero _)
    | succ n ih_11 =>
      intro y2_11 y3_11 y4_11 ls ry4_11 hm_11 hl
      refine lv_iload hx hb dX10_stepsTo_11 (lv_at hl 3 rfl) ?_
      refine lv_bipush (v := 24) hx hb dX10_stepsTo_13 (by decide) ?_
      refine lv_icmp_ge (tgt := 39) hx hb dX10_stepsTo_15 (by decide) (fun c_1 => ?_) (fun c_1 => ?_)
      · have r_2 : rgI (24) (24) y4_11 := rg_w (rg_leR rl_24 ry4_11 c_1) (by decide) (by decide)
        exact L_39 y2_11 ls (lv_sub hl [1] rfl)
      · have r_3 : rgI (0) (23) y4_11 := rg_w (rg_ltL ry4_11 rl_24 (nle_lt c_1)) (by decide) (by decide)
        refine lv_iload_n hx hb dX10_stepsTo_18 rfl (lv_at hl 2 rfl) ?_
        refine lv_bipush (v := 24) hx hb dX10_stepsTo_19 (by decide) ?_
        refine lv_icmp_eq (tgt := 39) hx hb dX10_stepsTo_21 (by decide) (fun c_4 => ?_) (fun c_4 => ?_)
        · have r_5 : rgI (24) (24) y3_11 := rg_w (rg_eq rl_24 c_4) (by decide) (by decide)
          exact L_39 y2_11 ls (lv_sub hl [1] rfl)
        · obtain ⟨x_6, ex_6⟩ : ∃ y : Int32, y = y2_11 + 1 := ⟨_, rfl⟩
          refine lv_iinc (v := x_6) (lv' := [(2, .int x_6), (0, .ref h0), (3, .int y3_11), (4, .int y4_11)]) hx hb dX10_stepsTo_24 hl (k := 1) rfl (by rw [ex_6]; rfl) (by decide) rfl (fun ls hl => ?_)
          refine lv_aload_n hx hb dX10_stepsTo_27 rfl (lv_at hl 1 rfl) ?_
          refine lv_iload_n hx hb dX10_stepsTo_28 rfl (lv_at hl 2 rfl) ?_
          obtain ⟨_, ⟨q_8, q_9, q_10, q_11, q_12, q_13, q_14, rfl, kq_8, kq_9, kq_10⟩, o_c_7⟩ := hH h0 _ k_h0
          refine vp_callSi (W.runV (As := [.int y3_11]) (rest := []) ⟨hx, hb, hml, hown, hts⟩ (c_X10_parentOf_o l g Ty G h0 y3_11 k_h0) (cwV 1 hts (gwV mw_682 mw_683 mw_684 mw_77 mw_685) rfl rfl rfl hv_X10_parentOf ⟨Nat.le_of_ble_eq_true rfl, Nat.le_of_ble_eq_true rfl⟩) ⟨PcH_blind, hg_recv hK o_c_7 rfl, PcH_pre hK hH⟩ rfl rfl hl.1 rfl (lv_room (Nat.le_of_ble_eq_true rfl)) dX10_stepsTo_29 ⟨Nat.zero_le _, Nat.zero_le _⟩) (fun x_15 hx_15 => ?_)
          refine lv_istore_n (lv' := [(3, .int x_15), (2, .int x_6), (0, .ref h0), (4, .int y4_11)]) hx hb dX10_stepsTo_32 rfl hl (by decide) rfl (fun ls hl => ?_)
          obtain ⟨x_16, ex_16⟩ : ∃ y : Int32, y = y4_11 + 1 := ⟨_, rfl⟩
          have rx_16 : rgI (1) (24) x_16 := by rw [ex_16]; exact rg_w (rg_add r_3 rl_1 (by decide) (by decide)) (by decide) (by decide)
          have qx_16 : x_16.toInt = (y4_11 : Int32).toInt + 1 := by rw [ex_16]; exact rg_addE r_3 rl_1 (by decide) (by decide)
          refine lv_iinc (v := x_16) (lv' := [(4, .int x_16), (3, .int x_15), (2, .int x_6), (0, .ref h0)]) hx hb dX10_stepsTo_33 hl (k := 3) rfl (by rw [ex_16]; rfl) (by decide) rfl (fun ls hl => ?_)
          refine lv_goto (tgt := 11) hx hb dX10_stepsTo_36 (by decide) ?_
          exact ih_11 x_6 x_15 x_16 ls (rg_w rx_16 (by decide) (by decide)) (by have h1 := qx_16; have h2 := r_3.1; have h3 := r_3.2; have h4 := hm_11; omega) (lv_sub hl [3, 2, 1, 0] rfl)
  refine lv_iconst (v := 0) hx hb dX10_stepsTo_0 (by decide) ?_
  refine lv_istore_n (lv' := [(2, .int 0), (0, .ref h0), (1, .int a0)]) hx hb dX10_stepsTo_1 rfl hl (by decide) rfl (fun ls hl => ?_)
  refine lv_aload_n hx hb dX10_stepsTo_2 rfl (lv_at hl 1 rfl) ?_
  refine lv_iload_n hx hb dX10_stepsTo_3 rfl (lv_at hl 2 rfl) ?_
  obtain ⟨_, ⟨q_18, q_19, q_20, q_21, q_22, q_23, q_24, rfl, kq_18, kq_19, kq_20⟩, o_c_17⟩ := hH h0 _ k_h0
  refine vp_callSi (W.runV (As := [.int a0]) (rest := []) ⟨hx, hb, hml, hown, hts⟩ (c_X10_parentOf_o l g Ty G h0 a0 k_h0) (cwV 1 hts (gwV mw_682 mw_683 mw_684 mw_77 mw_685) rfl rfl rfl hv_X10_parentOf ⟨Nat.le_of_ble_eq_true rfl, Nat.le_of_ble_eq_true rfl⟩) ⟨PcH_blind, hg_recv hK o_c_17 rfl, PcH_pre hK hH⟩ rfl rfl hl.1 rfl (lv_room (Nat.le_of_ble_eq_true rfl)) dX10_stepsTo_4 ⟨Nat.zero_le _, Nat.zero_le _⟩) (fun x_25 hx_25 => ?_)
  refine lv_istore_n (lv' := [(3, .int x_25), (2, .int 0), (0, .ref h0), (1, .int a0)]) hx hb dX10_stepsTo_7 rfl hl (by decide) rfl (fun ls hl => ?_)
  refine lv_iconst (v := 0) hx hb dX10_stepsTo_8 (by decide) ?_
  refine lv_istore (lv' := [(4, .int 0), (3, .int x_25), (2, .int 0), (0, .ref h0), (1, .int a0)]) hx hb dX10_stepsTo_9 hl (by decide) rfl (fun ls hl => ?_)
  exact L_11 _ 0 x_25 0 ls (rg_w rl_0 (by decide) (by decide)) (Nat.lt_succ_self _) (lv_sub hl [3, 2, 1, 0] rfl)

set_option maxHeartbeats 4000000 in
set_option maxRecDepth 100000 in
theorem c_X10_isIn_o (l : Launch) (g : Gx) (Ty : TyM) (G : Gh) (h0 : Nat) (a0 : Int32) (a1 : Int32) (k_h0 : Ty h0 = some (20, 0)) : Met l yX10_isIn (wsG yX10_isIn cX10_isIn 5 (some .boolean)) ({ frames := 1, cells := 0, slots := 0, locals := 21 }) (PcH g Ty G [.ref h0, .int a0, .int a1]) (vp_Si (fun r => rgI (0) (1) r)) 0 0 (fun _ => False) := by
  refine Met.ofW (cc := cX10_isIn) (maxL := 5) (ret := (some .boolean)) (by decide) rfl ?_
  intro p e s m args below meth c s₁ B hml hv
  obtain ⟨rfl, hK, hH⟩ := hv
  have hx := B.exec
  have hb := B.bytes
  have hr := B.returns
  have hts := atoms_spec (ws := (wsG yX10_isIn cX10_isIn 5 (some .boolean))) B.pre
  have hG : ∀ w ∈ GW, w.before ([.ref h0, .int a0, .int a1] : List Value).toArray s = true := fun w h => hts w (List.mem_cons_of_mem _ h)
  have hown : s.vm.findClass RX10 = some m.cls := findClass_of_methodNamed B.named
  have hlocks := B.notSynchronized
  have hl := lv_entry [.ref h0, .int a0, .int a1] (n := 5) (Nat.le_of_ble_eq_true rfl)
  rw [lg_entry_eq]
  generalize (lg_sl [.ref h0, .int a0, .int a1] ++ List.replicate (5 - (lg_sl [.ref h0, .int a0, .int a1]).length) Slot.unset).toArray = ls at hl ⊢
  have hl : lv_has ls 5 [(0, .ref h0), (1, .int a0), (2, .int a1)] := hl
  have L_41 : ∀ (ls : Array Slot), lv_has ls 5 [] → Wm p l e (wsG yX10_isIn cX10_isIn 5 (some .boolean)) ({ frames := 1, cells := 0, slots := 0, locals := 21 }) s m [.ref h0, .int a0, .int a1] below meth c s.heap [] (0) (0) (vp_Si (fun r => rgI (0) (1) r)) 0 0 (fun _ => False) (F0 m 41 ls []) := by
    intro ls hl
    refine lv_iconst (v := 0) hx hb dX10_isIn_41 (by decide) ?_
    exact W.zret hx hb hr rfl (fun t ht hW => ⟨0, rfl, rg_w rl_0 (by decide) (by decide), ht⟩) (fun q h => by cases h) dX10_isIn_42
  have L_9 : ∀ (n : Nat) (y3_9 : Int32) (y4_9 : Int32) (ls : Array Slot), rgI (0) (24) y4_9 → (24 - (y4_9).toInt).toNat < n → lv_has ls 5 [(0, .ref h0), (2, .int a1), (3, .int y3_9), (4, .int y4_9)] → Wm p l e (wsG yX10_isIn cX10_isIn 5 (some .boolean)) ({ frames := 1, cells := 0, slots := 0, locals := 21 }) s m [.ref h0, .int a0, .int a1] below meth c s.heap [] (0) (0) (vp_Si (fun r => rgI (0) (1) r)) 0 0 (fun _ => False) (F0 m 9 ls []) := by
    intro n
    induction n with
    | zero => intro y3_9 y4_9 ls ry4_9 hm; exact absurd hm (Nat.not_lt_zero _)
    | succ n ih_9 =>
      intro y3_9 y4_9 ls ry4_9 hm_9 hl
      refine lv_iload hx hb dX10_isIn_9 (lv_at hl 3 rfl) ?_
      refine lv_bipush (v := 24) hx hb dX10_isIn_11 (by decide) ?_
      refine lv_icmp_ge (tgt := 41) hx hb dX10_isIn_13 (by decide) (fun c_1 => ?_) (fun c_1 => ?_)
      · have r_2 : rgI (24) (24) y4_9 := rg_w (rg_leR rl_24 ry4_9 c_1) (by decide) (by decide)
        exact L_41  ls (lv_sub hl [] rfl)
      · have r_3 : rgI (0) (23) y4_9 := rg_w (rg_ltL ry4_9 rl_24 (nle_lt c_1)) (by decide) (by decide)
        refine lv_iload_n hx hb dX10_isIn_16 rfl (lv_at hl 2 rfl) ?_
        refine lv_bipush (v := 24) hx hb dX10_isIn_17 (by decide) ?_
        refine lv_icmp_eq (tgt := 41) hx hb dX10_isIn_19 (by decide) (fun c_4 => ?_) (fun c_4 => ?_)
        · have r_5 : rgI (24) (24) y3_9 := rg_w (rg_eq rl_24 c_4) (by decide) (by decide)
          exact L_41  ls (lv_sub hl [] rfl)
        · refine lv_iload_n hx hb dX10_isIn_22 rfl (lv_at hl 2 rfl) ?_
          refine lv_iload_n hx hb dX10_isIn_23 rfl (lv_at hl 1 rfl) ?_
          refine lv_icmp_ne (tgt := 29) hx hb dX10_isIn_24 (by decide) (fun c_6 => ?_) (fun c_6 => ?_)
          · refine lv_aload_n hx hb dX10_isIn_29 rfl (lv_at hl 0 rfl) ?_
            refine lv_iload_n hx hb dX10_isIn_30 rfl (lv_at hl 2 rfl) ?_
            obtain ⟨_, ⟨q_8, q_9, q_10, q_11, q_12, q_13, q_14, rfl, kq_8, kq_9, kq_10⟩, o_c_7⟩ := hH h0 _ k_h0
            refine vp_callSi (W.runV (As := [.int y3_9]) (rest := []) ⟨hx, hb, hml, hown, hts⟩ (c_X10_parentOf_o l g Ty G h0 y3_9 k_h0) (cwV 1 hts (gwV mw_682 mw_683 mw_684 mw_77 mw_685) rfl rfl rfl hv_X10_parentOf ⟨Nat.le_of_ble_eq_true rfl, Nat.le_of_ble_eq_true rfl⟩) ⟨PcH_blind, hg_recv hK o_c_7 rfl, PcH_pre hK hH⟩ rfl rfl hl.1 rfl (lv_room (Nat.le_of_ble_eq_true rfl)) dX10_isIn_31 ⟨Nat.zero_le _, Nat.zero_le _⟩) (fun x_15 hx_15 => ?_)
            refine lv_istore_n (lv' := [(3, .int x_15), (0, .ref h0), (2, .int a1), (4, .int y4_9)]) hx hb dX10_isIn_34 rfl hl (by decide) rfl (fun ls hl => ?_)
            obtain ⟨x_16, ex_16⟩ : ∃ y : Int32, y = y4_9 + 1 := ⟨_, rfl⟩
            have rx_16 : rgI (1) (24) x_16 := by rw [ex_16]; exact rg_w (rg_add r_3 rl_1 (by decide) (by decide)) (by decide) (by decide)
            have qx_16 : x_16.toInt = (y4_9 : Int32).toInt + 1 := by rw [ex_16]; exact rg_addE r_3 rl_1 (by decide) (by decide)
            refine lv_iinc (v := x_16) (lv' := [(4, .int x_16), (3, .int x_15), (0, .ref h0), (2, .int a1)]) hx hb dX10_isIn_35 hl (k := 3) rfl (by rw [ex_16]; rfl) (by decide) rfl (fun ls hl => ?_)
            refine lv_goto (tgt := 9) hx hb dX10_isIn_38 (by decide) ?_
            exact ih_9 x_15 x_16 ls (rg_w rx_16 (by decide) (by decide)) (by have h1 := qx_16; have h2 := r_3.1; have h3 := r_3.2; have h4 := hm_9; omega) (lv_sub hl [2, 3, 1, 0] rfl)
          · refine lv_iconst (v := 1) hx hb dX10_isIn_27 (by decide) ?_
            exact W.zret hx hb hr rfl (fun t ht hW => ⟨1, rfl, rg_w rl_1 (by decide) (by decide), ht⟩) (fun q h => by cases h) dX10_isIn_28
  refine lv_aload_n hx hb dX10_isIn_0 rfl (lv_at hl 0 rfl) ?_
  refine lv_iload_n hx hb dX10_isIn_1 rfl (lv_at hl 1 rfl) ?_
  obtain ⟨_, ⟨q_18, q_19, q_20, q_21, q_22, q_23, q_24, rfl, kq_18, kq_19, kq_20⟩, o_c_17⟩ := hH h0 _ k_h0
  refine vp_callSi (W.runV (As := [.int a0]) (rest := []) ⟨hx, hb, hml, hown, hts⟩ (c_X10_parentOf_o l g Ty G h0 a0 k_h0) (cwV 1 hts (gwV mw_682 mw_683 mw_684 mw_77 mw_685) rfl rfl rfl hv_X10_parentOf ⟨Nat.le_of_ble_eq_true rfl, Nat.le_of_ble_eq_true rfl⟩) ⟨PcH_blind, hg_recv hK o_c_17 rfl, PcH_pre hK hH⟩ rfl rfl hl.1 rfl (lv_room (Nat.le_of_ble_eq_true rfl)) dX10_isIn_2 ⟨Nat.zero_le _, Nat.zero_le _⟩) (fun x_25 hx_25 => ?_)
  refine lv_istore_n (lv' := [(3, .int x_25), (0, .ref h0), (1, .int a0), (2, .int a1)]) hx hb dX10_isIn_5 rfl hl (by decide) rfl (fun ls hl => ?_)
  refine lv_iconst (v := 0) hx hb dX10_isIn_6 (by decide) ?_
  refine lv_istore (lv' := [(4, .int 0), (3, .int x_25), (0, .ref h0), (1, .int a0), (2, .int a1)]) hx hb dX10_isIn_7 hl (by decide) rfl (fun ls hl => ?_)
  exact L_9 _ x_25 0 ls (rg_w rl_0 (by decide) (by decide)) (Nat.lt_succ_self _) (lv_sub hl [2, 4, 1, 0] rfl)

set_option maxHeartbeats 4000000 in
set_option maxRecDepth 100000 in
theorem c_X10_allIn_o (l : Launch) (g : Gx) (Ty : TyM) (G : Gh) (h0 : Nat) (a0 : Int32) (k_h0 : Ty h0 = some (20, 0)) : Met l yX10_allIn (wsG yX10_allIn cX10_allIn 4 (some .int)) ({ frames := 2, cells := 0, slots := 0, locals := 45 }) (PcH g Ty G [.ref h0, .int a0]) (vp_Si (fun r => True)) 0 0 (fun _ => False) := by
  refine Met.ofW (cc := cX10_allIn) (maxL := 4) (ret := (some .int)) (by decide) rfl ?_
  intro p e s m args below meth c s₁ B hml hv
  obtain ⟨rfl, hK, hH⟩ := hv
  have hx := B.exec
  have hb := B.bytes
  have hr := B.returns
  have hts := atoms_spec (ws := (wsG yX10_allIn cX10_allIn 4 (some .int))) B.pre
  have hG : ∀ w ∈ GW, w.before ([.ref h0, .int a0] : List Value).toArray s = true := fun w h => hts w (List.mem_cons_of_mem _ h)
  have hown : s.vm.findClass RX10 = some m.cls := findClass_of_methodNamed B.named
  have hlocks := B.notSynchronized
  have hl := lv_entry [.ref h0, .int a0] (n := 4) (Nat.le_of_ble_eq_true rfl)
  rw [lg_entry_eq]
  generalize (lg_sl [.ref h0, .int a0] ++ List.replicate (4 - (lg_sl [.ref h0, .int a0]).length) Slot.unset).toArray = ls at hl ⊢
  have hl : lv_has ls 4 [(0, .ref h0), (1, .int a0)] := hl
  have L_4 : ∀ (n : Nat) (y2_4 : Int32) (y3_4 : Int32) (ls : Array Slot), rgI (0) (24) y3_4 → (24 - (y3_4).toInt).toNat < n → lv_has ls 4 [(0, .ref h0), (1, .int a0), (2, .int y2_4), (3, .int y3_4)] → Wm p l e (wsG yX10_allIn cX10_allIn 4 (some .int)) ({ frames := 2, cells := 0, slots := 0, locals := 45 }) s m [.ref h0, .int a0] below meth c s.heap [] (0) (0) (vp_Si (fun r => True)) 0 0 (fun _ => False) (F0 m 4 ls []) := by
    intro n
    induction n with
    | zero => intro y2_4 y3_4 ls ry3_4 hm; exact absurd hm (Nat.not_lt_zero _)
    | succ n ih_4 =>
      intro y2_4 y3_4 ls ry3_4 hm_4 hl
      have L_25 : ∀ (y2_25 : Int32) (ls : Array Slot), rgI (0) (23) y3_4 → lv_has ls 4 [(0, .ref h0), (1, .int a0), (2, .int y2_25), (3, .int y3_4)] → Wm p l e (wsG yX10_allIn cX10_allIn 4 (some .int)) ({ frames := 2, cells := 0, slots := 0, locals := 45 }) s m [.ref h0, .int a0] below meth c s.heap [] (0) (0) (vp_Si (fun r => True)) 0 0 (fun _ => False) (F0 m 25 ls []) := by
        intro y2_25 ls ry3_25 hl
        obtain ⟨x_1, ex_1⟩ : ∃ y : Int32, y = y3_4 + 1 := ⟨_, rfl⟩
        have rx_1 : rgI (1) (24) x_1 := by rw [ex_1]; exact rg_w (rg_add ry3_25 rl_1 (by decide) (by decide)) (by decide) (by decide)
        have qx_1 : x_1.toInt = (y3_4 : Int32).toInt + 1 := by rw [ex_1]; exact rg_addE ry3_25 rl_1 (by decide) (by decide)
        refine lv_iinc (v := x_1) (lv' := [(3, .int x_1), (0, .ref h0), (1, .int a0), (2, .int y2_25)]) hx hb dX10_allIn_25 hl (k := 3) rfl (by rw [ex_1]; rfl) (by decide) rfl (fun ls hl => ?_)
        refine lv_goto (tgt := 4) hx hb dX10_allIn_28 (by decide) ?_
        exact ih_4 y2_25 x_1 ls (rg_w rx_1 (by decide) (by decide)) (by have h1 := qx_1; have h2 := ry3_25.1; have h3 := ry3_25.2; have h4 := hm_4; omega) (lv_sub hl [1, 2, 3, 0] rfl)
      refine lv_iload_n hx hb dX10_allIn_4 rfl (lv_at hl 3 rfl) ?_
      refine lv_bipush (v := 24) hx hb dX10_allIn_5 (by decide) ?_
      refine lv_icmp_ge (tgt := 31) hx hb dX10_allIn_7 (by decide) (fun c_2 => ?_) (fun c_2 => ?_)
      · have r_3 : rgI (24) (24) y3_4 := rg_w (rg_leR rl_24 ry3_4 c_2) (by decide) (by decide)
        refine lv_iload_n hx hb dX10_allIn_31 rfl (lv_at hl 2 rfl) ?_
        exact W.iret hx hb hr (fun t ht hW => ⟨y2_4, rfl, trivial, ht⟩) (fun q h => by cases h) dX10_allIn_32
      · have r_4 : rgI (0) (23) y3_4 := rg_w (rg_ltL ry3_4 rl_24 (nle_lt c_2)) (by decide) (by decide)
        refine lv_aload_n hx hb dX10_allIn_10 rfl (lv_at hl 0 rfl) ?_
        refine lv_iload_n hx hb dX10_allIn_11 rfl (lv_at hl 3 rfl) ?_
        refine lv_iload_n hx hb dX10_allIn_12 rfl (lv_at hl 1 rfl) ?_
        obtain ⟨_, ⟨q_6, q_7, q_8, q_9, q_10, q_11, q_12, rfl, kq_6, kq_7, kq_8⟩, o_c_5⟩ := hH h0 _ k_h0
        refine vp_callSi (W.runV (As := [.int y3_4, .int a0]) (rest := []) ⟨hx, hb, hml, hown, hts⟩ (c_X10_isIn_o l g Ty G h0 y3_4 a0 k_h0) (cwV 2 hts (gwV mw_961 mw_845 mw_846 mw_77 mw_847) rfl rfl rfl hv_X10_isIn ⟨Nat.le_of_ble_eq_true rfl, Nat.le_of_ble_eq_true rfl⟩) ⟨PcH_blind, hg_recv hK o_c_5 rfl, PcH_pre hK hH⟩ rfl rfl hl.1 rfl (lv_room (Nat.le_of_ble_eq_true rfl)) dX10_allIn_13 ⟨Nat.zero_le _, Nat.zero_le _⟩) (fun x_13 hx_13 => ?_)
        have rx_13 : rgI (0) (1) x_13 := hx_13
        refine lv_if_eq (tgt := 25) hx hb dX10_allIn_16 (by decide) (fun c_14 => ?_) (fun c_14 => ?_)
        · have r_15 : rgI (0) (0) x_13 := rg_w (rg_eq rl_0 c_14) (by decide) (by decide)
          exact L_25 y2_4 ls r_4 (lv_sub hl [0, 1, 2, 3] rfl)
        · have r_16 : rgI (1) (1) x_13 := rg_w (rg_neL rx_13 rl_0 c_14) (by decide) (by decide)
          refine lv_iload_n hx hb dX10_allIn_19 rfl (lv_at hl 2 rfl) ?_
          refine lv_iconst (v := 1) hx hb dX10_allIn_20 (by decide) ?_
          refine lv_iload_n hx hb dX10_allIn_21 rfl (lv_at hl 3 rfl) ?_
          refine lv_ishl hx hb dX10_allIn_22 ?_
          refine lv_topi (fun x_17 ex_17 => ?_)
          refine lv_ior hx hb dX10_allIn_23 ?_
          refine lv_topi (fun x_18 ex_18 => ?_)
          refine lv_istore_n (lv' := [(2, .int x_18), (0, .ref h0), (1, .int a0), (3, .int y3_4)]) hx hb dX10_allIn_24 rfl hl (by decide) rfl (fun ls hl => ?_)
          exact L_25 x_18 ls r_4 (lv_sub hl [1, 2, 0, 3] rfl)
  refine lv_iconst (v := 0) hx hb dX10_allIn_0 (by decide) ?_
  refine lv_istore_n (lv' := [(2, .int 0), (0, .ref h0), (1, .int a0)]) hx hb dX10_allIn_1 rfl hl (by decide) rfl (fun ls hl => ?_)
  refine lv_iconst (v := 0) hx hb dX10_allIn_2 (by decide) ?_
  refine lv_istore_n (lv' := [(3, .int 0), (2, .int 0), (0, .ref h0), (1, .int a0)]) hx hb dX10_allIn_3 rfl hl (by decide) rfl (fun ls hl => ?_)
  exact L_4 _ 0 0 ls (rg_w rl_0 (by decide) (by decide)) (Nat.lt_succ_self _) (lv_sub hl [2, 3, 1, 0] rfl)

set_option maxHeartbeats 4000000 in
set_option maxRecDepth 100000 in
theorem c_X10_having_o (l : Launch) (g : Gx) (Ty : TyM) (G : Gh) (b0 : Nat) (a1 : Int32) (k_b0 : Ty b0 = some (0, 24)) : Met l yX10_having (wsG yX10_having cX10_having 4 (some .int)) ({ frames := 0, cells := 0, slots := 0, locals := 0 }) (PcH g Ty G [.ref b0, .int a1]) (vp_Si (fun r => True)) 0 0 (fun _ => False) := by
  refine Met.ofW (cc := cX10_having) (maxL := 4) (ret := (some .int)) (by decide) rfl ?_
  intro p e s m args below meth c s₁ B hml hv
  obtain ⟨rfl, hK, hH⟩ := hv
  have hx := B.exec
  have hb := B.bytes
  have hr := B.returns
  have hts := atoms_spec (ws := (wsG yX10_having cX10_having 4 (some .int))) B.pre
  have hG : ∀ w ∈ GW, w.before ([.ref b0, .int a1] : List Value).toArray s = true := fun w h => hts w (List.mem_cons_of_mem _ h)
  have hown : s.vm.findClass RX10 = some m.cls := findClass_of_methodNamed B.named
  have hlocks := B.notSynchronized
  have hl := lv_entry [.ref b0, .int a1] (n := 4) (Nat.le_of_ble_eq_true rfl)
  rw [lg_entry_eq]
  generalize (lg_sl [.ref b0, .int a1] ++ List.replicate (4 - (lg_sl [.ref b0, .int a1]).length) Slot.unset).toArray = ls at hl ⊢
  have hl : lv_has ls 4 [(0, .ref b0), (1, .int a1)] := hl
  have L_35 : ∀ (y2_35 : Int32) (ls : Array Slot), lv_has ls 4 [(2, .int y2_35)] → Wm p l e (wsG yX10_having cX10_having 4 (some .int)) ({ frames := 0, cells := 0, slots := 0, locals := 0 }) s m [.ref b0, .int a1] below meth c s.heap [] (0) (0) (vp_Si (fun r => True)) 0 0 (fun _ => False) (F0 m 35 ls []) := by
    intro y2_35 ls hl
    refine lv_iload_n hx hb dX10_having_35 rfl (lv_at hl 0 rfl) ?_
    exact W.iret hx hb hr (fun t ht hW => ⟨y2_35, rfl, trivial, ht⟩) (fun q h => by cases h) dX10_having_36
  have L_4 : ∀ (n : Nat) (y2_4 : Int32) (y3_4 : Int32) (ls : Array Slot), rgI (0) (24) y3_4 → (24 - (y3_4).toInt).toNat < n → lv_has ls 4 [(0, .ref b0), (1, .int a1), (2, .int y2_4), (3, .int y3_4)] → Wm p l e (wsG yX10_having cX10_having 4 (some .int)) ({ frames := 0, cells := 0, slots := 0, locals := 0 }) s m [.ref b0, .int a1] below meth c s.heap [] (0) (0) (vp_Si (fun r => True)) 0 0 (fun _ => False) (F0 m 4 ls []) := by
    intro n
    induction n with
    | zero => intro y2_4 y3_4 ls ry3_4 hm; exact absurd hm (Nat.not_lt_zero _)
    | succ n ih_4 =>
      intro y2_4 y3_4 ls ry3_4 hm_4 hl
      have L_29 : ∀ (y2_29 : Int32) (ls : Array Slot), rgI (0) (23) y3_4 → lv_has ls 4 [(0, .ref b0), (1, .int a1), (2, .int y2_29), (3, .int y3_4)] → Wm p l e (wsG yX10_having cX10_having 4 (some .int)) ({ frames := 0, cells := 0, slots := 0, locals := 0 }) s m [.ref b0, .int a1] below meth c s.heap [] (0) (0) (vp_Si (fun r => True)) 0 0 (fun _ => False) (F0 m 29 ls []) := by
        intro y2_29 ls ry3_29 hl
        obtain ⟨x_1, ex_1⟩ : ∃ y : Int32, y = y3_4 + 1 := ⟨_, rfl⟩
        have rx_1 : rgI (1) (24) x_1 := by rw [ex_1]; exact rg_w (rg_add ry3_29 rl_1 (by decide) (by decide)) (by decide) (by decide)
        have qx_1 : x_1.toInt = (y3_4 : Int32).toInt + 1 := by rw [ex_1]; exact rg_addE ry3_29 rl_1 (by decide) (by decide)
        refine lv_iinc (v := x_1) (lv' := [(3, .int x_1), (0, .ref b0), (1, .int a1), (2, .int y2_29)]) hx hb dX10_having_29 hl (k := 3) rfl (by rw [ex_1]; rfl) (by decide) rfl (fun ls hl => ?_)
        refine lv_goto (tgt := 4) hx hb dX10_having_32 (by decide) ?_
        exact ih_4 y2_29 x_1 ls (rg_w rx_1 (by decide) (by decide)) (by have h1 := qx_1; have h2 := ry3_29.1; have h3 := ry3_29.2; have h4 := hm_4; omega) (lv_sub hl [1, 2, 3, 0] rfl)
      refine lv_iload_n hx hb dX10_having_4 rfl (lv_at hl 3 rfl) ?_
      refine lv_bipush (v := 24) hx hb dX10_having_5 (by decide) ?_
      refine lv_icmp_ge (tgt := 35) hx hb dX10_having_7 (by decide) (fun c_2 => ?_) (fun c_2 => ?_)
      · have r_3 : rgI (24) (24) y3_4 := rg_w (rg_leR rl_24 ry3_4 c_2) (by decide) (by decide)
        exact L_35 y2_4 ls (lv_sub hl [2] rfl)
      · have r_4 : rgI (0) (23) y3_4 := rg_w (rg_ltL ry3_4 rl_24 (nle_lt c_2)) (by decide) (by decide)
        refine lv_iload_n hx hb dX10_having_10 rfl (lv_at hl 3 rfl) ?_
        refine lv_aload_n hx hb dX10_having_11 rfl (lv_at hl 0 rfl) ?_
        obtain ⟨_, ⟨f_6, rfl⟩, o_c_5⟩ := hH b0 _ k_b0
        refine va_alen (v := 24) hx hb hK.1 (vaP1 o_c_5) 0 1 rfl rfl rfl dX10_having_12 ?_
        refine lv_icmp_ge (tgt := 35) hx hb dX10_having_13 (by decide) (fun c_7 => ?_) (fun c_7 => ?_)
        · exact rg_no2 rl_24 r_4 c_7 (by decide)
        · refine lv_aload_n hx hb dX10_having_16 rfl (lv_at hl 0 rfl) ?_
          refine lv_iload_n hx hb dX10_having_17 rfl (lv_at hl 3 rfl) ?_
          refine hg_iald hx hb hK o_c_5 (rg_in (n := 24) r_4 (by decide) (by decide)) dX10_having_18 ?_
          refine lv_topi (fun x_8 ex_8 => ?_)
          refine lv_iload_n hx hb dX10_having_19 rfl (lv_at hl 1 rfl) ?_
          refine lv_icmp_ne (tgt := 29) hx hb dX10_having_20 (by decide) (fun c_9 => ?_) (fun c_9 => ?_)
          · exact L_29 y2_4 ls r_4 (lv_sub hl [0, 1, 2, 3] rfl)
          · refine lv_iload_n hx hb dX10_having_23 rfl (lv_at hl 2 rfl) ?_
            refine lv_iconst (v := 1) hx hb dX10_having_24 (by decide) ?_
            refine lv_iload_n hx hb dX10_having_25 rfl (lv_at hl 3 rfl) ?_
            refine lv_ishl hx hb dX10_having_26 ?_
            refine lv_topi (fun x_10 ex_10 => ?_)
            refine lv_ior hx hb dX10_having_27 ?_
            refine lv_topi (fun x_11 ex_11 => ?_)
            refine lv_istore_n (lv' := [(2, .int x_11), (0, .ref b0), (1, .int a1), (3, .int y3_4)]) hx hb dX10_having_28 rfl hl (by decide) rfl (fun ls hl => ?_)
            exact L_29 x_11 ls r_4 (lv_sub hl [1, 2, 0, 3] rfl)
  refine lv_iconst (v := 0) hx hb dX10_having_0 (by decide) ?_
  refine lv_istore_n (lv' := [(2, .int 0), (0, .ref b0), (1, .int a1)]) hx hb dX10_having_1 rfl hl (by decide) rfl (fun ls hl => ?_)
  refine lv_iconst (v := 0) hx hb dX10_having_2 (by decide) ?_
  refine lv_istore_n (lv' := [(3, .int 0), (2, .int 0), (0, .ref b0), (1, .int a1)]) hx hb dX10_having_3 rfl hl (by decide) rfl (fun ls hl => ?_)
  exact L_4 _ 0 0 ls (rg_w rl_0 (by decide) (by decide)) (Nat.lt_succ_self _) (lv_sub hl [2, 3, 1, 0] rfl)

set_option maxHeartbeats 4000000 in
set_option maxRecDepth 100000 in
theorem c_X10_withGroup_o (l : Launch) (g : Gx) (Ty : TyM) (G : Gh) (h0 : Nat) (a0 : Int32) (k_h0 : Ty h0 = some (20, 0)) : Met l yX10_withGroup (wsG yX10_withGroup cX10_withGroup 2 (some .int)) ({ frames := 1, cells := 0, slots := 0, locals := 23 }) (PcH g Ty G [.ref h0, .int a0]) (vp_Si (fun r => True)) 0 0 (fun _ => False) := by
  refine Met.ofW (cc := cX10_withGroup) (maxL := 2) (ret := (some .int)) (by decide) rfl ?_
  intro p e s m args below meth c s₁ B hml hv
  obtain ⟨rfl, hK, hH⟩ := hv
  have hx := B.exec
  have hb := B.bytes
  have hr := B.returns
  have hts := atoms_spec (ws := (wsG yX10_withGroup cX10_withGroup 2 (some .int))) B.pre
  have hG : ∀ w ∈ GW, w.before ([.ref h0, .int a0] : List Value).toArray s = true := fun w h => hts w (List.mem_cons_of_mem _ h)
  have hown : s.vm.findClass RX10 = some m.cls := findClass_of_methodNamed B.named
  have hlocks := B.notSynchronized
  have hl := lv_entry [.ref h0, .int a0] (n := 2) (Nat.le_of_ble_eq_true rfl)
  rw [lg_entry_eq]
  generalize (lg_sl [.ref h0, .int a0] ++ List.replicate (2 - (lg_sl [.ref h0, .int a0]).length) Slot.unset).toArray = ls at hl ⊢
  have hl : lv_has ls 2 [(0, .ref h0), (1, .int a0)] := hl
  refine lv_iload_n hx hb dX10_withGroup_0 rfl (lv_at hl 1 rfl) ?_
  refine lv_if_ne (tgt := 8) hx hb dX10_withGroup_1 (by decide) (fun c_1 => ?_) (fun c_1 => ?_)
  · refine lv_aload_n hx hb dX10_withGroup_8 rfl (lv_at hl 0 rfl) ?_
    obtain ⟨_, ⟨q_3, q_4, q_5, q_6, q_7, q_8, q_9, rfl, kq_3, kq_4, kq_5⟩, o_c_2⟩ := hH h0 _ k_h0
    refine hg_get hx hb hG igX10 hown hK o_c_2 rfl 1 (by decide) (hG _ mw_116) rfl dX10_withGroup_9 ?_
    refine lv_iload_n hx hb dX10_withGroup_12 rfl (lv_at hl 1 rfl) ?_
    refine vp_callSi (W.runS (As := [.ref q_4, .int a0]) (rest := []) ⟨hx, hb, hml, hown, hts⟩ (c_X10_having_o l g Ty G q_4 a0 kq_4) (cwSx 2 hts hG (gwC mw_664) mw_77 mw_662 mw_663 rfl rfl rfl hd_X10_having ⟨Nat.le_of_ble_eq_true rfl, Nat.le_of_ble_eq_true rfl⟩) ⟨PcH_blind, PcH_pre hK hH⟩ rfl rfl hl.1 rfl (lv_room (Nat.le_of_ble_eq_true rfl)) dX10_withGroup_13 ⟨Nat.zero_le _, Nat.zero_le _⟩) (fun x_10 hx_10 => ?_)
    exact W.iret hx hb hr (fun t ht hW => ⟨x_10, rfl, trivial, ht⟩) (fun q h => by cases h) dX10_withGroup_16
  · have r_11 : rgI (0) (0) a0 := rg_w (rg_eq rl_0 c_1) (by decide) (by decide)
    refine lv_iconst (v := 0) hx hb dX10_withGroup_4 (by decide) ?_
    refine lv_goto (tgt := 16) hx hb dX10_withGroup_5 (by decide) ?_
    exact W.iret hx hb hr (fun t ht hW => ⟨0, rfl, trivial, ht⟩) (fun q h => by cases h) dX10_withGroup_16

set_option maxHeartbeats 4000000 in
set_option maxRecDepth 100000 in
theorem c_X10_withMaster_o (l : Launch) (g : Gx) (Ty : TyM) (G : Gh) (h0 : Nat) (a0 : Int32) (k_h0 : Ty h0 = some (20, 0)) : Met l yX10_withMaster (wsG yX10_withMaster cX10_withMaster 2 (some .int)) ({ frames := 1, cells := 0, slots := 0, locals := 23 }) (PcH g Ty G [.ref h0, .int a0]) (vp_Si (fun r => True)) 0 0 (fun _ => False) := by
  refine Met.ofW (cc := cX10_withMaster) (maxL := 2) (ret := (some .int)) (by decide) rfl ?_
  intro p e s m args below meth c s₁ B hml hv
  obtain ⟨rfl, hK, hH⟩ := hv
  have hx := B.exec
  have hb := B.bytes
  have hr := B.returns
  have hts := atoms_spec (ws := (wsG yX10_withMaster cX10_withMaster 2 (some .int))) B.pre
  have hG : ∀ w ∈ GW, w.before ([.ref h0, .int a0] : List Value).toArray s = true := fun w h => hts w (List.mem_cons_of_mem _ h)
  have hown : s.vm.findClass RX10 = some m.cls := findClass_of_methodNamed B.named
  have hlocks := B.notSynchronized
  have hl := lv_entry [.ref h0, .int a0] (n := 2) (Nat.le_of_ble_eq_true rfl)
  rw [lg_entry_eq]
  generalize (lg_sl [.ref h0, .int a0] ++ List.replicate (2 - (lg_sl [.ref h0, .int a0]).length) Slot.unset).toArray = ls at hl ⊢
  have hl : lv_has ls 2 [(0, .ref h0), (1, .int a0)] := hl
  refine lv_iload_n hx hb dX10_withMaster_0 rfl (lv_at hl 1 rfl) ?_
  refine lv_if_ne (tgt := 8) hx hb dX10_withMaster_1 (by decide) (fun c_1 => ?_) (fun c_1 => ?_)
  · refine lv_aload_n hx hb dX10_withMaster_8 rfl (lv_at hl 0 rfl) ?_
    obtain ⟨_, ⟨q_3, q_4, q_5, q_6, q_7, q_8, q_9, rfl, kq_3, kq_4, kq_5⟩, o_c_2⟩ := hH h0 _ k_h0
    refine hg_get hx hb hG igX10 hown hK o_c_2 rfl 2 (by decide) (hG _ mw_117) rfl dX10_withMaster_9 ?_
    refine lv_iload_n hx hb dX10_withMaster_12 rfl (lv_at hl 1 rfl) ?_
    refine vp_callSi (W.runS (As := [.ref q_5, .int a0]) (rest := []) ⟨hx, hb, hml, hown, hts⟩ (c_X10_having_o l g Ty G q_5 a0 kq_5) (cwSx 2 hts hG (gwC mw_664) mw_77 mw_662 mw_663 rfl rfl rfl hd_X10_having ⟨Nat.le_of_ble_eq_true rfl, Nat.le_of_ble_eq_true rfl⟩) ⟨PcH_blind, PcH_pre hK hH⟩ rfl rfl hl.1 rfl (lv_room (Nat.le_of_ble_eq_true rfl)) dX10_withMaster_13 ⟨Nat.zero_le _, Nat.zero_le _⟩) (fun x_10 hx_10 => ?_)
    exact W.iret hx hb hr (fun t ht hW => ⟨x_10, rfl, trivial, ht⟩) (fun q h => by cases h) dX10_withMaster_16
  · have r_11 : rgI (0) (0) a0 := rg_w (rg_eq rl_0 c_1) (by decide) (by decide)
    refine lv_iconst (v := 0) hx hb dX10_withMaster_4 (by decide) ?_
    refine lv_goto (tgt := 16) hx hb dX10_withMaster_5 (by decide) ?_
    exact W.iret hx hb hr (fun t ht hW => ⟨0, rfl, trivial, ht⟩) (fun q h => by cases h) dX10_withMaster_16

set_option maxHeartbeats 4000000 in
set_option maxRecDepth 100000 in
theorem c_X10_withAnyGroup_o (l : Launch) (g : Gx) (Ty : TyM) (G : Gh) (h0 : Nat) (k_h0 : Ty h0 = some (20, 0)) : Met l yX10_withAnyGroup (wsG yX10_withAnyGroup cX10_withAnyGroup 1 (some .int)) ({ frames := 1, cells := 0, slots := 0, locals := 23 }) (PcH g Ty G [.ref h0]) (vp_Si (fun r => True)) 0 0 (fun _ => False) := by
  refine Met.ofW (cc := cX10_withAnyGroup) (maxL := 1) (ret := (some .int)) (by decide) rfl ?_
  intro p e s m args below meth c s₁ B hml hv
  obtain ⟨rfl, hK, hH⟩ := hv
  have hx := B.exec
  have hb := B.bytes
  have hr := B.returns
  have hts := atoms_spec (ws := (wsG yX10_withAnyGroup cX10_withAnyGroup 1 (some .int))) B.pre
  have hG : ∀ w ∈ GW, w.before ([.ref h0] : List Value).toArray s = true := fun w h => hts w (List.mem_cons_of_mem _ h)
  have hown : s.vm.findClass RX10 = some m.cls := findClass_of_methodNamed B.named
  have hlocks := B.notSynchronized
  have hl := lv_entry [.ref h0] (n := 1) (Nat.le_of_ble_eq_true rfl)
  rw [lg_entry_eq]
  generalize (lg_sl [.ref h0] ++ List.replicate (1 - (lg_sl [.ref h0]).length) Slot.unset).toArray = ls at hl ⊢
  have hl : lv_has ls 1 [(0, .ref h0)] := hl
  refine lv_aload_n hx hb dX10_withAnyGroup_0 rfl (lv_at hl 0 rfl) ?_
  obtain ⟨_, ⟨q_2, q_3, q_4, q_5, q_6, q_7, q_8, rfl, kq_2, kq_3, kq_4⟩, o_c_1⟩ := hH h0 _ k_h0
  refine hg_get hx hb hG igX10 hown hK o_c_1 rfl 3 (by decide) (hG _ mw_118) rfl dX10_withAnyGroup_1 ?_
  refine lv_aload_n hx hb dX10_withAnyGroup_4 rfl (lv_at hl 0 rfl) ?_
  refine hg_get hx hb hG igX10 hown hK o_c_1 rfl 1 (by decide) (hG _ mw_116) rfl dX10_withAnyGroup_5 ?_
  refine lv_iconst (v := 0) hx hb dX10_withAnyGroup_8 (by decide) ?_
  refine vp_callSi (W.runS (As := [.ref q_3, .int 0]) (rest := [.int q_5]) ⟨hx, hb, hml, hown, hts⟩ (c_X10_having_o l g Ty G q_3 0 kq_3) (cwSx 2 hts hG (gwC mw_664) mw_77 mw_662 mw_663 rfl rfl rfl hd_X10_having ⟨Nat.le_of_ble_eq_true rfl, Nat.le_of_ble_eq_true rfl⟩) ⟨PcH_blind, PcH_pre hK hH⟩ rfl rfl hl.1 rfl (lv_room (Nat.le_of_ble_eq_true rfl)) dX10_withAnyGroup_9 ⟨Nat.zero_le _, Nat.zero_le _⟩) (fun x_9 hx_9 => ?_)
  refine lv_iconst (v := (-1)) hx hb dX10_withAnyGroup_12 (by decide) ?_
  refine lv_ixor hx hb dX10_withAnyGroup_13 ?_
  refine lv_topi (fun x_10 ex_10 => ?_)
  refine lv_iand hx hb dX10_withAnyGroup_14 ?_
  refine lv_topi (fun x_11 ex_11 => ?_)
  exact W.iret hx hb hr (fun t ht hW => ⟨x_11, rfl, trivial, ht⟩) (fun q h => by cases h) dX10_withAnyGroup_15

set_option maxHeartbeats 4000000 in
set_option maxRecDepth 100000 in
theorem c_X10_withAnyMaster_o (l : Launch) (g : Gx) (Ty : TyM) (G : Gh) (h0 : Nat) (k_h0 : Ty h0 = some (20, 0)) : Met l yX10_withAnyMaster (wsG yX10_withAnyMaster cX10_withAnyMaster 1 (some .int)) ({ frames := 1, cells := 0, slots := 0, locals := 23 }) (PcH g Ty G [.ref h0]) (vp_Si (fun r => True)) 0 0 (fun _ => False) := by
  refine Met.ofW (cc := cX10_withAnyMaster) (maxL := 1) (ret := (some .int)) (by decide) rfl ?_
  intro p e s m args below meth c s₁ B hml hv
  obtain ⟨rfl, hK, hH⟩ := hv
  have hx := B.exec
  have hb := B.bytes
  have hr := B.returns
  have hts := atoms_spec (ws := (wsG yX10_withAnyMaster cX10_withAnyMaster 1 (some .int))) B.pre
  have hG : ∀ w ∈ GW, w.before ([.ref h0] : List Value).toArray s = true := fun w h => hts w (List.mem_cons_of_mem _ h)
  have hown : s.vm.findClass RX10 = some m.cls := findClass_of_methodNamed B.named
  have hlocks := B.notSynchronized
  have hl := lv_entry [.ref h0] (n := 1) (Nat.le_of_ble_eq_true rfl)
  rw [lg_entry_eq]
  generalize (lg_sl [.ref h0] ++ List.replicate (1 - (lg_sl [.ref h0]).length) Slot.unset).toArray = ls at hl ⊢
  have hl : lv_has ls 1 [(0, .ref h0)] := hl
  refine lv_aload_n hx hb dX10_withAnyMaster_0 rfl (lv_at hl 0 rfl) ?_
  obtain ⟨_, ⟨q_2, q_3, q_4, q_5, q_6, q_7, q_8, rfl, kq_2, kq_3, kq_4⟩, o_c_1⟩ := hH h0 _ k_h0
  refine hg_get hx hb hG igX10 hown hK o_c_1 rfl 3 (by decide) (hG _ mw_118) rfl dX10_withAnyMaster_1 ?_
  refine lv_aload_n hx hb dX10_withAnyMaster_4 rfl (lv_at hl 0 rfl) ?_
  refine hg_get hx hb hG igX10 hown hK o_c_1 rfl 2 (by decide) (hG _ mw_117) rfl dX10_withAnyMaster_5 ?_
  refine lv_iconst (v := 0) hx hb dX10_withAnyMaster_8 (by decide) ?_
  refine vp_callSi (W.runS (As := [.ref q_4, .int 0]) (rest := [.int q_5]) ⟨hx, hb, hml, hown, hts⟩ (c_X10_having_o l g Ty G q_4 0 kq_4) (cwSx 2 hts hG (gwC mw_664) mw_77 mw_662 mw_663 rfl rfl rfl hd_X10_having ⟨Nat.le_of_ble_eq_true rfl, Nat.le_of_ble_eq_true rfl⟩) ⟨PcH_blind, PcH_pre hK hH⟩ rfl rfl hl.1 rfl (lv_room (Nat.le_of_ble_eq_true rfl)) dX10_withAnyMaster_9 ⟨Nat.zero_le _, Nat.zero_le _⟩) (fun x_9 hx_9 => ?_)
  refine lv_iconst (v := (-1)) hx hb dX10_withAnyMaster_12 (by decide) ?_
  refine lv_ixor hx hb dX10_withAnyMaster_13 ?_
  refine lv_topi (fun x_10 ex_10 => ?_)
  refine lv_iand hx hb dX10_withAnyMaster_14 ?_
  refine lv_topi (fun x_11 ex_11 => ?_)
  exact W.iret hx hb hr (fun t ht hW => ⟨x_11, rfl, trivial, ht⟩) (fun q h => by cases h) dX10_withAnyMaster_15

set_option maxHeartbeats 4000000 in
set_option maxRecDepth 100000 in
theorem c_X10_leastOf_o (l : Launch) (g : Gx) (Ty : TyM) (G : Gh) (h0 : Nat) (a0 : Int32) (k_h0 : Ty h0 = some (20, 0)) : Met l yX10_leastOf (wsG yX10_leastOf cX10_leastOf 3 (some .int)) ({ frames := 0, cells := 0, slots := 0, locals := 0 }) (PcH g Ty G [.ref h0, .int a0]) (vp_Si (fun r => rgI (0) (24) r)) 0 0 (fun _ => False) := by
  refine Met.ofW (cc := cX10_leastOf) (maxL := 3) (ret := (some .int)) (by decide) rfl ?_
  intro p e s m args below meth c s₁ B hml hv
  obtain ⟨rfl, hK, hH⟩ := hv
  have hx := B.exec
  have hb := B.bytes
  have hr := B.returns
  have hts := atoms_spec (ws := (wsG yX10_leastOf cX10_leastOf 3 (some .int))) B.pre
  have hG : ∀ w ∈ GW, w.before ([.ref h0, .int a0] : List Value).toArray s = true := fun w h => hts w (List.mem_cons_of_mem _ h)
  have hown : s.vm.findClass RX10 = some m.cls := findClass_of_methodNamed B.named
  have hlocks := B.notSynchronized
  have hl := lv_entry [.ref h0, .int a0] (n := 3) (Nat.le_of_ble_eq_true rfl)
  rw [lg_entry_eq]
  generalize (lg_sl [.ref h0, .int a0] ++ List.replicate (3 - (lg_sl [.ref h0, .int a0]).length) Slot.unset).toArray = ls at hl ⊢
  have hl : lv_has ls 3 [(0, .ref h0), (1, .int a0)] := hl
  have L_2 : ∀ (n : Nat) (y2_2 : Int32) (ls : Array Slot), rgI (0) (24) y2_2 → (24 - (y2_2).toInt).toNat < n → lv_has ls 3 [(1, .int a0), (2, .int y2_2)] → Wm p l e (wsG yX10_leastOf cX10_leastOf 3 (some .int)) ({ frames := 0, cells := 0, slots := 0, locals := 0 }) s m [.ref h0, .int a0] below meth c s.heap [] (0) (0) (vp_Si (fun r => rgI (0) (24) r)) 0 0 (fun _ => False) (F0 m 2 ls []) := by
    intro n
    induction n with
    | zero => intro y2_2 ls ry2_2 hm; exact absurd hm (Nat.not_lt_zero _)
    | succ n ih_2 =>
      intro y2_2 ls ry2_2 hm_2 hl
      refine lv_iload_n hx hb dX10_leastOf_2 rfl (lv_at hl 1 rfl) ?_
      refine lv_bipush (v := 24) hx hb dX10_leastOf_3 (by decide) ?_
      refine lv_icmp_ge (tgt := 24) hx hb dX10_leastOf_5 (by decide) (fun c_1 => ?_) (fun c_1 => ?_)
      · have r_2 : rgI (24) (24) y2_2 := rg_w (rg_leR rl_24 ry2_2 c_1) (by decide) (by decide)
        refine lv_bipush (v := 24) hx hb dX10_leastOf_24 (by decide) ?_
        exact W.iret hx hb hr (fun t ht hW => ⟨24, rfl, rg_w rl_24 (by decide) (by decide), ht⟩) (fun q h => by cases h) dX10_leastOf_26
      · have r_3 : rgI (0) (23) y2_2 := rg_w (rg_ltL ry2_2 rl_24 (nle_lt c_1)) (by decide) (by decide)
        refine lv_iload_n hx hb dX10_leastOf_8 rfl (lv_at hl 0 rfl) ?_
        refine lv_iconst (v := 1) hx hb dX10_leastOf_9 (by decide) ?_
        refine lv_iload_n hx hb dX10_leastOf_10 rfl (lv_at hl 1 rfl) ?_
        refine lv_ishl hx hb dX10_leastOf_11 ?_
        refine lv_topi (fun x_4 ex_4 => ?_)
        refine lv_iand hx hb dX10_leastOf_12 ?_
        refine lv_topi (fun x_5 ex_5 => ?_)
        refine lv_if_eq (tgt := 18) hx hb dX10_leastOf_13 (by decide) (fun c_6 => ?_) (fun c_6 => ?_)
        · have r_7 : rgI (0) (0) x_5 := rg_w (rg_eq rl_0 c_6) (by decide) (by decide)
          obtain ⟨x_8, ex_8⟩ : ∃ y : Int32, y = y2_2 + 1 := ⟨_, rfl⟩
          have rx_8 : rgI (1) (24) x_8 := by rw [ex_8]; exact rg_w (rg_add r_3 rl_1 (by decide) (by decide)) (by decide) (by decide)
          have qx_8 : x_8.toInt = (y2_2 : Int32).toInt + 1 := by rw [ex_8]; exact rg_addE r_3 rl_1 (by decide) (by decide)
          refine lv_iinc (v := x_8) (lv' := [(2, .int x_8), (1, .int a0)]) hx hb dX10_leastOf_18 hl (k := 1) rfl (by rw [ex_8]; rfl) (by decide) rfl (fun ls hl => ?_)
          refine lv_goto (tgt := 2) hx hb dX10_leastOf_21 (by decide) ?_
          exact ih_2 x_8 ls (rg_w rx_8 (by decide) (by decide)) (by have h1 := qx_8; have h2 := r_3.1; have h3 := r_3.2; have h4 := hm_2; omega) (lv_sub hl [1, 0] rfl)
        · refine lv_iload_n hx hb dX10_leastOf_16 rfl (lv_at hl 1 rfl) ?_
          exact W.iret hx hb hr (fun t ht hW => ⟨y2_2, rfl, rg_w r_3 (by decide) (by decide), ht⟩) (fun q h => by cases h) dX10_leastOf_17
  refine lv_iconst (v := 0) hx hb dX10_leastOf_0 (by decide) ?_
  refine lv_istore_n (lv' := [(2, .int 0), (0, .ref h0), (1, .int a0)]) hx hb dX10_leastOf_1 rfl hl (by decide) rfl (fun ls hl => ?_)
  exact L_2 _ 0 ls (rg_w rl_0 (by decide) (by decide)) (Nat.lt_succ_self _) (lv_sub hl [2, 0] rfl)

set_option maxHeartbeats 4000000 in
set_option maxRecDepth 100000 in
theorem c_X10_groupCount_o (l : Launch) (g : Gx) (Ty : TyM) (G : Gh) (h0 : Nat) (k_h0 : Ty h0 = some (20, 0)) : Met l yX10_groupCount (wsG yX10_groupCount cX10_groupCount 3 (some .int)) ({ frames := 2, cells := 0, slots := 0, locals := 44 }) (PcH g Ty G [.ref h0]) (vp_Si (fun r => True)) 0 0 (fun _ => False) := by
  refine Met.ofW (cc := cX10_groupCount) (maxL := 3) (ret := (some .int)) (by decide) rfl ?_
  intro p e s m args below meth c s₁ B hml hv
  obtain ⟨rfl, hK, hH⟩ := hv
  have hx := B.exec
  have hb := B.bytes
  have hr := B.returns
  have hts := atoms_spec (ws := (wsG yX10_groupCount cX10_groupCount 3 (some .int))) B.pre
  have hG : ∀ w ∈ GW, w.before ([.ref h0] : List Value).toArray s = true := fun w h => hts w (List.mem_cons_of_mem _ h)
  have hown : s.vm.findClass RX10 = some m.cls := findClass_of_methodNamed B.named
  have hlocks := B.notSynchronized
  have hl := lv_entry [.ref h0] (n := 3) (Nat.le_of_ble_eq_true rfl)
  rw [lg_entry_eq]
  generalize (lg_sl [.ref h0] ++ List.replicate (3 - (lg_sl [.ref h0]).length) Slot.unset).toArray = ls at hl ⊢
  have hl : lv_has ls 3 [(0, .ref h0)] := hl
  have L_4 : ∀ (n : Nat) (y1_4 : Int32) (y2_4 : Int32) (ls : Array Slot), rgI (0) (24) y2_4 → (24 - (y2_4).toInt).toNat < n → lv_has ls 3 [(0, .ref h0), (1, .int y1_4), (2, .int y2_4)] → Wm p l e (wsG yX10_groupCount cX10_groupCount 3 (some .int)) ({ frames := 2, cells := 0, slots := 0, locals := 44 }) s m [.ref h0] below meth c s.heap [] (0) (0) (vp_Si (fun r => True)) 0 0 (fun _ => False) (F0 m 4 ls []) := by
    intro n
    induction n with
    | zero => intro y1_4 y2_4 ls ry2_4 hm; exact absurd hm (Nat.not_lt_zero _)
    | succ n ih_4 =>
      intro y1_4 y2_4 ls ry2_4 hm_4 hl
      have L_40 : ∀ (y1_40 : Int32) (ls : Array Slot), rgI (0) (23) y2_4 → lv_has ls 3 [(0, .ref h0), (1, .int y1_40), (2, .int y2_4)] → Wm p l e (wsG yX10_groupCount cX10_groupCount 3 (some .int)) ({ frames := 2, cells := 0, slots := 0, locals := 44 }) s m [.ref h0] below meth c s.heap [] (0) (0) (vp_Si (fun r => True)) 0 0 (fun _ => False) (F0 m 40 ls []) := by
        intro y1_40 ls ry2_40 hl
        obtain ⟨x_1, ex_1⟩ : ∃ y : Int32, y = y2_4 + 1 := ⟨_, rfl⟩
        have rx_1 : rgI (1) (24) x_1 := by rw [ex_1]; exact rg_w (rg_add ry2_40 rl_1 (by decide) (by decide)) (by decide) (by decide)
        have qx_1 : x_1.toInt = (y2_4 : Int32).toInt + 1 := by rw [ex_1]; exact rg_addE ry2_40 rl_1 (by decide) (by decide)
        refine lv_iinc (v := x_1) (lv' := [(2, .int x_1), (0, .ref h0), (1, .int y1_40)]) hx hb dX10_groupCount_40 hl (k := 2) rfl (by rw [ex_1]; rfl) (by decide) rfl (fun ls hl => ?_)
        refine lv_goto (tgt := 4) hx hb dX10_groupCount_43 (by decide) ?_
        exact ih_4 y1_40 x_1 ls (rg_w rx_1 (by decide) (by decide)) (by have h1 := qx_1; have h2 := ry2_40.1; have h3 := ry2_40.2; have h4 := hm_4; omega) (lv_sub hl [1, 2, 0] rfl)
      refine lv_iload_n hx hb dX10_groupCount_4 rfl (lv_at hl 2 rfl) ?_
      refine lv_bipush (v := 24) hx hb dX10_groupCount_5 (by decide) ?_
      refine lv_icmp_ge (tgt := 46) hx hb dX10_groupCount_7 (by decide) (fun c_2 => ?_) (fun c_2 => ?_)
      · have r_3 : rgI (24) (24) y2_4 := rg_w (rg_leR rl_24 ry2_4 c_2) (by decide) (by decide)
        refine lv_iload_n hx hb dX10_groupCount_46 rfl (lv_at hl 1 rfl) ?_
        exact W.iret hx hb hr (fun t ht hW => ⟨y1_4, rfl, trivial, ht⟩) (fun q h => by cases h) dX10_groupCount_47
      · have r_4 : rgI (0) (23) y2_4 := rg_w (rg_ltL ry2_4 rl_24 (nle_lt c_2)) (by decide) (by decide)
        refine lv_aload_n hx hb dX10_groupCount_10 rfl (lv_at hl 0 rfl) ?_
        obtain ⟨_, ⟨q_6, q_7, q_8, q_9, q_10, q_11, q_12, rfl, kq_6, kq_7, kq_8⟩, o_c_5⟩ := hH h0 _ k_h0
        refine hg_get hx hb hG igX10 hown hK o_c_5 rfl 1 (by decide) (hG _ mw_116) rfl dX10_groupCount_11 ?_
        refine lv_iload_n hx hb dX10_groupCount_14 rfl (lv_at hl 2 rfl) ?_
        obtain ⟨_, ⟨f_14, rfl⟩, o_c_13⟩ := hH q_7 _ kq_7
        refine hg_iald hx hb hK o_c_13 (rg_in (n := 24) r_4 (by decide) (by decide)) dX10_groupCount_15 ?_
        refine lv_topi (fun x_15 ex_15 => ?_)
        refine lv_if_eq (tgt := 40) hx hb dX10_groupCount_16 (by decide) (fun c_16 => ?_) (fun c_16 => ?_)
        · have r_17 : rgI (0) (0) x_15 := rg_w (rg_eq rl_0 c_16) (by decide) (by decide)
          exact L_40 y1_4 ls r_4 (lv_sub hl [0, 1, 2] rfl)
        · refine lv_aload_n hx hb dX10_groupCount_19 rfl (lv_at hl 0 rfl) ?_
          refine lv_aload_n hx hb dX10_groupCount_20 rfl (lv_at hl 0 rfl) ?_
          refine lv_aload_n hx hb dX10_groupCount_21 rfl (lv_at hl 0 rfl) ?_
          refine hg_get hx hb hG igX10 hown hK o_c_5 rfl 1 (by decide) (hG _ mw_116) rfl dX10_groupCount_22 ?_
          refine lv_iload_n hx hb dX10_groupCount_25 rfl (lv_at hl 2 rfl) ?_
          refine hg_iald hx hb hK o_c_13 (rg_in (n := 24) r_4 (by decide) (by decide)) dX10_groupCount_26 ?_
          refine lv_topi (fun x_18 ex_18 => ?_)
          refine vp_callSi (W.runV (As := [.int x_18]) (rest := [.ref h0]) ⟨hx, hb, hml, hown, hts⟩ (c_X10_withGroup_o l g Ty G h0 x_18 k_h0) (cwV 1 hts (gwV mw_658 mw_659 mw_660 mw_77 mw_661) rfl rfl rfl hv_X10_withGroup ⟨Nat.le_of_ble_eq_true rfl, Nat.le_of_ble_eq_true rfl⟩) ⟨PcH_blind, hg_recv hK o_c_5 rfl, PcH_pre hK hH⟩ rfl rfl hl.1 rfl (lv_room (Nat.le_of_ble_eq_true rfl)) dX10_groupCount_27 ⟨Nat.zero_le _, Nat.zero_le _⟩) (fun x_19 hx_19 => ?_)
          refine vp_callSi (W.runV (As := [.int x_19]) (rest := []) ⟨hx, hb, hml, hown, hts⟩ (c_X10_leastOf_o l g Ty G h0 x_19 k_h0) (cwV 1 hts (gwV mw_653 mw_654 mw_655 mw_77 mw_656) rfl rfl rfl hv_X10_leastOf ⟨Nat.le_of_ble_eq_true rfl, Nat.le_of_ble_eq_true rfl⟩) ⟨PcH_blind, hg_recv hK o_c_5 rfl, PcH_pre hK hH⟩ rfl rfl hl.1 rfl (lv_room (Nat.le_of_ble_eq_true rfl)) dX10_groupCount_30 ⟨Nat.zero_le _, Nat.zero_le _⟩) (fun x_20 hx_20 => ?_)
          have rx_20 : rgI (0) (24) x_20 := hx_20
          refine lv_iload_n hx hb dX10_groupCount_33 rfl (lv_at hl 2 rfl) ?_
          refine lv_icmp_ne (tgt := 40) hx hb dX10_groupCount_34 (by decide) (fun c_21 => ?_) (fun c_21 => ?_)
          · exact L_40 y1_4 ls r_4 (lv_sub hl [0, 1, 2] rfl)
          · have r_22 : rgI (0) (23) x_20 := rg_w (rg_eq r_4 c_21) (by decide) (by decide)
            obtain ⟨x_23, ex_23⟩ : ∃ y : Int32, y = y1_4 + 1 := ⟨_, rfl⟩
            refine lv_iinc (v := x_23) (lv' := [(1, .int x_23), (0, .ref h0), (2, .int y2_4)]) hx hb dX10_groupCount_37 hl (k := 1) rfl (by rw [ex_23]; rfl) (by decide) rfl (fun ls hl => ?_)
            exact L_40 x_23 ls r_4 (lv_sub hl [1, 0, 2] rfl)
  refine lv_iconst (v := 0) hx hb dX10_groupCount_0 (by decide) ?_
  refine lv_istore_n (lv' := [(1, .int 0), (0, .ref h0)]) hx hb dX10_groupCount_1 rfl hl (by decide) rfl (fun ls hl => ?_)
  refine lv_iconst (v := 0) hx hb dX10_groupCount_2 (by decide) ?_
  refine lv_istore_n (lv' := [(2, .int 0), (1, .int 0), (0, .ref h0)]) hx hb dX10_groupCount_3 rfl hl (by decide) rfl (fun ls hl => ?_)
  exact L_4 _ 0 0 ls (rg_w rl_0 (by decide) (by decide)) (Nat.lt_succ_self _) (lv_sub hl [2, 1, 0] rfl)

set_option maxHeartbeats 4000000 in
set_option maxRecDepth 100000 in
theorem c_X10_peersOf_o (l : Launch) (g : Gx) (Ty : TyM) (G : Gh) (h0 : Nat) (a0 : Int32) (k_h0 : Ty h0 = some (20, 0)) : Met l yX10_peersOf (wsG yX10_peersOf cX10_peersOf 2 (some .int)) ({ frames := 2, cells := 0, slots := 0, locals := 44 }) (PcH g Ty G [.ref h0, .int a0]) (vp_Si (fun r => True)) 0 0 (fun _ => False) := by
  refine Met.ofW (cc := cX10_peersOf) (maxL := 2) (ret := (some .int)) (by decide) rfl ?_
  intro p e s m args below meth c s₁ B hml hv
  obtain ⟨rfl, hK, hH⟩ := hv
  have hx := B.exec
  have hb := B.bytes
  have hr := B.returns
  have hts := atoms_spec (ws := (wsG yX10_peersOf cX10_peersOf 2 (some .int))) B.pre
  have hG : ∀ w ∈ GW, w.before ([.ref h0, .int a0] : List Value).toArray s = true := fun w h => hts w (List.mem_cons_of_mem _ h)
  have hown : s.vm.findClass RX10 = some m.cls := findClass_of_methodNamed B.named
  have hlocks := B.notSynchronized
  have hl := lv_entry [.ref h0, .int a0] (n := 2) (Nat.le_of_ble_eq_true rfl)
  rw [lg_entry_eq]
  generalize (lg_sl [.ref h0, .int a0] ++ List.replicate (2 - (lg_sl [.ref h0, .int a0]).length) Slot.unset).toArray = ls at hl ⊢
  have hl : lv_has ls 2 [(0, .ref h0), (1, .int a0)] := hl
  refine lv_aload_n hx hb dX10_peersOf_0 rfl (lv_at hl 0 rfl) ?_
  refine lv_aload_n hx hb dX10_peersOf_1 rfl (lv_at hl 0 rfl) ?_
  refine lv_iload_n hx hb dX10_peersOf_2 rfl (lv_at hl 1 rfl) ?_
  obtain ⟨_, ⟨q_2, q_3, q_4, q_5, q_6, q_7, q_8, rfl, kq_2, kq_3, kq_4⟩, o_c_1⟩ := hH h0 _ k_h0
  refine vp_callSi (W.runV (As := [.int a0]) (rest := [.ref h0]) ⟨hx, hb, hml, hown, hts⟩ (c_X10_groupOf_o l g Ty G h0 a0 k_h0) (cwV 1 hts (gwV mw_657 mw_608 mw_609 mw_77 mw_610) rfl rfl rfl hv_X10_groupOf ⟨Nat.le_of_ble_eq_true rfl, Nat.le_of_ble_eq_true rfl⟩) ⟨PcH_blind, hg_recv hK o_c_1 rfl, PcH_pre hK hH⟩ rfl rfl hl.1 rfl (lv_room (Nat.le_of_ble_eq_true rfl)) dX10_peersOf_3 ⟨Nat.zero_le _, Nat.zero_le _⟩) (fun x_9 hx_9 => ?_)
  refine vp_callSi (W.runV (As := [.int x_9]) (rest := []) ⟨hx, hb, hml, hown, hts⟩ (c_X10_withGroup_o l g Ty G h0 x_9 k_h0) (cwV 1 hts (gwV mw_658 mw_659 mw_660 mw_77 mw_661) rfl rfl rfl hv_X10_withGroup ⟨Nat.le_of_ble_eq_true rfl, Nat.le_of_ble_eq_true rfl⟩) ⟨PcH_blind, hg_recv hK o_c_1 rfl, PcH_pre hK hH⟩ rfl rfl hl.1 rfl (lv_room (Nat.le_of_ble_eq_true rfl)) dX10_peersOf_6 ⟨Nat.zero_le _, Nat.zero_le _⟩) (fun x_10 hx_10 => ?_)
  refine lv_iconst (v := 1) hx hb dX10_peersOf_9 (by decide) ?_
  refine lv_iload_n hx hb dX10_peersOf_10 rfl (lv_at hl 1 rfl) ?_
  refine lv_ishl hx hb dX10_peersOf_11 ?_
  refine lv_topi (fun x_11 ex_11 => ?_)
  refine lv_ior hx hb dX10_peersOf_12 ?_
  refine lv_topi (fun x_12 ex_12 => ?_)
  exact W.iret hx hb hr (fun t ht hW => ⟨x_12, rfl, trivial, ht⟩) (fun q h => by cases h) dX10_peersOf_13

set_option maxHeartbeats 4000000 in
set_option maxRecDepth 100000 in
theorem c_X10_leastMasterOf_o (l : Launch) (g : Gx) (Ty : TyM) (G : Gh) (h0 : Nat) (a0 : Int32) (k_h0 : Ty h0 = some (20, 0)) : Met l yX10_leastMasterOf (wsG yX10_leastMasterOf cX10_leastMasterOf 2 (some .int)) ({ frames := 2, cells := 0, slots := 0, locals := 44 }) (PcH g Ty G [.ref h0, .int a0]) (vp_Si (fun r => rgI (0) (24) r)) 0 0 (fun _ => False) := by
  refine Met.ofW (cc := cX10_leastMasterOf) (maxL := 2) (ret := (some .int)) (by decide) rfl ?_
  intro p e s m args below meth c s₁ B hml hv
  obtain ⟨rfl, hK, hH⟩ := hv
  have hx := B.exec
  have hb := B.bytes
  have hr := B.returns
  have hts := atoms_spec (ws := (wsG yX10_leastMasterOf cX10_leastMasterOf 2 (some .int))) B.pre
  have hG : ∀ w ∈ GW, w.before ([.ref h0, .int a0] : List Value).toArray s = true := fun w h => hts w (List.mem_cons_of_mem _ h)
  have hown : s.vm.findClass RX10 = some m.cls := findClass_of_methodNamed B.named
  have hlocks := B.notSynchronized
  have hl := lv_entry [.ref h0, .int a0] (n := 2) (Nat.le_of_ble_eq_true rfl)
  rw [lg_entry_eq]
  generalize (lg_sl [.ref h0, .int a0] ++ List.replicate (2 - (lg_sl [.ref h0, .int a0]).length) Slot.unset).toArray = ls at hl ⊢
  have hl : lv_has ls 2 [(0, .ref h0), (1, .int a0)] := hl
  refine lv_aload_n hx hb dX10_leastMasterOf_0 rfl (lv_at hl 0 rfl) ?_
  refine lv_aload_n hx hb dX10_leastMasterOf_1 rfl (lv_at hl 0 rfl) ?_
  refine lv_aload_n hx hb dX10_leastMasterOf_2 rfl (lv_at hl 0 rfl) ?_
  refine lv_iload_n hx hb dX10_leastMasterOf_3 rfl (lv_at hl 1 rfl) ?_
  obtain ⟨_, ⟨q_2, q_3, q_4, q_5, q_6, q_7, q_8, rfl, kq_2, kq_3, kq_4⟩, o_c_1⟩ := hH h0 _ k_h0
  refine vp_callSi (W.runV (As := [.int a0]) (rest := [.ref h0, .ref h0]) ⟨hx, hb, hml, hown, hts⟩ (c_X10_masterOf_o l g Ty G h0 a0 k_h0) (cwV 1 hts (gwV mw_937 mw_612 mw_613 mw_77 mw_614) rfl rfl rfl hv_X10_masterOf ⟨Nat.le_of_ble_eq_true rfl, Nat.le_of_ble_eq_true rfl⟩) ⟨PcH_blind, hg_recv hK o_c_1 rfl, PcH_pre hK hH⟩ rfl rfl hl.1 rfl (lv_room (Nat.le_of_ble_eq_true rfl)) dX10_leastMasterOf_4 ⟨Nat.zero_le _, Nat.zero_le _⟩) (fun x_9 hx_9 => ?_)
  refine vp_callSi (W.runV (As := [.int x_9]) (rest := [.ref h0]) ⟨hx, hb, hml, hown, hts⟩ (c_X10_withGroup_o l g Ty G h0 x_9 k_h0) (cwV 1 hts (gwV mw_658 mw_659 mw_660 mw_77 mw_661) rfl rfl rfl hv_X10_withGroup ⟨Nat.le_of_ble_eq_true rfl, Nat.le_of_ble_eq_true rfl⟩) ⟨PcH_blind, hg_recv hK o_c_1 rfl, PcH_pre hK hH⟩ rfl rfl hl.1 rfl (lv_room (Nat.le_of_ble_eq_true rfl)) dX10_leastMasterOf_7 ⟨Nat.zero_le _, Nat.zero_le _⟩) (fun x_10 hx_10 => ?_)
  refine vp_callSi (W.runV (As := [.int x_10]) (rest := []) ⟨hx, hb, hml, hown, hts⟩ (c_X10_leastOf_o l g Ty G h0 x_10 k_h0) (cwV 1 hts (gwV mw_653 mw_654 mw_655 mw_77 mw_656) rfl rfl rfl hv_X10_leastOf ⟨Nat.le_of_ble_eq_true rfl, Nat.le_of_ble_eq_true rfl⟩) ⟨PcH_blind, hg_recv hK o_c_1 rfl, PcH_pre hK hH⟩ rfl rfl hl.1 rfl (lv_room (Nat.le_of_ble_eq_true rfl)) dX10_leastMasterOf_10 ⟨Nat.zero_le _, Nat.zero_le _⟩) (fun x_11 hx_11 => ?_)
  have rx_11 : rgI (0) (24) x_11 := hx_11
  exact W.iret hx hb hr (fun t ht hW => ⟨x_11, rfl, rg_w rx_11 (by decide) (by decide), ht⟩) (fun q h => by cases h) dX10_leastMasterOf_13

set_option maxHeartbeats 4000000 in
set_option maxRecDepth 100000 in
theorem c_X10_spreadOf_o (l : Launch) (g : Gx) (Ty : TyM) (G : Gh) (h0 : Nat) (a0 : Int32) (k_h0 : Ty h0 = some (20, 0)) : Met l yX10_spreadOf (wsG yX10_spreadOf cX10_spreadOf 8 (some .int)) ({ frames := 2, cells := 0, slots := 0, locals := 44 }) (PcH g Ty G [.ref h0, .int a0]) (vp_Si (fun r => True)) 0 0 (fun _ => False) := by
  refine Met.ofW (cc := cX10_spreadOf) (maxL := 8) (ret := (some .int)) (by decide) rfl ?_
  intro p e s m args below meth c s₁ B hml hv
  obtain ⟨rfl, hK, hH⟩ := hv
  have hx := B.exec
  have hb := B.bytes
  have hr := B.returns
  have hts := atoms_spec (ws := (wsG yX10_spreadOf cX10_spreadOf 8 (some .int))) B.pre
  have hG : ∀ w ∈ GW, w.before ([.ref h0, .int a0] : List Value).toArray s = true := fun w h => hts w (List.mem_cons_of_mem _ h)
  have hown : s.vm.findClass RX10 = some m.cls := findClass_of_methodNamed B.named
  have hlocks := B.notSynchronized
  have hl := lv_entry [.ref h0, .int a0] (n := 8) (Nat.le_of_ble_eq_true rfl)
  rw [lg_entry_eq]
  generalize (lg_sl [.ref h0, .int a0] ++ List.replicate (8 - (lg_sl [.ref h0, .int a0]).length) Slot.unset).toArray = ls at hl ⊢
  have hl : lv_has ls 8 [(0, .ref h0), (1, .int a0)] := hl
  have L_76 : ∀ (y2_76 : Int32) (ls : Array Slot), lv_has ls 8 [(2, .int y2_76)] → Wm p l e (wsG yX10_spreadOf cX10_spreadOf 8 (some .int)) ({ frames := 2, cells := 0, slots := 0, locals := 44 }) s m [.ref h0, .int a0] below meth c s.heap [] (0) (0) (vp_Si (fun r => True)) 0 0 (fun _ => False) (F0 m 76 ls []) := by
    intro y2_76 ls hl
    refine lv_iload_n hx hb dX10_spreadOf_76 rfl (lv_at hl 0 rfl) ?_
    exact W.iret hx hb hr (fun t ht hW => ⟨y2_76, rfl, trivial, ht⟩) (fun q h => by cases h) dX10_spreadOf_77
  have L_9 : ∀ (n : Nat) (y2_9 : Int32) (y3_9 : Int32) (y4_9 : Int32) (ls : Array Slot), rgI (0) (24) y4_9 → (24 - (y4_9).toInt).toNat < n → lv_has ls 8 [(0, .ref h0), (2, .int y2_9), (3, .int y3_9), (4, .int y4_9)] → Wm p l e (wsG yX10_spreadOf cX10_spreadOf 8 (some .int)) ({ frames := 2, cells := 0, slots := 0, locals := 44 }) s m [.ref h0, .int a0] below meth c s.heap [] (0) (0) (vp_Si (fun r => True)) 0 0 (fun _ => False) (F0 m 9 ls []) := by
    intro n
    induction n with
    | zero => intro y2_9 y3_9 y4_9 ls ry4_9 hm; exact absurd hm (Nat.not_lt_zero _)
    | succ n ih_9 =>
      intro y2_9 y3_9 y4_9 ls ry4_9 hm_9 hl
      refine lv_iload hx hb dX10_spreadOf_9 (lv_at hl 3 rfl) ?_
      refine lv_bipush (v := 24) hx hb dX10_spreadOf_11 (by decide) ?_
      refine lv_icmp_ge (tgt := 76) hx hb dX10_spreadOf_13 (by decide) (fun c_1 => ?_) (fun c_1 => ?_)
      · have r_2 : rgI (24) (24) y4_9 := rg_w (rg_leR rl_24 ry4_9 c_1) (by decide) (by decide)
        exact L_76 y2_9 ls (lv_sub hl [1] rfl)
      · have r_3 : rgI (0) (23) y4_9 := rg_w (rg_ltL ry4_9 rl_24 (nle_lt c_1)) (by decide) (by decide)
        refine lv_iload_n hx hb dX10_spreadOf_16 rfl (lv_at hl 2 rfl) ?_
        refine lv_iload_n hx hb dX10_spreadOf_17 rfl (lv_at hl 1 rfl) ?_
        refine lv_icmp_eq (tgt := 76) hx hb dX10_spreadOf_18 (by decide) (fun c_4 => ?_) (fun c_4 => ?_)
        · exact L_76 y2_9 ls (lv_sub hl [1] rfl)
        · refine lv_aload_n hx hb dX10_spreadOf_21 rfl (lv_at hl 0 rfl) ?_
          refine lv_iload_n hx hb dX10_spreadOf_22 rfl (lv_at hl 1 rfl) ?_
          refine lv_iload_n hx hb dX10_spreadOf_23 rfl (lv_at hl 2 rfl) ?_
          refine lv_iconst (v := (-1)) hx hb dX10_spreadOf_24 (by decide) ?_
          refine lv_ixor hx hb dX10_spreadOf_25 ?_
          refine lv_topi (fun x_5 ex_5 => ?_)
          refine lv_iand hx hb dX10_spreadOf_26 ?_
          refine lv_topi (fun x_6 ex_6 => ?_)
          obtain ⟨_, ⟨q_8, q_9, q_10, q_11, q_12, q_13, q_14, rfl, kq_8, kq_9, kq_10⟩, o_c_7⟩ := hH h0 _ k_h0
          refine vp_callSi (W.runV (As := [.int x_6]) (rest := []) ⟨hx, hb, hml, hown, hts⟩ (c_X10_leastOf_o l g Ty G h0 x_6 k_h0) (cwV 1 hts (gwV mw_653 mw_654 mw_655 mw_77 mw_656) rfl rfl rfl hv_X10_leastOf ⟨Nat.le_of_ble_eq_true rfl, Nat.le_of_ble_eq_true rfl⟩) ⟨PcH_blind, hg_recv hK o_c_7 rfl, PcH_pre hK hH⟩ rfl rfl hl.1 rfl (lv_room (Nat.le_of_ble_eq_true rfl)) dX10_spreadOf_27 ⟨Nat.zero_le _, Nat.zero_le _⟩) (fun x_15 hx_15 => ?_)
          have rx_15 : rgI (0) (24) x_15 := hx_15
          refine lv_istore (lv' := [(5, .int x_15), (0, .ref h0), (2, .int y2_9), (3, .int y3_9), (4, .int y4_9)]) hx hb dX10_spreadOf_30 hl (by decide) rfl (fun ls hl => ?_)
          refine lv_aload_n hx hb dX10_spreadOf_32 rfl (lv_at hl 1 rfl) ?_
          refine lv_iload hx hb dX10_spreadOf_33 (lv_at hl 0 rfl) ?_
          refine vp_callSi (W.runV (As := [.int x_15]) (rest := []) ⟨hx, hb, hml, hown, hts⟩ (c_X10_groupOf_o l g Ty G h0 x_15 k_h0) (cwV 1 hts (gwV mw_657 mw_608 mw_609 mw_77 mw_610) rfl rfl rfl hv_X10_groupOf ⟨Nat.le_of_ble_eq_true rfl, Nat.le_of_ble_eq_true rfl⟩) ⟨PcH_blind, hg_recv hK o_c_7 rfl, PcH_pre hK hH⟩ rfl rfl hl.1 rfl (lv_room (Nat.le_of_ble_eq_true rfl)) dX10_spreadOf_35 ⟨Nat.zero_le _, Nat.zero_le _⟩) (fun x_16 hx_16 => ?_)
          refine lv_istore (lv' := [(6, .int x_16), (5, .int x_15), (0, .ref h0), (2, .int y2_9), (3, .int y3_9), (4, .int y4_9)]) hx hb dX10_spreadOf_38 hl (by decide) rfl (fun ls hl => ?_)
          refine lv_aload_n hx hb dX10_spreadOf_40 rfl (lv_at hl 2 rfl) ?_
          refine lv_iload hx hb dX10_spreadOf_41 (lv_at hl 0 rfl) ?_
          refine vp_callSi (W.runV (As := [.int x_16]) (rest := []) ⟨hx, hb, hml, hown, hts⟩ (c_X10_withGroup_o l g Ty G h0 x_16 k_h0) (cwV 1 hts (gwV mw_658 mw_659 mw_660 mw_77 mw_661) rfl rfl rfl hv_X10_withGroup ⟨Nat.le_of_ble_eq_true rfl, Nat.le_of_ble_eq_true rfl⟩) ⟨PcH_blind, hg_recv hK o_c_7 rfl, PcH_pre hK hH⟩ rfl rfl hl.1 rfl (lv_room (Nat.le_of_ble_eq_true rfl)) dX10_spreadOf_43 ⟨Nat.zero_le _, Nat.zero_le _⟩) (fun x_17 hx_17 => ?_)
          refine lv_iconst (v := 1) hx hb dX10_spreadOf_46 (by decide) ?_
          refine lv_iload hx hb dX10_spreadOf_47 (lv_at hl 1 rfl) ?_
          refine lv_ishl hx hb dX10_spreadOf_49 ?_
          refine lv_topi (fun x_18 ex_18 => ?_)
          refine lv_ior hx hb dX10_spreadOf_50 ?_
          refine lv_topi (fun x_19 ex_19 => ?_)
          refine lv_istore (lv' := [(7, .int x_19), (6, .int x_16), (5, .int x_15), (0, .ref h0), (2, .int y2_9), (3, .int y3_9), (4, .int y4_9)]) hx hb dX10_spreadOf_51 hl (by decide) rfl (fun ls hl => ?_)
          refine lv_iload_n hx hb dX10_spreadOf_53 rfl (lv_at hl 5 rfl) ?_
          refine lv_iload hx hb dX10_spreadOf_54 (lv_at hl 0 rfl) ?_
          refine lv_ior hx hb dX10_spreadOf_56 ?_
          refine lv_topi (fun x_20 ex_20 => ?_)
          refine lv_istore_n (lv' := [(3, .int x_20), (7, .int x_19), (6, .int x_16), (5, .int x_15), (0, .ref h0), (2, .int y2_9), (4, .int y4_9)]) hx hb dX10_spreadOf_57 rfl hl (by decide) rfl (fun ls hl => ?_)
          refine lv_iload_n hx hb dX10_spreadOf_58 rfl (lv_at hl 5 rfl) ?_
          refine lv_iload hx hb dX10_spreadOf_59 (lv_at hl 1 rfl) ?_
          refine lv_aload_n hx hb dX10_spreadOf_61 rfl (lv_at hl 4 rfl) ?_
          refine lv_iload hx hb dX10_spreadOf_62 (lv_at hl 2 rfl) ?_
          refine vp_callSi (W.runV (As := [.int x_16]) (rest := [.int x_19, .int y2_9]) ⟨hx, hb, hml, hown, hts⟩ (c_X10_withMaster_o l g Ty G h0 x_16 k_h0) (cwV 1 hts (gwV mw_665 mw_666 mw_667 mw_77 mw_668) rfl rfl rfl hv_X10_withMaster ⟨Nat.le_of_ble_eq_true rfl, Nat.le_of_ble_eq_true rfl⟩) ⟨PcH_blind, hg_recv hK o_c_7 rfl, PcH_pre hK hH⟩ rfl rfl hl.1 rfl (lv_room (Nat.le_of_ble_eq_true rfl)) dX10_spreadOf_64 ⟨Nat.zero_le _, Nat.zero_le _⟩) (fun x_21 hx_21 => ?_)
          refine lv_ior hx hb dX10_spreadOf_67 ?_
          refine lv_topi (fun x_22 ex_22 => ?_)
          refine lv_ior hx hb dX10_spreadOf_68 ?_
          refine lv_topi (fun x_23 ex_23 => ?_)
          refine lv_istore_n (lv' := [(2, .int x_23), (3, .int x_20), (7, .int x_19), (6, .int x_16), (5, .int x_15), (0, .ref h0), (4, .int y4_9)]) hx hb dX10_spreadOf_69 rfl hl (by decide) rfl (fun ls hl => ?_)
          obtain ⟨x_24, ex_24⟩ : ∃ y : Int32, y = y4_9 + 1 := ⟨_, rfl⟩
          have rx_24 : rgI (1) (24) x_24 := by rw [ex_24]; exact rg_w (rg_add r_3 rl_1 (by decide) (by decide)) (by decide) (by decide)
          have qx_24 : x_24.toInt = (y4_9 : Int32).toInt + 1 := by rw [ex_24]; exact rg_addE r_3 rl_1 (by decide) (by decide)
          refine lv_iinc (v := x_24) (lv' := [(4, .int x_24), (2, .int x_23), (3, .int x_20), (7, .int x_19), (6, .int x_16), (5, .int x_15), (0, .ref h0)]) hx hb dX10_spreadOf_70 hl (k := 6) rfl (by rw [ex_24]; rfl) (by decide) rfl (fun ls hl => ?_)
          refine lv_goto (tgt := 9) hx hb dX10_spreadOf_73 (by decide) ?_
          exact ih_9 x_23 x_20 x_24 ls (rg_w rx_24 (by decide) (by decide)) (by have h1 := qx_24; have h2 := r_3.1; have h3 := r_3.2; have h4 := hm_9; omega) (lv_sub hl [6, 1, 2, 0] rfl)
  refine lv_iconst (v := 1) hx hb dX10_spreadOf_0 (by decide) ?_
  refine lv_iload_n hx hb dX10_spreadOf_1 rfl (lv_at hl 1 rfl) ?_
  refine lv_ishl hx hb dX10_spreadOf_2 ?_
  refine lv_topi (fun x_25 ex_25 => ?_)
  refine lv_istore_n (lv' := [(2, .int x_25), (0, .ref h0), (1, .int a0)]) hx hb dX10_spreadOf_3 rfl hl (by decide) rfl (fun ls hl => ?_)
  refine lv_iconst (v := 0) hx hb dX10_spreadOf_4 (by decide) ?_
  refine lv_istore_n (lv' := [(3, .int 0), (2, .int x_25), (0, .ref h0), (1, .int a0)]) hx hb dX10_spreadOf_5 rfl hl (by decide) rfl (fun ls hl => ?_)
  refine lv_iconst (v := 0) hx hb dX10_spreadOf_6 (by decide) ?_
  refine lv_istore (lv' := [(4, .int 0), (3, .int 0), (2, .int x_25), (0, .ref h0), (1, .int a0)]) hx hb dX10_spreadOf_7 hl (by decide) rfl (fun ls hl => ?_)
  exact L_9 _ x_25 0 0 ls (rg_w rl_0 (by decide) (by decide)) (Nat.lt_succ_self _) (lv_sub hl [3, 2, 1, 0] rfl)

set_option maxHeartbeats 4000000 in
set_option maxRecDepth 100000 in
theorem c_X10_size_o (l : Launch) (g : Gx) (Ty : TyM) (G : Gh) (h0 : Nat) (k_h0 : Ty h0 = some (20, 0)) : Met l yX10_size (wsG yX10_size cX10_size 1 (some .int)) ({ frames := 1, cells := 0, slots := 0, locals := 20 }) (PcH g Ty G [.ref h0]) (vp_Si (fun r => True)) 0 0 (fun _ => False) := by
  refine Met.ofW (cc := cX10_size) (maxL := 1) (ret := (some .int)) (by decide) rfl ?_
  intro p e s m args below meth c s₁ B hml hv
  obtain ⟨rfl, hK, hH⟩ := hv
  have hx := B.exec
  have hb := B.bytes
  have hr := B.returns
  have hts := atoms_spec (ws := (wsG yX10_size cX10_size 1 (some .int))) B.pre
  have hG : ∀ w ∈ GW, w.before ([.ref h0] : List Value).toArray s = true := fun w h => hts w (List.mem_cons_of_mem _ h)
  have hown : s.vm.findClass RX10 = some m.cls := findClass_of_methodNamed B.named
  have hlocks := B.notSynchronized
  have hl := lv_entry [.ref h0] (n := 1) (Nat.le_of_ble_eq_true rfl)
  rw [lg_entry_eq]
  generalize (lg_sl [.ref h0] ++ List.replicate (1 - (lg_sl [.ref h0]).length) Slot.unset).toArray = ls at hl ⊢
  have hl : lv_has ls 1 [(0, .ref h0)] := hl
  refine lv_aload_n hx hb dX10_size_0 rfl (lv_at hl 0 rfl) ?_
  obtain ⟨_, ⟨q_2, q_3, q_4, q_5, q_6, q_7, q_8, rfl, kq_2, kq_3, kq_4⟩, o_c_1⟩ := hH h0 _ k_h0
  refine hg_get hx hb hG igX10 hown hK o_c_1 rfl 3 (by decide) (hG _ mw_118) rfl dX10_size_1 ?_
  refine vp_callSi (W.runS (As := [.int q_5]) (rest := []) ⟨hx, hb, hml, hown, hts⟩ (c_J6_bitCount_0f7a4 l g Ty G q_5 ) (cwSx 1 hts hG (gwC mw_620) mw_99 mw_712 mw_619 rfl rfl rfl hd_J6_bitCount_0f7a4 ⟨Nat.le_of_ble_eq_true rfl, Nat.le_of_ble_eq_true rfl⟩) ⟨PcH_blind, PcH_pre hK hH⟩ rfl rfl hl.1 rfl (lv_room (Nat.le_of_ble_eq_true rfl)) dX10_size_4 ⟨Nat.zero_le _, Nat.zero_le _⟩) (fun x_9 hx_9 => ?_)
  exact W.iret hx hb hr (fun t ht hW => ⟨x_9, rfl, trivial, ht⟩) (fun q h => by cases h) dX10_size_7
