set_option maxHeartbeats 4000000 in
set_option maxRecDepth 100000 in
theorem c_X4_pop (l : Launch) (g : Gx) (Ty : TyM) (G : Gh) (sz : Nat) (h0 : Nat) (b0 : Nat) (k_h0 : Ty h0 = some (14, 0)) (k_b0 : Ty b0 = some (20, 0)) : Met l yX4_pop (wsG yX4_pop cX4_pop 3 (some .boolean)) ({ frames := 1, cells := 0, slots := 0, locals := 22 }) (PcT g Ty G sz [.ref h0, .ref b0]) (QwI g Ty sz (fun r u => (rgI (0) (1) r) ∧ u = (Ty, G))) 0 0 (AF Ty sz) := by
  refine Met.ofW (cc := cX4_pop) (maxL := 3) (ret := (some .boolean)) (by decide) rfl ?_
  intro p e s m args below meth c s₁ B hml hv
  obtain ⟨rfl, hsz, hK, hH⟩ := hv
  subst hsz
  have hx := B.exec
  have hb := B.bytes
  have hr := B.returns
  have hts := atoms_spec (ws := (wsG yX4_pop cX4_pop 3 (some .boolean))) B.pre
  have hG : ∀ w ∈ GW, w.before ([.ref h0, .ref b0] : List Value).toArray s = true := fun w h => hts w (List.mem_cons_of_mem _ h)
  have hown : s.vm.findClass RX4 = some m.cls := findClass_of_methodNamed B.named
  have hlocks := B.notSynchronized
  have hl := lv_entry [.ref h0, .ref b0] (n := 3) (Nat.le_of_ble_eq_true rfl)
  rw [lg_entry_eq]
  generalize (lg_sl [.ref h0, .ref b0] ++ List.replicate (3 - (lg_sl [.ref h0, .ref b0]).length) Slot.unset).toArray = ls at hl ⊢
  have hl : lv_has ls 3 [(0, .ref h0), (1, .ref b0)] := hl
  have hS : va_S (AF Ty s.heap.size) s.heap s.heap [] := va_S.rf
  have L_25 : ∀ (H : Heap) (locs : List Loc) (ls : Array Slot), lv_has ls 3 [(0, .ref h0), (1, .ref b0)] → HT g Ty G H → va_S (AF Ty s.heap.size) s.heap H locs → Wm p l e (wsG yX4_pop cX4_pop 3 (some .boolean)) ({ frames := 1, cells := 0, slots := 0, locals := 22 }) s m [.ref h0, .ref b0] below meth c H locs (0) (0) (QwI g Ty s.heap.size (fun r u => (rgI (0) (1) r) ∧ u = (Ty, G))) 0 0 (AF Ty s.heap.size) (F0 m 25 ls []) := by
    intro H locs ls hl hH hS
    refine lv_bipush (v := 11) hx hb dX4_pop_25 (by decide) ?_
    refine lv_istore_n (lv' := [(2, .int 11), (0, .ref h0), (1, .ref b0)]) hx hb dX4_pop_27 rfl hl (by decide) rfl (fun ls hl => ?_)
    refine lv_aload_n hx hb dX4_pop_28 rfl (lv_at hl 1 rfl) ?_
    obtain ⟨_, ⟨q_2, q_3, q_4, rfl, kq_2⟩, o_c_1⟩ := hH h0 _ k_h0
    refine hg_get hx hb hG igX4 hown hK o_c_1 rfl 2 (by decide) (hG _ mw_156) rfl dX4_pop_29 ?_
    refine lv_if_eq (tgt := 44) hx hb dX4_pop_32 (by decide) (fun c_5 => ?_) (fun c_5 => ?_)
    · have r_6 : rgI (0) (0) q_4 := rg_w (rg_eq rl_0 c_5) (by decide) (by decide)
      refine lv_iconst (v := 0) hx hb dX4_pop_44 (by decide) ?_
      exact W.zret hx hb hr rfl (fun t ht hWm => ⟨⟨0, (Ty, G), rfl, ⟨rg_w rl_0 (by decide) (by decide), rfl⟩, by show HT g Ty G t.heap; rw [ht]; exact hH⟩, hS.F ht⟩) hS.2.2 dX4_pop_45
    · refine lv_aload_n hx hb dX4_pop_35 rfl (lv_at hl 1 rfl) ?_
      refine hg_get hx hb hG igX4 hown hK o_c_1 rfl 0 (by decide) (hG _ mw_154) rfl dX4_pop_36 ?_
      refine lv_iload_n hx hb dX4_pop_39 rfl (lv_at hl 0 rfl) ?_
      obtain ⟨_, ⟨f_8, rfl, qf_8⟩, o_c_7⟩ := hH q_2 _ kq_2
      refine hg_aald hx hb hK o_c_7 (rg_in (n := 12) rl_11 (by decide) (by decide)) dX4_pop_40 ?_
      obtain ⟨w_9, ew_9⟩ : ∃ z, z = f_8 (11 : Int32).toNatClampNeg := ⟨_, rfl⟩
      rw [← ew_9]
      rcases w_9 with _ | y_11
      · refine lv_ifnonnullN hx hb dX4_pop_41 ?_
        refine lv_iconst (v := 0) hx hb dX4_pop_44 (by decide) ?_
        exact W.zret hx hb hr rfl (fun t ht hWm => ⟨⟨0, (Ty, G), rfl, ⟨rg_w rl_0 (by decide) (by decide), rfl⟩, by show HT g Ty G t.heap; rw [ht]; exact hH⟩, hS.F ht⟩) hS.2.2 dX4_pop_45
      · refine lv_ifnonnull (tgt := 46) hx hb dX4_pop_41 (by decide) ?_
        refine lv_aload_n hx hb dX4_pop_46 rfl (lv_at hl 2 rfl) ?_
        refine lv_aload_n hx hb dX4_pop_47 rfl (lv_at hl 1 rfl) ?_
        refine hg_get hx hb hG igX4 hown hK o_c_1 rfl 0 (by decide) (hG _ mw_154) rfl dX4_pop_48 ?_
        refine lv_iload_n hx hb dX4_pop_51 rfl (lv_at hl 0 rfl) ?_
        refine hg_aald hx hb hK o_c_7 (rg_in (n := 12) rl_11 (by decide) (by decide)) dX4_pop_52 ?_
        rw [show va_rf (f_8 (11 : Int32).toNatClampNeg) = Value.ref y_11 by rw [ew_9.symm]; rfl]
        obtain ⟨_, ⟨q_13, q_14, q_15, q_16, q_17, q_18, q_19, rfl, kq_13, kq_14, kq_15⟩, o_c_12⟩ := hH b0 _ k_b0
        refine va_callv (va_runV (As := [.ref y_11]) (rest := []) ⟨hx, hb, hml, hown, hts⟩ (c_X10_take l g Ty G H.size b0 y_11 k_b0 (qf_8 _ _ ew_9.symm)) (cwV 1 hts (gwV mw_751 mw_629 mw_630 mw_77 mw_631) rfl rfl rfl hv_X10_take ⟨Nat.le_of_ble_eq_true rfl, Nat.le_of_ble_eq_true rfl⟩) ⟨PcT_blind, hg_recv hK o_c_12 rfl, PcT_pre hK hH⟩ rfl rfl hl.1 rfl (lv_room (Nat.le_of_ble_eq_true rfl)) dX4_pop_53 ⟨Nat.zero_le _, Nat.zero_le _⟩) hS (fun q _ h => AF.mono hS.1 h) (fun q h => AF.mono hS.1 h) (fun ux_20 t H locs ht hvm hx_20 hB hz hk hS => ?_)
        have hH : HT g Ty G H := by rw [← ht]; rw [hx_20] at hB; exact hB
        refine lv_aload_n hx hb dX4_pop_56 rfl (lv_at hl 1 rfl) ?_
        refine lv_iload_n hx hb dX4_pop_57 rfl (lv_at hl 0 rfl) ?_
        obtain ⟨_, ⟨q_22, q_23, q_24, rfl, kq_22⟩, o_c_21⟩ := hH h0 _ k_h0
        refine hg_put (ty := .int) hx hb hG igX4 tyX4 tyX4_ok nmX4 hown hK hS o_c_21 (AF.of k_h0) rfl 1 (by decide) (hG _ mw_155) rfl (by decide +kernel) rfl rfl (Nat.le_of_ble_eq_true rfl) dX4_pop_58 (fun H locs o_c_21 hz oq hS => ?_)
        have o_c_21 : va_at g.1 vwCl (h0, .inr (4, [.ref q_22, .int 11, .int q_24])) H := o_c_21
        have hH : HT g Ty G H := hH.put k_h0 ⟨q_22, 11, q_24, rfl, kq_22⟩ o_c_21 oq
        clear oq hz
        refine lv_aload_n hx hb dX4_pop_61 rfl (lv_at hl 1 rfl) ?_
        refine lv_dup hx hb dX4_pop_62 rfl ?_
        refine hg_get hx hb hG igX4 hown hK o_c_21 rfl 2 (by decide) (hG _ mw_156) rfl dX4_pop_63 ?_
        refine lv_iconst (v := 1) hx hb dX4_pop_66 (by decide) ?_
        refine lv_isub hx hb dX4_pop_67 ?_
        refine lv_topi (fun x_25 ex_25 => ?_)
        refine hg_put (ty := .int) hx hb hG igX4 tyX4 tyX4_ok nmX4 hown hK hS o_c_21 (AF.of k_h0) rfl 2 (by decide) (hG _ mw_156) rfl (by decide +kernel) rfl rfl (Nat.le_of_ble_eq_true rfl) dX4_pop_68 (fun H locs o_c_21 hz oq hS => ?_)
        have o_c_21 : va_at g.1 vwCl (h0, .inr (4, [.ref q_22, .int 11, .int x_25])) H := o_c_21
        have hH : HT g Ty G H := hH.put k_h0 ⟨q_22, 11, x_25, rfl, kq_22⟩ o_c_21 oq
        clear oq hz
        refine lv_iconst (v := 1) hx hb dX4_pop_71 (by decide) ?_
        exact W.zret hx hb hr rfl (fun t ht hWm => ⟨⟨1, (Ty, G), rfl, ⟨rg_w rl_1 (by decide) (by decide), rfl⟩, by show HT g Ty G t.heap; rw [ht]; exact hH⟩, hS.F ht⟩) hS.2.2 dX4_pop_72
  refine lv_aload_n hx hb dX4_pop_0 rfl (lv_at hl 0 rfl) ?_
  obtain ⟨_, ⟨q_27, q_28, q_29, rfl, kq_27⟩, o_c_26⟩ := hH h0 _ k_h0
  refine hg_get hx hb hG igX4 hown hK o_c_26 rfl 1 (by decide) (hG _ mw_155) rfl dX4_pop_1 ?_
  refine lv_if_le (tgt := 25) hx hb dX4_pop_4 (by decide) (fun c_30 => ?_) (fun c_30 => ?_)
  · have r_31 : rgI (-2147483648) (0) q_28 := rg_w (rg_leL (rg_top q_28) rl_0 c_30) (by decide) (by decide)
    exact L_25 s.heap [] ls (lv_sub hl [0, 1] rfl) hH hS
  · have r_32 : rgI (1) (2147483647) q_28 := rg_w (rg_ltR rl_0 (rg_top q_28) (nle_lt c_30)) (by decide) (by decide)
    refine lv_aload_n hx hb dX4_pop_7 rfl (lv_at hl 0 rfl) ?_
    refine hg_get hx hb hG igX4 hown hK o_c_26 rfl 1 (by decide) (hG _ mw_155) rfl dX4_pop_8 ?_
    refine lv_bipush (v := 12) hx hb dX4_pop_11 (by decide) ?_
    refine lv_icmp_gt (tgt := 25) hx hb dX4_pop_13 (by decide) (fun c_33 => ?_) (fun c_33 => ?_)
    · have r_34 : rgI (13) (2147483647) q_28 := rg_w (rg_ltR rl_12 r_32 c_33) (by decide) (by decide)
      exact L_25 s.heap [] ls (lv_sub hl [0, 1] rfl) hH hS
    · have r_35 : rgI (1) (12) q_28 := rg_w (rg_leL r_32 rl_12 (nlt_le c_33)) (by decide) (by decide)
      refine lv_aload_n hx hb dX4_pop_16 rfl (lv_at hl 0 rfl) ?_
      refine hg_get hx hb hG igX4 hown hK o_c_26 rfl 1 (by decide) (hG _ mw_155) rfl dX4_pop_17 ?_
      refine lv_iconst (v := 1) hx hb dX4_pop_20 (by decide) ?_
      refine lv_isub hx hb dX4_pop_21 ?_
      refine lv_topi (fun x_36 ex_36 => ?_)
      have rx_36 : rgI (0) (11) x_36 := by rw [ex_36]; exact rg_w (rg_sub r_35 rl_1 (by decide) (by decide)) (by decide) (by decide)
      refine lv_goto (tgt := 27) hx hb dX4_pop_22 (by decide) ?_
      refine lv_istore_n (lv' := [(2, .int x_36), (0, .ref h0), (1, .ref b0)]) hx hb dX4_pop_27 rfl hl (by decide) rfl (fun ls hl => ?_)
      refine lv_aload_n hx hb dX4_pop_28 rfl (lv_at hl 1 rfl) ?_
      refine hg_get hx hb hG igX4 hown hK o_c_26 rfl 2 (by decide) (hG _ mw_156) rfl dX4_pop_29 ?_
      refine lv_if_eq (tgt := 44) hx hb dX4_pop_32 (by decide) (fun c_37 => ?_) (fun c_37 => ?_)
      · have r_38 : rgI (0) (0) q_29 := rg_w (rg_eq rl_0 c_37) (by decide) (by decide)
        refine lv_iconst (v := 0) hx hb dX4_pop_44 (by decide) ?_
        exact W.zret hx hb hr rfl (fun t ht hWm => ⟨⟨0, (Ty, G), rfl, ⟨rg_w rl_0 (by decide) (by decide), rfl⟩, by show HT g Ty G t.heap; rw [ht]; exact hH⟩, hS.F ht⟩) hS.2.2 dX4_pop_45
      · refine lv_aload_n hx hb dX4_pop_35 rfl (lv_at hl 1 rfl) ?_
        refine hg_get hx hb hG igX4 hown hK o_c_26 rfl 0 (by decide) (hG _ mw_154) rfl dX4_pop_36 ?_
        refine lv_iload_n hx hb dX4_pop_39 rfl (lv_at hl 0 rfl) ?_
        obtain ⟨_, ⟨f_40, rfl, qf_40⟩, o_c_39⟩ := hH q_27 _ kq_27
        refine hg_aald hx hb hK o_c_39 (rg_in (n := 12) rx_36 (by decide) (by decide)) dX4_pop_40 ?_
        obtain ⟨w_41, ew_41⟩ : ∃ z, z = f_40 (x_36 : Int32).toNatClampNeg := ⟨_, rfl⟩
        rw [← ew_41]
        rcases w_41 with _ | y_43
        · refine lv_ifnonnullN hx hb dX4_pop_41 ?_
          refine lv_iconst (v := 0) hx hb dX4_pop_44 (by decide) ?_
          exact W.zret hx hb hr rfl (fun t ht hWm => ⟨⟨0, (Ty, G), rfl, ⟨rg_w rl_0 (by decide) (by decide), rfl⟩, by show HT g Ty G t.heap; rw [ht]; exact hH⟩, hS.F ht⟩) hS.2.2 dX4_pop_45
        · refine lv_ifnonnull (tgt := 46) hx hb dX4_pop_41 (by decide) ?_
          refine lv_aload_n hx hb dX4_pop_46 rfl (lv_at hl 2 rfl) ?_
          refine lv_aload_n hx hb dX4_pop_47 rfl (lv_at hl 1 rfl) ?_
          refine hg_get hx hb hG igX4 hown hK o_c_26 rfl 0 (by decide) (hG _ mw_154) rfl dX4_pop_48 ?_
          refine lv_iload_n hx hb dX4_pop_51 rfl (lv_at hl 0 rfl) ?_
          refine hg_aald hx hb hK o_c_39 (rg_in (n := 12) rx_36 (by decide) (by decide)) dX4_pop_52 ?_
          rw [show va_rf (f_40 (x_36 : Int32).toNatClampNeg) = Value.ref y_43 by rw [ew_41.symm]; rfl]
          obtain ⟨_, ⟨q_45, q_46, q_47, q_48, q_49, q_50, q_51, rfl, kq_45, kq_46, kq_47⟩, o_c_44⟩ := hH b0 _ k_b0
          refine va_callv (va_runV (As := [.ref y_43]) (rest := []) ⟨hx, hb, hml, hown, hts⟩ (c_X10_take l g Ty G s.heap.size b0 y_43 k_b0 (qf_40 _ _ ew_41.symm)) (cwV 1 hts (gwV mw_751 mw_629 mw_630 mw_77 mw_631) rfl rfl rfl hv_X10_take ⟨Nat.le_of_ble_eq_true rfl, Nat.le_of_ble_eq_true rfl⟩) ⟨PcT_blind, hg_recv hK o_c_44 rfl, PcT_pre hK hH⟩ rfl rfl hl.1 rfl (lv_room (Nat.le_of_ble_eq_true rfl)) dX4_pop_53 ⟨Nat.zero_le _, Nat.zero_le _⟩) hS (fun q _ h => AF.mono hS.1 h) (fun q h => AF.mono hS.1 h) (fun ux_52 t H locs ht hvm hx_52 hB hz hk hS => ?_)
          have hH : HT g Ty G H := by rw [← ht]; rw [hx_52] at hB; exact hB
          refine lv_aload_n hx hb dX4_pop_56 rfl (lv_at hl 1 rfl) ?_
          refine lv_iload_n hx hb dX4_pop_57 rfl (lv_at hl 0 rfl) ?_
          obtain ⟨_, ⟨q_54, q_55, q_56, rfl, kq_54⟩, o_c_53⟩ := hH h0 _ k_h0
          refine hg_put (ty := .int) hx hb hG igX4 tyX4 tyX4_ok nmX4 hown hK hS o_c_53 (AF.of k_h0) rfl 1 (by decide) (hG _ mw_155) rfl (by decide +kernel) rfl rfl (Nat.le_of_ble_eq_true rfl) dX4_pop_58 (fun H locs o_c_53 hz oq hS => ?_)
          have o_c_53 : va_at g.1 vwCl (h0, .inr (4, [.ref q_54, .int x_36, .int q_56])) H := o_c_53
          have hH : HT g Ty G H := hH.put k_h0 ⟨q_54, x_36, q_56, rfl, kq_54⟩ o_c_53 oq
          clear oq hz
          refine lv_aload_n hx hb dX4_pop_61 rfl (lv_at hl 1 rfl) ?_
          refine lv_dup hx hb dX4_pop_62 rfl ?_
          refine hg_get hx hb hG igX4 hown hK o_c_53 rfl 2 (by decide) (hG _ mw_156) rfl dX4_pop_63 ?_
          refine lv_iconst (v := 1) hx hb dX4_pop_66 (by decide) ?_
          refine lv_isub hx hb dX4_pop_67 ?_
          refine lv_topi (fun x_57 ex_57 => ?_)
          refine hg_put (ty := .int) hx hb hG igX4 tyX4 tyX4_ok nmX4 hown hK hS o_c_53 (AF.of k_h0) rfl 2 (by decide) (hG _ mw_156) rfl (by decide +kernel) rfl rfl (Nat.le_of_ble_eq_true rfl) dX4_pop_68 (fun H locs o_c_53 hz oq hS => ?_)
          have o_c_53 : va_at g.1 vwCl (h0, .inr (4, [.ref q_54, .int x_36, .int x_57])) H := o_c_53
          have hH : HT g Ty G H := hH.put k_h0 ⟨q_54, x_36, x_57, rfl, kq_54⟩ o_c_53 oq
          clear oq hz
          refine lv_iconst (v := 1) hx hb dX4_pop_71 (by decide) ?_
          exact W.zret hx hb hr rfl (fun t ht hWm => ⟨⟨1, (Ty, G), rfl, ⟨rg_w rl_1 (by decide) (by decide), rfl⟩, by show HT g Ty G t.heap; rw [ht]; exact hH⟩, hS.F ht⟩) hS.2.2 dX4_pop_72

set_option maxHeartbeats 4000000 in
set_option maxRecDepth 100000 in
theorem c_X11_undo (l : Launch) (g : Gx) (Ty : TyM) (G : Gh) (sz : Nat) (h0 : Nat) (k_h0 : Ty h0 = some (21, 0)) : Met l yX11_undo (wsG yX11_undo cX11_undo 1 (some .int)) ({ frames := 2, cells := 0, slots := 0, locals := 44 }) (PcT g Ty G sz [.ref h0]) (QwI g Ty sz (fun r u => u = (Ty, G))) 0 0 (AF Ty sz) := by
  refine Met.ofW (cc := cX11_undo) (maxL := 1) (ret := (some .int)) (by decide) rfl ?_
  intro p e s m args below meth c s₁ B hml hv
  obtain ⟨rfl, hsz, hK, hH⟩ := hv
  subst hsz
  have hx := B.exec
  have hb := B.bytes
  have hr := B.returns
  have hts := atoms_spec (ws := (wsG yX11_undo cX11_undo 1 (some .int))) B.pre
  have hG : ∀ w ∈ GW, w.before ([.ref h0] : List Value).toArray s = true := fun w h => hts w (List.mem_cons_of_mem _ h)
  have hown : s.vm.findClass RX11 = some m.cls := findClass_of_methodNamed B.named
  have hlocks := B.notSynchronized
  have hl := lv_entry [.ref h0] (n := 1) (Nat.le_of_ble_eq_true rfl)
  rw [lg_entry_eq]
  generalize (lg_sl [.ref h0] ++ List.replicate (1 - (lg_sl [.ref h0]).length) Slot.unset).toArray = ls at hl ⊢
  have hl : lv_has ls 1 [(0, .ref h0)] := hl
  have hS : va_S (AF Ty s.heap.size) s.heap s.heap [] := va_S.rf
  refine lv_aload_n hx hb dX11_undo_0 rfl (lv_at hl 0 rfl) ?_
  obtain ⟨_, ⟨q_16, rfl, kq_2, kq_3, kq_4, kq_5, kq_6, kq_7, kq_8, kq_9, kq_10, kq_11, kq_12, kq_13, kq_14, kq_15⟩, o_c_1⟩ := hH h0 _ k_h0
  refine hg_get hx hb hG igX11 hown hK o_c_1 rfl 2 (by decide) (hG _ mw_359) rfl dX11_undo_1 ?_
  refine lv_aload_n hx hb dX11_undo_4 rfl (lv_at hl 0 rfl) ?_
  refine hg_get hx hb hG igX11 hown hK o_c_1 rfl 0 (by decide) (hG _ mw_357) rfl dX11_undo_5 ?_
  obtain ⟨_, ⟨q_18, q_19, q_20, rfl, kq_18⟩, o_c_17⟩ := hH (g.2.2 2) _ kq_4
  refine va_calli (va_runV (As := [.ref (g.2.2 0)]) (rest := []) ⟨hx, hb, hml, hown, hts⟩ (c_X4_pop l g Ty G s.heap.size (g.2.2 2) (g.2.2 0) kq_4 kq_2) (cwV 1 hts (gwV mw_906 mw_907 mw_908 mw_78 mw_909) rfl rfl rfl hv_X4_pop ⟨Nat.le_of_ble_eq_true rfl, Nat.le_of_ble_eq_true rfl⟩) ⟨PcT_blind, hg_recv hK o_c_17 rfl, PcT_pre hK hH⟩ rfl rfl hl.1 rfl (lv_room (Nat.le_of_ble_eq_true rfl)) dX11_undo_8 ⟨Nat.zero_le _, Nat.zero_le _⟩) hS (fun q _ h => AF.mono hS.1 h) (fun q h => AF.mono hS.1 h) (fun x_21 ux_21 t H locs ht hvm hx_21 hB hz hk hS => ?_)
  obtain ⟨hx_21, fx_21⟩ := hx_21
  have hH : HT g Ty G H := by rw [← ht]; rw [fx_21] at hB; exact hB
  have rx_21 : rgI (0) (1) x_21 := hx_21
  refine lv_if_eq (tgt := 24) hx hb dX11_undo_11 (by decide) (fun c_22 => ?_) (fun c_22 => ?_)
  · have r_23 : rgI (0) (0) x_21 := rg_w (rg_eq rl_0 c_22) (by decide) (by decide)
    refine lv_iconst (v := (-1)) hx hb dX11_undo_24 (by decide) ?_
    exact W.iret hx hb hr (fun t ht hWm => ⟨⟨(-1), (Ty, G), rfl, rfl, by show HT g Ty G t.heap; rw [ht]; exact hH⟩, hS.F ht⟩) hS.2.2 dX11_undo_25
  · have r_24 : rgI (1) (1) x_21 := rg_w (rg_neL rx_21 rl_0 c_22) (by decide) (by decide)
    refine lv_aload_n hx hb dX11_undo_14 rfl (lv_at hl 0 rfl) ?_
    obtain ⟨_, ⟨q_40, rfl, kq_26, kq_27, kq_28, kq_29, kq_30, kq_31, kq_32, kq_33, kq_34, kq_35, kq_36, kq_37, kq_38, kq_39⟩, o_c_25⟩ := hH h0 _ k_h0
    refine hg_get hx hb hG igX11 hown hK o_c_25 rfl 2 (by decide) (hG _ mw_359) rfl dX11_undo_15 ?_
    obtain ⟨_, ⟨q_42, q_43, q_44, rfl, kq_42⟩, o_c_41⟩ := hH (g.2.2 2) _ kq_28
    refine hg_getN hx hb hG igX4 hown hK o_c_41 rfl 2 (by decide) ((hK.2.1 _ nwf_157).use rfl) rfl dX11_undo_18 ?_
    refine lv_goto (tgt := 25) hx hb dX11_undo_21 (by decide) ?_
    exact W.iret hx hb hr (fun t ht hWm => ⟨⟨q_44, (Ty, G), rfl, rfl, by show HT g Ty G t.heap; rw [ht]; exact hH⟩, hS.F ht⟩) hS.2.2 dX11_undo_25

set_option maxHeartbeats 4000000 in
set_option maxRecDepth 100000 in
theorem c_X11_again (l : Launch) (g : Gx) (Ty : TyM) (G : Gh) (sz : Nat) (h0 : Nat) (a0 : Int32) (k_h0 : Ty h0 = some (21, 0)) : Met l yX11_again (wsG yX11_again cX11_again 2 (some .boolean)) ({ frames := 1, cells := 0, slots := 0, locals := 22 }) (PcT g Ty G sz [.ref h0, .int a0]) (QwI g Ty sz (fun r u => (((r = 1 ∧ kp G a0) ∨ (r = 0 ∧ ¬ kp G a0))) ∧ u = (Ty, G))) 0 0 (AF Ty sz) := by
  refine Met.ofW (cc := cX11_again) (maxL := 2) (ret := (some .boolean)) (by decide) rfl ?_
  intro p e s m args below meth c s₁ B hml hv
  obtain ⟨rfl, hsz, hK, hH⟩ := hv
  subst hsz
  have hx := B.exec
  have hb := B.bytes
  have hr := B.returns
  have hts := atoms_spec (ws := (wsG yX11_again cX11_again 2 (some .boolean))) B.pre
  have hG : ∀ w ∈ GW, w.before ([.ref h0, .int a0] : List Value).toArray s = true := fun w h => hts w (List.mem_cons_of_mem _ h)
  have hown : s.vm.findClass RX11 = some m.cls := findClass_of_methodNamed B.named
  have hlocks := B.notSynchronized
  have hl := lv_entry [.ref h0, .int a0] (n := 2) (Nat.le_of_ble_eq_true rfl)
  rw [lg_entry_eq]
  generalize (lg_sl [.ref h0, .int a0] ++ List.replicate (2 - (lg_sl [.ref h0, .int a0]).length) Slot.unset).toArray = ls at hl ⊢
  have hl : lv_has ls 2 [(0, .ref h0), (1, .int a0)] := hl
  have hS : va_S (AF Ty s.heap.size) s.heap s.heap [] := va_S.rf
  refine lv_iload_n hx hb dX11_again_0 rfl (lv_at hl 1 rfl) ?_
  refine lv_if_lt (tgt := 18) hx hb dX11_again_1 (by decide) (fun c_1 => ?_) (fun c_1 => ?_)
  · have r_2 : rgI (-2147483648) (-1) a0 := rg_w (rg_ltL (rg_top a0) rl_0 c_1) (by decide) (by decide)
    refine lv_iconst (v := 0) hx hb dX11_again_18 (by decide) ?_
    exact W.zret hx hb hr rfl (fun t ht hWm => ⟨⟨0, (Ty, G), rfl, ⟨Or.inr ⟨rfl, kp_lt c_1⟩, rfl⟩, by show HT g Ty G t.heap; rw [ht]; exact hH⟩, hS.F ht⟩) hS.2.2 dX11_again_19
  · have r_3 : rgI (0) (2147483647) a0 := rg_w (rg_leR rl_0 (rg_top a0) (nlt_le c_1)) (by decide) (by decide)
    refine lv_iload_n hx hb dX11_again_4 rfl (lv_at hl 1 rfl) ?_
    refine lv_iconst (v := 2) hx hb dX11_again_5 (by decide) ?_
    refine lv_icmp_ge (tgt := 18) hx hb dX11_again_6 (by decide) (fun c_4 => ?_) (fun c_4 => ?_)
    · have r_5 : rgI (2) (2147483647) a0 := rg_w (rg_leR rl_2 r_3 c_4) (by decide) (by decide)
      refine lv_iconst (v := 0) hx hb dX11_again_18 (by decide) ?_
      exact W.zret hx hb hr rfl (fun t ht hWm => ⟨⟨0, (Ty, G), rfl, ⟨Or.inr ⟨rfl, kp_ge c_4⟩, rfl⟩, by show HT g Ty G t.heap; rw [ht]; exact hH⟩, hS.F ht⟩) hS.2.2 dX11_again_19
    · have r_6 : rgI (0) (1) a0 := rg_w (rg_ltL r_3 rl_2 (nle_lt c_4)) (by decide) (by decide)
      refine lv_aload_n hx hb dX11_again_9 rfl (lv_at hl 0 rfl) ?_
      obtain ⟨_, ⟨q_22, rfl, kq_8, kq_9, kq_10, kq_11, kq_12, kq_13, kq_14, kq_15, kq_16, kq_17, kq_18, kq_19, kq_20, kq_21⟩, o_c_7⟩ := hH h0 _ k_h0
      refine hg_get hx hb hG igX11 hown hK o_c_7 rfl 3 (by decide) (hG _ mw_360) rfl dX11_again_10 ?_
      refine lv_iload_n hx hb dX11_again_13 rfl (lv_at hl 1 rfl) ?_
      obtain ⟨_, ⟨f_24, rfl, qf_24, t_25, t_26, t_27⟩, o_c_23⟩ := hH (g.2.2 3) _ kq_11
      refine hg_aald hx hb hK o_c_23 (rg_in (n := 2) r_6 (by decide) (by decide)) dX11_again_14 ?_
      obtain ⟨w_28, ew_28⟩ : ∃ z, z = f_24 (a0 : Int32).toNatClampNeg := ⟨_, rfl⟩
      rw [← ew_28]
      rcases w_28 with _ | y_30
      · refine lv_ifnonnullN hx hb dX11_again_15 ?_
        refine lv_iconst (v := 0) hx hb dX11_again_18 (by decide) ?_
        exact W.zret hx hb hr rfl (fun t ht hWm => ⟨⟨0, (Ty, G), rfl, ⟨Or.inr ⟨rfl, kp_none r_6 ew_28 t_26 t_27⟩, rfl⟩, by show HT g Ty G t.heap; rw [ht]; exact hH⟩, hS.F ht⟩) hS.2.2 dX11_again_19
      · refine lv_ifnonnull (tgt := 20) hx hb dX11_again_15 (by decide) ?_
        refine lv_aload_n hx hb dX11_again_20 rfl (lv_at hl 0 rfl) ?_
        refine hg_get hx hb hG igX11 hown hK o_c_7 rfl 0 (by decide) (hG _ mw_357) rfl dX11_again_21 ?_
        refine lv_aload_n hx hb dX11_again_24 rfl (lv_at hl 0 rfl) ?_
        refine hg_get hx hb hG igX11 hown hK o_c_7 rfl 3 (by decide) (hG _ mw_360) rfl dX11_again_25 ?_
        refine lv_iload_n hx hb dX11_again_28 rfl (lv_at hl 1 rfl) ?_
        refine hg_aald hx hb hK o_c_23 (rg_in (n := 2) r_6 (by decide) (by decide)) dX11_again_29 ?_
        rw [show va_rf (f_24 (a0 : Int32).toNatClampNeg) = Value.ref y_30 by rw [ew_28.symm]; rfl]
        obtain ⟨_, ⟨q_32, q_33, q_34, q_35, q_36, q_37, q_38, rfl, kq_32, kq_33, kq_34⟩, o_c_31⟩ := hH (g.2.2 0) _ kq_8
        refine va_callv (va_runV (As := [.ref y_30]) (rest := []) ⟨hx, hb, hml, hown, hts⟩ (c_X10_take l g Ty G s.heap.size (g.2.2 0) y_30 kq_8 (qf_24 _ _ ew_28.symm)) (cwV 1 hts (gwV mw_628 mw_629 mw_630 mw_77 mw_631) rfl rfl rfl hv_X10_take ⟨Nat.le_of_ble_eq_true rfl, Nat.le_of_ble_eq_true rfl⟩) ⟨PcT_blind, hg_recv hK o_c_31 rfl, PcT_pre hK hH⟩ rfl rfl hl.1 rfl (lv_room (Nat.le_of_ble_eq_true rfl)) dX11_again_30 ⟨Nat.zero_le _, Nat.zero_le _⟩) hS (fun q _ h => AF.mono hS.1 h) (fun q h => AF.mono hS.1 h) (fun ux_39 t H locs ht hvm hx_39 hB hz hk hS => ?_)
        have hH : HT g Ty G H := by rw [← ht]; rw [hx_39] at hB; exact hB
        refine lv_aload_n hx hb dX11_again_33 rfl (lv_at hl 0 rfl) ?_
        obtain ⟨_, ⟨q_55, rfl, kq_41, kq_42, kq_43, kq_44, kq_45, kq_46, kq_47, kq_48, kq_49, kq_50, kq_51, kq_52, kq_53, kq_54⟩, o_c_40⟩ := hH h0 _ k_h0
        refine hg_get hx hb hG igX11 hown hK o_c_40 rfl 2 (by decide) (hG _ mw_359) rfl dX11_again_34 ?_
        refine lv_iconst (v := 0) hx hb dX11_again_37 (by decide) ?_
        obtain ⟨_, ⟨q_57, q_58, q_59, rfl, kq_57⟩, o_c_56⟩ := hH (g.2.2 2) _ kq_43
        refine hg_putN (ty := .int) hx hb hG igX4 tyX4 tyX4_ok nmX4 hown hK hS o_c_56 (AF.of kq_43) rfl 2 (by decide) ((hK.2.1 _ nwf_157).use rfl) rfl (by decide +kernel) rfl rfl (Nat.le_of_ble_eq_true rfl) dX11_again_38 (fun H locs o_c_56 hz oq hS => ?_)
        have o_c_56 : va_at g.1 vwCl ((g.2.2 2), .inr (4, [.ref q_57, .int q_58, .int 0])) H := o_c_56
        have hH : HT g Ty G H := hH.put kq_43 ⟨q_57, q_58, 0, rfl, kq_57⟩ o_c_56 oq
        have o_c_40 := o_c_40.kept (oq _ (ne_kd k_h0 kq_43 (by decide)))
        clear oq hz
        refine lv_iconst (v := 1) hx hb dX11_again_41 (by decide) ?_
        exact W.zret hx hb hr rfl (fun t ht hWm => ⟨⟨1, (Ty, G), rfl, ⟨Or.inl ⟨rfl, kp_some r_6 ew_28.symm t_26 t_27⟩, rfl⟩, by show HT g Ty G t.heap; rw [ht]; exact hH⟩, hS.F ht⟩) hS.2.2 dX11_again_42

set_option maxHeartbeats 4000000 in
set_option maxRecDepth 100000 in
theorem c_X11_sign (l : Launch) (g : Gx) (Ty : TyM) (G : Gh) (sz : Nat) (h0 : Nat) (a0 : Int32) (k_h0 : Ty h0 = some (21, 0)) : Met l yX11_sign (wsG yX11_sign cX11_sign 2 (some .int)) ({ frames := 1, cells := 0, slots := 0, locals := 22 }) (PcT g Ty G sz [.ref h0, .int a0]) (QwI g Ty sz (fun r u => u.1 = Ty ∧ SignR G u.2 r)) 0 0 (AF Ty sz) := by
  refine Met.ofW (cc := cX11_sign) (maxL := 2) (ret := (some .int)) (by decide) rfl ?_
  intro p e s m args below meth c s₁ B hml hv
  obtain ⟨rfl, hsz, hK, hH⟩ := hv
  subst hsz
  have hx := B.exec
  have hb := B.bytes
  have hr := B.returns
  have hts := atoms_spec (ws := (wsG yX11_sign cX11_sign 2 (some .int))) B.pre
  have hG : ∀ w ∈ GW, w.before ([.ref h0, .int a0] : List Value).toArray s = true := fun w h => hts w (List.mem_cons_of_mem _ h)
  have hown : s.vm.findClass RX11 = some m.cls := findClass_of_methodNamed B.named
  have hlocks := B.notSynchronized
  have hl := lv_entry [.ref h0, .int a0] (n := 2) (Nat.le_of_ble_eq_true rfl)
  rw [lg_entry_eq]
  generalize (lg_sl [.ref h0, .int a0] ++ List.replicate (2 - (lg_sl [.ref h0, .int a0]).length) Slot.unset).toArray = ls at hl ⊢
  have hl : lv_has ls 2 [(0, .ref h0), (1, .int a0)] := hl
  have hS : va_S (AF Ty s.heap.size) s.heap s.heap [] := va_S.rf
  refine lv_aload_n hx hb dX11_sign_0 rfl (lv_at hl 0 rfl) ?_
  obtain ⟨_, ⟨q_16, rfl, kq_2, kq_3, kq_4, kq_5, kq_6, kq_7, kq_8, kq_9, kq_10, kq_11, kq_12, kq_13, kq_14, kq_15⟩, o_c_1⟩ := hH h0 _ k_h0
  refine hg_get hx hb hG igX11 hown hK o_c_1 rfl 4 (by decide) (hG _ mw_361) rfl dX11_sign_1 ?_
  refine lv_iload_n hx hb dX11_sign_4 rfl (lv_at hl 1 rfl) ?_
  obtain ⟨_, ⟨q_18, rfl, kq_18, rq_19, t_20⟩, o_c_17⟩ := hH (g.2.2 4) _ kq_6
  refine va_calli (va_runV (As := [.int a0]) (rest := []) ⟨hx, hb, hml, hown, hts⟩ (c_X9_add l g Ty G s.heap.size (g.2.2 4) a0 kq_6) (cwV 1 hts (gwV mw_407 mw_408 mw_409 mw_79 mw_410) rfl rfl rfl hv_X9_add ⟨Nat.le_of_ble_eq_true rfl, Nat.le_of_ble_eq_true rfl⟩) ⟨PcT_blind, hg_recv hK o_c_17 rfl, PcT_pre hK hH⟩ rfl rfl hl.1 rfl (lv_room (Nat.le_of_ble_eq_true rfl)) dX11_sign_5 ⟨Nat.zero_le _, Nat.zero_le _⟩) hS (fun q _ h => AF.mono hS.1 h) (fun q h => AF.mono hS.1 h) (fun x_21 ux_21 t H locs ht hvm hx_21 hB hz hk hS => ?_)
  obtain ⟨hx_21, fx_21⟩ := hx_21
  obtain ⟨eTx_21, eGx_21⟩ := fx_21
  obtain ⟨G_22, eG_22⟩ : ∃ z, z = ux_21.2 := ⟨_, rfl⟩
  rw [← eG_22] at eGx_21
  have hH : HT g Ty G_22 H := by rw [← ht, ← eTx_21, eG_22]; exact hB
  have rx_21 : rgI (0) (1) x_21 := hx_21
  refine lv_if_eq (tgt := 21) hx hb dX11_sign_8 (by decide) (fun c_23 => ?_) (fun c_23 => ?_)
  · have r_24 : rgI (0) (0) x_21 := rg_w (rg_eq rl_0 c_23) (by decide) (by decide)
    refine lv_iconst (v := (-1)) hx hb dX11_sign_21 (by decide) ?_
    exact W.iret hx hb hr (fun t ht hWm => ⟨⟨(-1), (Ty, G_22), rfl, ⟨rfl, sign0 eGx_21 c_23⟩, by show HT g Ty G_22 t.heap; rw [ht]; exact hH⟩, hS.F ht⟩) hS.2.2 dX11_sign_22
  · have r_25 : rgI (1) (1) x_21 := rg_w (rg_neL rx_21 rl_0 c_23) (by decide) (by decide)
    refine lv_aload_n hx hb dX11_sign_11 rfl (lv_at hl 0 rfl) ?_
    obtain ⟨_, ⟨q_41, rfl, kq_27, kq_28, kq_29, kq_30, kq_31, kq_32, kq_33, kq_34, kq_35, kq_36, kq_37, kq_38, kq_39, kq_40⟩, o_c_26⟩ := hH h0 _ k_h0
    refine hg_get hx hb hG igX11 hown hK o_c_26 rfl 4 (by decide) (hG _ mw_361) rfl dX11_sign_12 ?_
    obtain ⟨_, ⟨q_43, rfl, kq_43, rq_44, t_45⟩, o_c_42⟩ := hH (g.2.2 4) _ kq_31
    refine hg_getN hx hb hG igX9 hown hK o_c_42 rfl 1 (by decide) ((hK.2.1 _ nwf_174).use rfl) rfl dX11_sign_15 ?_
    refine lv_goto (tgt := 22) hx hb dX11_sign_18 (by decide) ?_
    exact W.iret hx hb hr (fun t ht hWm => ⟨⟨(G_22.1 0), (Ty, G_22), rfl, ⟨rfl, sign1 eGx_21 c_23⟩, by show HT g Ty G_22 t.heap; rw [ht]; exact hH⟩, hS.F ht⟩) hS.2.2 dX11_sign_22

set_option maxHeartbeats 4000000 in
set_option maxRecDepth 100000 in
theorem c_X11_end (l : Launch) (g : Gx) (Ty : TyM) (G : Gh) (sz : Nat) (h0 : Nat) (a0 : Int32) (k_h0 : Ty h0 = some (21, 0)) : Met l yX11_end (wsG yX11_end cX11_end 2 (some .boolean)) ({ frames := 1, cells := 0, slots := 0, locals := 21 }) (PcT g Ty G sz [.ref h0, .int a0]) (QwI g Ty sz (fun r u => (rgI (0) (1) r) ∧ u.1 = Ty ∧ CutR G u.2 r a0)) 0 0 (AF Ty sz) := by
  refine Met.ofW (cc := cX11_end) (maxL := 2) (ret := (some .boolean)) (by decide) rfl ?_
  intro p e s m args below meth c s₁ B hml hv
  obtain ⟨rfl, hsz, hK, hH⟩ := hv
  subst hsz
  have hx := B.exec
  have hb := B.bytes
  have hr := B.returns
  have hts := atoms_spec (ws := (wsG yX11_end cX11_end 2 (some .boolean))) B.pre
  have hG : ∀ w ∈ GW, w.before ([.ref h0, .int a0] : List Value).toArray s = true := fun w h => hts w (List.mem_cons_of_mem _ h)
  have hown : s.vm.findClass RX11 = some m.cls := findClass_of_methodNamed B.named
  have hlocks := B.notSynchronized
  have hl := lv_entry [.ref h0, .int a0] (n := 2) (Nat.le_of_ble_eq_true rfl)
  rw [lg_entry_eq]
  generalize (lg_sl [.ref h0, .int a0] ++ List.replicate (2 - (lg_sl [.ref h0, .int a0]).length) Slot.unset).toArray = ls at hl ⊢
  have hl : lv_has ls 2 [(0, .ref h0), (1, .int a0)] := hl
  have hS : va_S (AF Ty s.heap.size) s.heap s.heap [] := va_S.rf
  refine lv_aload_n hx hb dX11_end_0 rfl (lv_at hl 0 rfl) ?_
  obtain ⟨_, ⟨q_16, rfl, kq_2, kq_3, kq_4, kq_5, kq_6, kq_7, kq_8, kq_9, kq_10, kq_11, kq_12, kq_13, kq_14, kq_15⟩, o_c_1⟩ := hH h0 _ k_h0
  refine hg_get hx hb hG igX11 hown hK o_c_1 rfl 4 (by decide) (hG _ mw_361) rfl dX11_end_1 ?_
  refine lv_iload_n hx hb dX11_end_4 rfl (lv_at hl 1 rfl) ?_
  obtain ⟨_, ⟨q_18, rfl, kq_18, rq_19, t_20⟩, o_c_17⟩ := hH (g.2.2 4) _ kq_6
  refine va_calli (va_runV (As := [.int a0]) (rest := []) ⟨hx, hb, hml, hown, hts⟩ (c_X9_cut l g Ty G s.heap.size (g.2.2 4) a0 kq_6) (cwV 1 hts (gwV mw_415 mw_416 mw_417 mw_79 mw_418) rfl rfl rfl hv_X9_cut ⟨Nat.le_of_ble_eq_true rfl, Nat.le_of_ble_eq_true rfl⟩) ⟨PcT_blind, hg_recv hK o_c_17 rfl, PcT_pre hK hH⟩ rfl rfl hl.1 rfl (lv_room (Nat.le_of_ble_eq_true rfl)) dX11_end_5 ⟨Nat.zero_le _, Nat.zero_le _⟩) hS (fun q _ h => AF.mono hS.1 h) (fun q h => AF.mono hS.1 h) (fun x_21 ux_21 t H locs ht hvm hx_21 hB hz hk hS => ?_)
  obtain ⟨hx_21, fx_21⟩ := hx_21
  obtain ⟨eTx_21, eGx_21⟩ := fx_21
  obtain ⟨G_22, eG_22⟩ : ∃ z, z = ux_21.2 := ⟨_, rfl⟩
  rw [← eG_22] at eGx_21
  have hH : HT g Ty G_22 H := by rw [← ht, ← eTx_21, eG_22]; exact hB
  have rx_21 : rgI (0) (1) x_21 := hx_21
  exact W.zret hx hb hr (nz01 rx_21) (fun t ht hWm => ⟨⟨x_21, (Ty, G_22), rfl, ⟨rg_w rx_21 (by decide) (by decide), ⟨rfl, eGx_21⟩⟩, by show HT g Ty G_22 t.heap; rw [ht]; exact hH⟩, hS.F ht⟩) hS.2.2 dX11_end_8

set_option maxHeartbeats 4000000 in
set_option maxRecDepth 100000 in
theorem c_X11_heard (l : Launch) (g : Gx) (Ty : TyM) (G : Gh) (sz : Nat) (h0 : Nat) (a0 : Int32) (a1 : Int32) (k_h0 : Ty h0 = some (21, 0)) : Met l yX11_heard (wsG yX11_heard cX11_heard 3 (some .int)) ({ frames := 1, cells := 0, slots := 0, locals := 22 }) (PcO g Ty G sz [.ref h0, .int a0, .int a1]) (QwI g Ty sz (fun r u => u.1 = Ty ∧ HeardR G u.2 r a0 a1)) 0 0 (AF Ty sz) := by
  refine Met.ofW (cc := cX11_heard) (maxL := 3) (ret := (some .int)) (by decide) rfl ?_
  intro p e s m args below meth c s₁ B hml hv
  obtain ⟨rfl, hsz, hK, hH, hO⟩ := hv
  subst hsz
  have hx := B.exec
  have hb := B.bytes
  have hr := B.returns
  have hts := atoms_spec (ws := (wsG yX11_heard cX11_heard 3 (some .int))) B.pre
  have hG : ∀ w ∈ GW, w.before ([.ref h0, .int a0, .int a1] : List Value).toArray s = true := fun w h => hts w (List.mem_cons_of_mem _ h)
  have hown : s.vm.findClass RX11 = some m.cls := findClass_of_methodNamed B.named
  have hlocks := B.notSynchronized
  have hl := lv_entry [.ref h0, .int a0, .int a1] (n := 3) (Nat.le_of_ble_eq_true rfl)
  rw [lg_entry_eq]
  generalize (lg_sl [.ref h0, .int a0, .int a1] ++ List.replicate (3 - (lg_sl [.ref h0, .int a0, .int a1]).length) Slot.unset).toArray = ls at hl ⊢
  have hl : lv_has ls 3 [(0, .ref h0), (1, .int a0), (2, .int a1)] := hl
  have hS : va_S (AF Ty s.heap.size) s.heap s.heap [] := va_S.rf
  refine lv_aload_n hx hb dX11_heard_0 rfl (lv_at hl 0 rfl) ?_
  obtain ⟨_, ⟨q_16, rfl, kq_2, kq_3, kq_4, kq_5, kq_6, kq_7, kq_8, kq_9, kq_10, kq_11, kq_12, kq_13, kq_14, kq_15⟩, o_c_1⟩ := hH h0 _ k_h0
  refine hg_get hx hb hG igX11 hown hK o_c_1 rfl 11 (by decide) (hG _ mw_368) rfl dX11_heard_1 ?_
  refine lv_iload_n hx hb dX11_heard_4 rfl (lv_at hl 1 rfl) ?_
  refine lv_iload_n hx hb dX11_heard_5 rfl (lv_at hl 2 rfl) ?_
  obtain ⟨_, ⟨q_18, q_19, q_20, q_22, q_23, rfl, kq_18, kq_19, kq_20, kq_22, rq_21, t_24⟩, o_c_17⟩ := hH (g.2.2 11) _ kq_13
  refine va_calli (va_runV (As := [.int a0, .int a1]) (rest := []) ⟨hx, hb, hml, hown, hts⟩ (c_X3_hear l g Ty G s.heap.size (g.2.2 11) a0 a1 kq_13) (cwV 2 hts (gwV mw_1010 mw_1011 mw_1012 mw_85 mw_1013) rfl rfl rfl hv_X3_hear ⟨Nat.le_of_ble_eq_true rfl, Nat.le_of_ble_eq_true rfl⟩) ⟨PcO_blind, hg_recv hK o_c_17 rfl, PcO_pre hK hH hO hS⟩ rfl rfl hl.1 rfl (lv_room (Nat.le_of_ble_eq_true rfl)) dX11_heard_6 ⟨Nat.zero_le _, Nat.zero_le _⟩) hS (fun q _ h => AF.mono hS.1 h) (fun q h => AF.mono hS.1 h) (fun x_25 ux_25 t H locs ht hvm hx_25 hB hz hk hS => ?_)
  obtain ⟨hx_25, fx_25⟩ := hx_25
  obtain ⟨eTx_25, eGx_25⟩ := fx_25
  obtain ⟨G_26, eG_26⟩ : ∃ z, z = ux_25.2 := ⟨_, rfl⟩
  rw [← eG_26] at eGx_25
  have hH : HT g Ty G_26 H := by rw [← ht, ← eTx_25, eG_26]; exact hB
  have rx_25 : rgI (0) (1) x_25 := hx_25
  refine lv_if_eq (tgt := 22) hx hb dX11_heard_9 (by decide) (fun c_27 => ?_) (fun c_27 => ?_)
  · have r_28 : rgI (0) (0) x_25 := rg_w (rg_eq rl_0 c_27) (by decide) (by decide)
    refine lv_iconst (v := (-1)) hx hb dX11_heard_22 (by decide) ?_
    exact W.iret hx hb hr (fun t ht hWm => ⟨⟨(-1), (Ty, G_26), rfl, ⟨rfl, heard0 eGx_25 c_27⟩, by show HT g Ty G_26 t.heap; rw [ht]; exact hH⟩, hS.F ht⟩) hS.2.2 dX11_heard_23
  · have r_29 : rgI (1) (1) x_25 := rg_w (rg_neL rx_25 rl_0 c_27) (by decide) (by decide)
    refine lv_aload_n hx hb dX11_heard_12 rfl (lv_at hl 0 rfl) ?_
    obtain ⟨_, ⟨q_45, rfl, kq_31, kq_32, kq_33, kq_34, kq_35, kq_36, kq_37, kq_38, kq_39, kq_40, kq_41, kq_42, kq_43, kq_44⟩, o_c_30⟩ := hH h0 _ k_h0
    refine hg_get hx hb hG igX11 hown hK o_c_30 rfl 11 (by decide) (hG _ mw_368) rfl dX11_heard_13 ?_
    obtain ⟨_, ⟨q_47, q_48, q_49, q_51, q_52, rfl, kq_47, kq_48, kq_49, kq_51, rq_50, t_53⟩, o_c_46⟩ := hH (g.2.2 11) _ kq_42
    refine hg_getN hx hb hG igX3 hown hK o_c_46 rfl 3 (by decide) ((hK.2.1 _ nwf_298).use rfl) rfl dX11_heard_16 ?_
    refine lv_goto (tgt := 23) hx hb dX11_heard_19 (by decide) ?_
    exact W.iret hx hb hr (fun t ht hWm => ⟨⟨(G_26.1 1), (Ty, G_26), rfl, ⟨rfl, heard1 eGx_25 c_27⟩, by show HT g Ty G_26 t.heap; rw [ht]; exact hH⟩, hS.F ht⟩) hS.2.2 dX11_heard_23

set_option maxHeartbeats 4000000 in
set_option maxRecDepth 100000 in
theorem c_X11_saw (l : Launch) (g : Gx) (Ty : TyM) (G : Gh) (sz : Nat) (h0 : Nat) (a0 : Int32) (a1 : Int32) (a2 : Int32) (k_h0 : Ty h0 = some (21, 0)) : Met l yX11_saw (wsG yX11_saw cX11_saw 4 (some .int)) ({ frames := 1, cells := 0, slots := 0, locals := 23 }) (PcT g Ty G sz [.ref h0, .int a0, .int a1, .int a2]) (QwI g Ty sz (fun r u => u.1 = Ty ∧ SawR G u.2 r a0 a1 a2)) 0 0 (AF Ty sz) := by
  refine Met.ofW (cc := cX11_saw) (maxL := 4) (ret := (some .int)) (by decide) rfl ?_
  intro p e s m args below meth c s₁ B hml hv
  obtain ⟨rfl, hsz, hK, hH⟩ := hv
  subst hsz
  have hx := B.exec
  have hb := B.bytes
  have hr := B.returns
  have hts := atoms_spec (ws := (wsG yX11_saw cX11_saw 4 (some .int))) B.pre
  have hG : ∀ w ∈ GW, w.before ([.ref h0, .int a0, .int a1, .int a2] : List Value).toArray s = true := fun w h => hts w (List.mem_cons_of_mem _ h)
  have hown : s.vm.findClass RX11 = some m.cls := findClass_of_methodNamed B.named
  have hlocks := B.notSynchronized
  have hl := lv_entry [.ref h0, .int a0, .int a1, .int a2] (n := 4) (Nat.le_of_ble_eq_true rfl)
  rw [lg_entry_eq]
  generalize (lg_sl [.ref h0, .int a0, .int a1, .int a2] ++ List.replicate (4 - (lg_sl [.ref h0, .int a0, .int a1, .int a2]).length) Slot.unset).toArray = ls at hl ⊢
  have hl : lv_has ls 4 [(0, .ref h0), (1, .int a0), (2, .int a1), (3, .int a2)] := hl
  have hS : va_S (AF Ty s.heap.size) s.heap s.heap [] := va_S.rf
  refine lv_aload_n hx hb dX11_saw_0 rfl (lv_at hl 0 rfl) ?_
  obtain ⟨_, ⟨q_16, rfl, kq_2, kq_3, kq_4, kq_5, kq_6, kq_7, kq_8, kq_9, kq_10, kq_11, kq_12, kq_13, kq_14, kq_15⟩, o_c_1⟩ := hH h0 _ k_h0
  refine hg_get hx hb hG igX11 hown hK o_c_1 rfl 12 (by decide) (hG _ mw_369) rfl dX11_saw_1 ?_
  refine lv_iload_n hx hb dX11_saw_4 rfl (lv_at hl 1 rfl) ?_
  refine lv_iload_n hx hb dX11_saw_5 rfl (lv_at hl 2 rfl) ?_
  refine lv_iload_n hx hb dX11_saw_6 rfl (lv_at hl 3 rfl) ?_
  obtain ⟨_, ⟨q_18, q_19, q_20, q_22, rfl, kq_18, kq_19, kq_20, rq_21, t_23⟩, o_c_17⟩ := hH (g.2.2 12) _ kq_14
  refine va_calli (va_runV (As := [.int a0, .int a1, .int a2]) (rest := []) ⟨hx, hb, hml, hown, hts⟩ (c_X5_see l g Ty G s.heap.size (g.2.2 12) a0 a1 a2 kq_14) (cwV 3 hts (gwV mw_1061 mw_1062 mw_1063 mw_86 mw_1064) rfl rfl rfl hv_X5_see ⟨Nat.le_of_ble_eq_true rfl, Nat.le_of_ble_eq_true rfl⟩) ⟨PcT_blind, hg_recv hK o_c_17 rfl, PcT_pre hK hH⟩ rfl rfl hl.1 rfl (lv_room (Nat.le_of_ble_eq_true rfl)) dX11_saw_7 ⟨Nat.zero_le _, Nat.zero_le _⟩) hS (fun q _ h => AF.mono hS.1 h) (fun q h => AF.mono hS.1 h) (fun x_24 ux_24 t H locs ht hvm hx_24 hB hz hk hS => ?_)
  obtain ⟨hx_24, fx_24⟩ := hx_24
  obtain ⟨eTx_24, eGx_24⟩ := fx_24
  obtain ⟨G_25, eG_25⟩ : ∃ z, z = ux_24.2 := ⟨_, rfl⟩
  rw [← eG_25] at eGx_24
  have hH : HT g Ty G_25 H := by rw [← ht, ← eTx_24, eG_25]; exact hB
  have rx_24 : rgI (0) (1) x_24 := hx_24
  refine lv_if_eq (tgt := 23) hx hb dX11_saw_10 (by decide) (fun c_26 => ?_) (fun c_26 => ?_)
  · have r_27 : rgI (0) (0) x_24 := rg_w (rg_eq rl_0 c_26) (by decide) (by decide)
    refine lv_iconst (v := (-1)) hx hb dX11_saw_23 (by decide) ?_
    exact W.iret hx hb hr (fun t ht hWm => ⟨⟨(-1), (Ty, G_25), rfl, ⟨rfl, saw0 eGx_24 c_26⟩, by show HT g Ty G_25 t.heap; rw [ht]; exact hH⟩, hS.F ht⟩) hS.2.2 dX11_saw_24
  · have r_28 : rgI (1) (1) x_24 := rg_w (rg_neL rx_24 rl_0 c_26) (by decide) (by decide)
    refine lv_aload_n hx hb dX11_saw_13 rfl (lv_at hl 0 rfl) ?_
    obtain ⟨_, ⟨q_44, rfl, kq_30, kq_31, kq_32, kq_33, kq_34, kq_35, kq_36, kq_37, kq_38, kq_39, kq_40, kq_41, kq_42, kq_43⟩, o_c_29⟩ := hH h0 _ k_h0
    refine hg_get hx hb hG igX11 hown hK o_c_29 rfl 12 (by decide) (hG _ mw_369) rfl dX11_saw_14 ?_
    obtain ⟨_, ⟨q_46, q_47, q_48, q_50, rfl, kq_46, kq_47, kq_48, rq_49, t_51⟩, o_c_45⟩ := hH (g.2.2 12) _ kq_42
    refine hg_getN hx hb hG igX5 hown hK o_c_45 rfl 3 (by decide) ((hK.2.1 _ nwf_325).use rfl) rfl dX11_saw_17 ?_
    refine lv_goto (tgt := 24) hx hb dX11_saw_20 (by decide) ?_
    exact W.iret hx hb hr (fun t ht hWm => ⟨⟨(G_25.1 2), (Ty, G_25), rfl, ⟨rfl, saw1 eGx_24 c_26⟩, by show HT g Ty G_25 t.heap; rw [ht]; exact hH⟩, hS.F ht⟩) hS.2.2 dX11_saw_24

set_option maxHeartbeats 4000000 in
set_option maxRecDepth 100000 in
theorem c_X11_forget (l : Launch) (g : Gx) (Ty : TyM) (G : Gh) (sz : Nat) (h0 : Nat) (k_h0 : Ty h0 = some (21, 0)) : Met l yX11_forget (wsG yX11_forget cX11_forget 2 (some .int)) ({ frames := 0, cells := 0, slots := 0, locals := 0 }) (PcT g Ty G sz [.ref h0]) (QwI g Ty sz (fun r u => u.1 = Ty ∧ r = G.1 1 ∧ u.2 = gset G 1 0)) 0 0 (AF Ty sz) := by
  refine Met.ofW (cc := cX11_forget) (maxL := 2) (ret := (some .int)) (by decide) rfl ?_
  intro p e s m args below meth c s₁ B hml hv
  obtain ⟨rfl, hsz, hK, hH⟩ := hv
  subst hsz
  have hx := B.exec
  have hb := B.bytes
  have hr := B.returns
  have hts := atoms_spec (ws := (wsG yX11_forget cX11_forget 2 (some .int))) B.pre
  have hG : ∀ w ∈ GW, w.before ([.ref h0] : List Value).toArray s = true := fun w h => hts w (List.mem_cons_of_mem _ h)
  have hown : s.vm.findClass RX11 = some m.cls := findClass_of_methodNamed B.named
  have hlocks := B.notSynchronized
  have hl := lv_entry [.ref h0] (n := 2) (Nat.le_of_ble_eq_true rfl)
  rw [lg_entry_eq]
  generalize (lg_sl [.ref h0] ++ List.replicate (2 - (lg_sl [.ref h0]).length) Slot.unset).toArray = ls at hl ⊢
  have hl : lv_has ls 2 [(0, .ref h0)] := hl
  have hS : va_S (AF Ty s.heap.size) s.heap s.heap [] := va_S.rf
  refine lv_aload_n hx hb dX11_forget_0 rfl (lv_at hl 0 rfl) ?_
  obtain ⟨_, ⟨q_16, rfl, kq_2, kq_3, kq_4, kq_5, kq_6, kq_7, kq_8, kq_9, kq_10, kq_11, kq_12, kq_13, kq_14, kq_15⟩, o_c_1⟩ := hH h0 _ k_h0
  refine hg_get hx hb hG igX11 hown hK o_c_1 rfl 11 (by decide) (hG _ mw_368) rfl dX11_forget_1 ?_
  obtain ⟨_, ⟨q_18, q_19, q_20, q_22, q_23, rfl, kq_18, kq_19, kq_20, kq_22, rq_21, t_24⟩, o_c_17⟩ := hH (g.2.2 11) _ kq_13
  refine hg_getN hx hb hG igX3 hown hK o_c_17 rfl 3 (by decide) ((hK.2.1 _ nwf_298).use rfl) rfl dX11_forget_4 ?_
  refine lv_istore_n (lv' := [(1, .int (G.1 1)), (0, .ref h0)]) hx hb dX11_forget_7 rfl hl (by decide) rfl (fun ls hl => ?_)
  refine lv_aload_n hx hb dX11_forget_8 rfl (lv_at hl 1 rfl) ?_
  refine hg_get hx hb hG igX11 hown hK o_c_1 rfl 11 (by decide) (hG _ mw_368) rfl dX11_forget_9 ?_
  refine lv_iconst (v := 0) hx hb dX11_forget_12 (by decide) ?_
  refine hg_putN (ty := .int) hx hb hG igX3 tyX3 tyX3_ok nmX3 hown hK hS o_c_17 (AF.of kq_13) rfl 3 (by decide) ((hK.2.1 _ nwf_298).use rfl) rfl (by decide +kernel) rfl rfl (Nat.le_of_ble_eq_true rfl) dX11_forget_13 (fun H locs o_c_17 hz oq hS => ?_)
  obtain ⟨G_25, eG_25⟩ : ∃ z : Gh, z = gset G 1 0 := ⟨_, rfl⟩
  have hH : HT g Ty G_25 H := by rw [eG_25]; exact HT.putN 1 0 hH kq_13 ⟨q_18, q_19, q_20, q_22, q_23, rfl, kq_18, kq_19, kq_20, kq_22, (rgu (rg_w rl_0 (by decide) (by decide))), t_24⟩ o_c_17 oq (Or.inr (Or.inl ⟨rfl, t_24⟩))
  have u_26 : G_25.1 1 = 0 := by rw [eG_25]; exact gs_eq
  have o_c_1 := o_c_1.kept (oq _ (ne_kd k_h0 kq_13 (by decide)))
  clear oq hz
  refine lv_iload_n hx hb dX11_forget_16 rfl (lv_at hl 0 rfl) ?_
  exact W.iret hx hb hr (fun t ht hWm => ⟨⟨(G.1 1), (Ty, G_25), rfl, ⟨rfl, ⟨rfl, eG_25⟩⟩, by show HT g Ty G_25 t.heap; rw [ht]; exact hH⟩, hS.F ht⟩) hS.2.2 dX11_forget_17

set_option maxHeartbeats 4000000 in
set_option maxRecDepth 100000 in
theorem c_X11_denies (l : Launch) (g : Gx) (Ty : TyM) (G : Gh) (sz : Nat) (h0 : Nat) (k_h0 : Ty h0 = some (21, 0)) : Met l yX11_denies (wsG yX11_denies cX11_denies 2 (some .int)) ({ frames := 0, cells := 0, slots := 0, locals := 0 }) (PcT g Ty G sz [.ref h0]) (QwI g Ty sz (fun r u => u.1 = Ty ∧ r = G.1 2 ∧ u.2 = gset G 2 0)) 0 0 (AF Ty sz) := by
  refine Met.ofW (cc := cX11_denies) (maxL := 2) (ret := (some .int)) (by decide) rfl ?_
  intro p e s m args below meth c s₁ B hml hv
  obtain ⟨rfl, hsz, hK, hH⟩ := hv
  subst hsz
  have hx := B.exec
  have hb := B.bytes
  have hr := B.returns
  have hts := atoms_spec (ws := (wsG yX11_denies cX11_denies 2 (some .int))) B.pre
  have hG : ∀ w ∈ GW, w.before ([.ref h0] : List Value).toArray s = true := fun w h => hts w (List.mem_cons_of_mem _ h)
  have hown : s.vm.findClass RX11 = some m.cls := findClass_of_methodNamed B.named
  have hlocks := B.notSynchronized
  have hl := lv_entry [.ref h0] (n := 2) (Nat.le_of_ble_eq_true rfl)
  rw [lg_entry_eq]
  generalize (lg_sl [.ref h0] ++ List.replicate (2 - (lg_sl [.ref h0]).length) Slot.unset).toArray = ls at hl ⊢
  have hl : lv_has ls 2 [(0, .ref h0)] := hl
  have hS : va_S (AF Ty s.heap.size) s.heap s.heap [] := va_S.rf
  refine lv_aload_n hx hb dX11_denies_0 rfl (lv_at hl 0 rfl) ?_
  obtain ⟨_, ⟨q_16, rfl, kq_2, kq_3, kq_4, kq_5, kq_6, kq_7, kq_8, kq_9, kq_10, kq_11, kq_12, kq_13, kq_14, kq_15⟩, o_c_1⟩ := hH h0 _ k_h0
  refine hg_get hx hb hG igX11 hown hK o_c_1 rfl 12 (by decide) (hG _ mw_369) rfl dX11_denies_1 ?_
  obtain ⟨_, ⟨q_18, q_19, q_20, q_22, rfl, kq_18, kq_19, kq_20, rq_21, t_23⟩, o_c_17⟩ := hH (g.2.2 12) _ kq_14
  refine hg_getN hx hb hG igX5 hown hK o_c_17 rfl 3 (by decide) ((hK.2.1 _ nwf_325).use rfl) rfl dX11_denies_4 ?_
  refine lv_istore_n (lv' := [(1, .int (G.1 2)), (0, .ref h0)]) hx hb dX11_denies_7 rfl hl (by decide) rfl (fun ls hl => ?_)
  refine lv_aload_n hx hb dX11_denies_8 rfl (lv_at hl 1 rfl) ?_
  refine hg_get hx hb hG igX11 hown hK o_c_1 rfl 12 (by decide) (hG _ mw_369) rfl dX11_denies_9 ?_
  refine lv_iconst (v := 0) hx hb dX11_denies_12 (by decide) ?_
  refine hg_putN (ty := .int) hx hb hG igX5 tyX5 tyX5_ok nmX5 hown hK hS o_c_17 (AF.of kq_14) rfl 3 (by decide) ((hK.2.1 _ nwf_325).use rfl) rfl (by decide +kernel) rfl rfl (Nat.le_of_ble_eq_true rfl) dX11_denies_13 (fun H locs o_c_17 hz oq hS => ?_)
  obtain ⟨G_24, eG_24⟩ : ∃ z : Gh, z = gset G 2 0 := ⟨_, rfl⟩
  have hH : HT g Ty G_24 H := by rw [eG_24]; exact HT.putN 2 0 hH kq_14 ⟨q_18, q_19, q_20, q_22, rfl, kq_18, kq_19, kq_20, (rgu (rg_w rl_0 (by decide) (by decide))), t_23⟩ o_c_17 oq (Or.inr (Or.inr (Or.inl ⟨rfl, t_23⟩)))
  have u_25 : G_24.1 2 = 0 := by rw [eG_24]; exact gs_eq
  have o_c_1 := o_c_1.kept (oq _ (ne_kd k_h0 kq_14 (by decide)))
  clear oq hz
  refine lv_iload_n hx hb dX11_denies_16 rfl (lv_at hl 0 rfl) ?_
  exact W.iret hx hb hr (fun t ht hWm => ⟨⟨(G.1 2), (Ty, G_24), rfl, ⟨rfl, ⟨rfl, eG_24⟩⟩, by show HT g Ty G_24 t.heap; rw [ht]; exact hH⟩, hS.F ht⟩) hS.2.2 dX11_denies_17

set_option maxHeartbeats 4000000 in
set_option maxRecDepth 100000 in
theorem c_X11_rule (l : Launch) (g : Gx) (Ty : TyM) (G : Gh) (sz : Nat) (h0 : Nat) (k_h0 : Ty h0 = some (21, 0)) : Met l yX11_rule (wsG yX11_rule cX11_rule 2 (some .int)) ({ frames := 9, cells := 0, slots := 0, locals := 204 }) (PcO g Ty G sz [.ref h0]) (QwI g Ty sz (fun r u => u.1 = Ty ∧ TXR g G u.2)) 0 0 (AF Ty sz) := by
  refine Met.ofW (cc := cX11_rule) (maxL := 2) (ret := (some .int)) (by decide) rfl ?_
  intro p e s m args below meth c s₁ B hml hv
  obtain ⟨rfl, hsz, hK, hH, hO⟩ := hv
  subst hsz
  have hx := B.exec
  have hb := B.bytes
  have hr := B.returns
  have hts := atoms_spec (ws := (wsG yX11_rule cX11_rule 2 (some .int))) B.pre
  have hG : ∀ w ∈ GW, w.before ([.ref h0] : List Value).toArray s = true := fun w h => hts w (List.mem_cons_of_mem _ h)
  have hown : s.vm.findClass RX11 = some m.cls := findClass_of_methodNamed B.named
  have hlocks := B.notSynchronized
  have hl := lv_entry [.ref h0] (n := 2) (Nat.le_of_ble_eq_true rfl)
  rw [lg_entry_eq]
  generalize (lg_sl [.ref h0] ++ List.replicate (2 - (lg_sl [.ref h0]).length) Slot.unset).toArray = ls at hl ⊢
  have hl : lv_has ls 2 [(0, .ref h0)] := hl
  have hS : va_S (AF Ty s.heap.size) s.heap s.heap [] := va_S.rf
  refine lv_aload_n hx hb dX11_rule_0 rfl (lv_at hl 0 rfl) ?_
  obtain ⟨_, ⟨q_16, rfl, kq_2, kq_3, kq_4, kq_5, kq_6, kq_7, kq_8, kq_9, kq_10, kq_11, kq_12, kq_13, kq_14, kq_15⟩, o_c_1⟩ := hH h0 _ k_h0
  refine hg_get hx hb hG igX11 hown hK o_c_1 rfl 7 (by decide) (hG _ mw_364) rfl dX11_rule_1 ?_
  refine lv_aload_n hx hb dX11_rule_4 rfl (lv_at hl 0 rfl) ?_
  refine hg_get hx hb hG igX11 hown hK o_c_1 rfl 4 (by decide) (hG _ mw_361) rfl dX11_rule_5 ?_
  obtain ⟨_, ⟨q_18, q_19, q_22, q_23, q_25, q_26, q_27, rfl, kq_18, kq_20, kq_26, kq_27, rq_19, rq_22, t_28⟩, o_c_17⟩ := hH (g.2.2 7) _ kq_9
  refine va_calli (va_runV (As := [.ref (g.2.2 4)]) (rest := []) ⟨hx, hb, hml, hown, hts⟩ (c_X8_read l g Ty G s.heap.size (g.2.2 7) (g.2.2 4) kq_9 kq_6) (cwV 1 hts (gwV mw_423 mw_424 mw_425 mw_81 mw_426) rfl rfl rfl hv_X8_read ⟨Nat.le_of_ble_eq_true rfl, Nat.le_of_ble_eq_true rfl⟩) ⟨PcO_blind, hg_recv hK o_c_17 rfl, PcO_pre hK hH hO hS⟩ rfl rfl hl.1 rfl (lv_room (Nat.le_of_ble_eq_true rfl)) dX11_rule_8 ⟨Nat.zero_le _, Nat.zero_le _⟩) hS (fun q _ h => AF.mono hS.1 h) (fun q h => AF.mono hS.1 h) (fun x_29 ux_29 t H locs ht hvm hx_29 hB hz hk hS => ?_)
  obtain ⟨eTx_29, eGx_29⟩ := hx_29
  obtain ⟨G_30, eG_30⟩ : ∃ z, z = ux_29.2 := ⟨_, rfl⟩
  rw [← eG_30] at eGx_29
  have hH : HT g Ty G_30 H := by rw [← ht, ← eTx_29, eG_30]; exact hB
  refine lv_istore_n (lv' := [(1, .int x_29), (0, .ref h0)]) hx hb dX11_rule_11 rfl hl (by decide) rfl (fun ls hl => ?_)
  refine lv_aload_n hx hb dX11_rule_12 rfl (lv_at hl 1 rfl) ?_
  obtain ⟨_, ⟨q_46, rfl, kq_32, kq_33, kq_34, kq_35, kq_36, kq_37, kq_38, kq_39, kq_40, kq_41, kq_42, kq_43, kq_44, kq_45⟩, o_c_31⟩ := hH h0 _ k_h0
  refine hg_get hx hb hG igX11 hown hK o_c_31 rfl 4 (by decide) (hG _ mw_361) rfl dX11_rule_13 ?_
  obtain ⟨_, ⟨q_48, rfl, kq_48, rq_49, t_50⟩, o_c_47⟩ := hH (g.2.2 4) _ kq_36
  refine va_callv (va_runV (As := []) (rest := []) ⟨hx, hb, hml, hown, hts⟩ (c_X9_clear l g Ty G_30 H.size (g.2.2 4) kq_36) (cwV 0 hts (gwV mw_556 mw_557 mw_558 mw_79 mw_559) rfl rfl rfl hv_X9_clear ⟨Nat.le_of_ble_eq_true rfl, Nat.le_of_ble_eq_true rfl⟩) ⟨PcT_blind, hg_recv hK o_c_47 rfl, PcT_pre hK hH⟩ rfl rfl hl.1 rfl (lv_room (Nat.le_of_ble_eq_true rfl)) dX11_rule_16 ⟨Nat.zero_le _, Nat.zero_le _⟩) hS (fun q _ h => AF.mono hS.1 h) (fun q h => AF.mono hS.1 h) (fun ux_51 t H locs ht hvm hx_51 hB hz hk hS => ?_)
  obtain ⟨eTx_51, eGx_51⟩ := hx_51
  obtain ⟨G_52, eG_52⟩ : ∃ z, z = ux_51.2 := ⟨_, rfl⟩
  rw [← eG_52] at eGx_51
  have hH : HT g Ty G_52 H := by rw [← ht, ← eTx_51, eG_52]; exact hB
  refine lv_iload_n hx hb dX11_rule_19 rfl (lv_at hl 0 rfl) ?_
  refine lv_iconst (v := (-1)) hx hb dX11_rule_20 (by decide) ?_
  refine lv_icmp_eq (tgt := 28) hx hb dX11_rule_21 (by decide) (fun c_53 => ?_) (fun c_53 => ?_)
  · have r_54 : rgI (-1) (-1) x_29 := rg_w (rg_eq rl_m1 c_53) (by decide) (by decide)
    refine lv_aload_n hx hb dX11_rule_28 rfl (lv_at hl 1 rfl) ?_
    obtain ⟨_, ⟨q_70, rfl, kq_56, kq_57, kq_58, kq_59, kq_60, kq_61, kq_62, kq_63, kq_64, kq_65, kq_66, kq_67, kq_68, kq_69⟩, o_c_55⟩ := hH h0 _ k_h0
    refine hg_get hx hb hG igX11 hown hK o_c_55 rfl 6 (by decide) (hG _ mw_363) rfl dX11_rule_29 ?_
    refine lv_aload_n hx hb dX11_rule_32 rfl (lv_at hl 1 rfl) ?_
    refine hg_get hx hb hG igX11 hown hK o_c_55 rfl 7 (by decide) (hG _ mw_364) rfl dX11_rule_33 ?_
    obtain ⟨_, ⟨q_72, q_73, q_74, q_75, q_76, q_77, q_78, q_79, q_80, q_81, rfl, kq_72, kq_74, kq_80, kq_81, rq_73, rq_76⟩, o_c_71⟩ := hH (g.2.2 6) _ kq_62
    refine va_callv (va_runV (As := [.ref (g.2.2 7)]) (rest := []) ⟨hx, hb, hml, hown, hts⟩ (c_X8_take l g Ty G_52 H.size (g.2.2 6) (g.2.2 7) kq_62 kq_63) (cwV 1 hts (gwV mw_560 mw_561 mw_562 mw_81 mw_563) rfl rfl rfl hv_X8_take ⟨Nat.le_of_ble_eq_true rfl, Nat.le_of_ble_eq_true rfl⟩) ⟨PcT_blind, hg_recv hK o_c_71 rfl, PcT_pre hK hH⟩ rfl rfl hl.1 rfl (lv_room (Nat.le_of_ble_eq_true rfl)) dX11_rule_36 ⟨Nat.zero_le _, Nat.zero_le _⟩) hS (fun q _ h => AF.mono hS.1 h) (fun q h => AF.mono hS.1 h) (fun ux_82 t H locs ht hvm hx_82 hB hz hk hS => ?_)
    have hH : HT g Ty G_52 H := by rw [← ht]; rw [hx_82] at hB; exact hB
    refine lv_iconst (v := 0) hx hb dX11_rule_39 (by decide) ?_
    exact W.iret hx hb hr (fun t ht hWm => ⟨⟨0, (Ty, G_52), rfl, ⟨rfl, TXR.of eGx_29 eGx_51⟩, by show HT g Ty G_52 t.heap; rw [ht]; exact hH⟩, hS.F ht⟩) hS.2.2 dX11_rule_40
  · refine lv_iconst (v := (-1)) hx hb dX11_rule_24 (by decide) ?_
    refine lv_iload_n hx hb dX11_rule_25 rfl (lv_at hl 0 rfl) ?_
    refine lv_isub hx hb dX11_rule_26 ?_
    refine lv_topi (fun x_83 ex_83 => ?_)
    exact W.iret hx hb hr (fun t ht hWm => ⟨⟨x_83, (Ty, G_52), rfl, ⟨rfl, TXR.of eGx_29 eGx_51⟩, by show HT g Ty G_52 t.heap; rw [ht]; exact hH⟩, hS.F ht⟩) hS.2.2 dX11_rule_27

set_option maxHeartbeats 4000000 in
set_option maxRecDepth 100000 in
theorem c_X11_place (l : Launch) (g : Gx) (Ty : TyM) (G : Gh) (sz : Nat) (h0 : Nat) (k_h0 : Ty h0 = some (21, 0)) : Met l yX11_place (wsG yX11_place cX11_place 3 (some .int)) ({ frames := 3, cells := 0, slots := 0, locals := 69 }) (PcT g Ty G sz [.ref h0]) (QwI g Ty sz (fun r u => u.1 = Ty ∧ TXR g G u.2)) 0 0 (AF Ty sz) := by
  refine Met.ofW (cc := cX11_place) (maxL := 3) (ret := (some .int)) (by decide) rfl ?_
  intro p e s m args below meth c s₁ B hml hv
  obtain ⟨rfl, hsz, hK, hH⟩ := hv
  subst hsz
  have hx := B.exec
  have hb := B.bytes
  have hr := B.returns
  have hts := atoms_spec (ws := (wsG yX11_place cX11_place 3 (some .int))) B.pre
  have hG : ∀ w ∈ GW, w.before ([.ref h0] : List Value).toArray s = true := fun w h => hts w (List.mem_cons_of_mem _ h)
  have hown : s.vm.findClass RX11 = some m.cls := findClass_of_methodNamed B.named
  have hlocks := B.notSynchronized
  have hl := lv_entry [.ref h0] (n := 3) (Nat.le_of_ble_eq_true rfl)
  rw [lg_entry_eq]
  generalize (lg_sl [.ref h0] ++ List.replicate (3 - (lg_sl [.ref h0]).length) Slot.unset).toArray = ls at hl ⊢
  have hl : lv_has ls 3 [(0, .ref h0)] := hl
  have hS : va_S (AF Ty s.heap.size) s.heap s.heap [] := va_S.rf
  refine lv_aload_n hx hb dX11_place_0 rfl (lv_at hl 0 rfl) ?_
  obtain ⟨_, ⟨q_16, rfl, kq_2, kq_3, kq_4, kq_5, kq_6, kq_7, kq_8, kq_9, kq_10, kq_11, kq_12, kq_13, kq_14, kq_15⟩, o_c_1⟩ := hH h0 _ k_h0
  refine hg_get hx hb hG igX11 hown hK o_c_1 rfl 4 (by decide) (hG _ mw_361) rfl dX11_place_1 ?_
  obtain ⟨_, ⟨q_18, rfl, kq_18, rq_19, t_20⟩, o_c_17⟩ := hH (g.2.2 4) _ kq_6
  refine hg_getN hx hb hG igX9 hown hK o_c_17 rfl 1 (by decide) ((hK.2.1 _ nwf_174).use rfl) rfl dX11_place_4 ?_
  refine lv_istore_n (lv' := [(1, .int (G.1 0)), (0, .ref h0)]) hx hb dX11_place_7 rfl hl (by decide) rfl (fun ls hl => ?_)
  refine lv_aload_n hx hb dX11_place_8 rfl (lv_at hl 1 rfl) ?_
  refine hg_get hx hb hG igX11 hown hK o_c_1 rfl 9 (by decide) (hG _ mw_366) rfl dX11_place_9 ?_
  refine lv_aload_n hx hb dX11_place_12 rfl (lv_at hl 1 rfl) ?_
  refine hg_get hx hb hG igX11 hown hK o_c_1 rfl 0 (by decide) (hG _ mw_357) rfl dX11_place_13 ?_
  refine lv_aload_n hx hb dX11_place_16 rfl (lv_at hl 1 rfl) ?_
  refine hg_get hx hb hG igX11 hown hK o_c_1 rfl 4 (by decide) (hG _ mw_361) rfl dX11_place_17 ?_
  refine lv_iconst (v := 0) hx hb dX11_place_20 (by decide) ?_
  obtain ⟨_, ⟨q_22, q_23, rfl⟩, o_c_21⟩ := hH (g.2.2 9) _ kq_11
  refine va_calli (va_runV (As := [.ref (g.2.2 0), .ref (g.2.2 4), .int 0]) (rest := []) ⟨hx, hb, hml, hown, hts⟩ (c_X6_walk l g Ty G s.heap.size (g.2.2 9) (g.2.2 0) (g.2.2 4) 0 kq_11 kq_2 kq_6) (cwV 3 hts (gwV mw_569 mw_570 mw_571 mw_83 mw_572) rfl rfl rfl hv_X6_walk ⟨Nat.le_of_ble_eq_true rfl, Nat.le_of_ble_eq_true rfl⟩) ⟨PcT_blind, hg_recv hK o_c_21 rfl, PcT_pre hK hH⟩ rfl rfl hl.1 rfl (lv_room (Nat.le_of_ble_eq_true rfl)) dX11_place_21 ⟨Nat.zero_le _, Nat.zero_le _⟩) hS (fun q _ h => AF.mono hS.1 h) (fun q h => AF.mono hS.1 h) (fun x_24 ux_24 t H locs ht hvm hx_24 hB hz hk hS => ?_)
  have hH : HT g Ty G H := by rw [← ht]; rw [hx_24] at hB; exact hB
  refine lv_istore_n (lv' := [(2, .int x_24), (1, .int (G.1 0)), (0, .ref h0)]) hx hb dX11_place_24 rfl hl (by decide) rfl (fun ls hl => ?_)
  refine lv_aload_n hx hb dX11_place_25 rfl (lv_at hl 2 rfl) ?_
  obtain ⟨_, ⟨q_40, rfl, kq_26, kq_27, kq_28, kq_29, kq_30, kq_31, kq_32, kq_33, kq_34, kq_35, kq_36, kq_37, kq_38, kq_39⟩, o_c_25⟩ := hH h0 _ k_h0
  refine hg_get hx hb hG igX11 hown hK o_c_25 rfl 4 (by decide) (hG _ mw_361) rfl dX11_place_26 ?_
  obtain ⟨_, ⟨q_42, rfl, kq_42, rq_43, t_44⟩, o_c_41⟩ := hH (g.2.2 4) _ kq_30
  refine va_callv (va_runV (As := []) (rest := []) ⟨hx, hb, hml, hown, hts⟩ (c_X9_clear l g Ty G H.size (g.2.2 4) kq_30) (cwV 0 hts (gwV mw_556 mw_557 mw_558 mw_79 mw_559) rfl rfl rfl hv_X9_clear ⟨Nat.le_of_ble_eq_true rfl, Nat.le_of_ble_eq_true rfl⟩) ⟨PcT_blind, hg_recv hK o_c_41 rfl, PcT_pre hK hH⟩ rfl rfl hl.1 rfl (lv_room (Nat.le_of_ble_eq_true rfl)) dX11_place_29 ⟨Nat.zero_le _, Nat.zero_le _⟩) hS (fun q _ h => AF.mono hS.1 h) (fun q h => AF.mono hS.1 h) (fun ux_45 t H locs ht hvm hx_45 hB hz hk hS => ?_)
  obtain ⟨eTx_45, eGx_45⟩ := hx_45
  obtain ⟨G_46, eG_46⟩ : ∃ z, z = ux_45.2 := ⟨_, rfl⟩
  rw [← eG_46] at eGx_45
  have hH : HT g Ty G_46 H := by rw [← ht, ← eTx_45, eG_46]; exact hB
  refine lv_iload_n hx hb dX11_place_32 rfl (lv_at hl 1 rfl) ?_
  refine lv_if_eq (tgt := 41) hx hb dX11_place_33 (by decide) (fun c_47 => ?_) (fun c_47 => ?_)
  · have r_48 : rgI (0) (0) (G.1 0) := rg_w (rg_eq rl_0 c_47) (by decide) (by decide)
    refine lv_iconst (v := (-1)) hx hb dX11_place_41 (by decide) ?_
    refine lv_iload_n hx hb dX11_place_42 rfl (lv_at hl 0 rfl) ?_
    refine lv_isub hx hb dX11_place_43 ?_
    refine lv_topi (fun x_49 ex_49 => ?_)
    exact W.iret hx hb hr (fun t ht hWm => ⟨⟨x_49, (Ty, G_46), rfl, ⟨rfl, TXR.of RLx.rf eGx_45⟩, by show HT g Ty G_46 t.heap; rw [ht]; exact hH⟩, hS.F ht⟩) hS.2.2 dX11_place_44
  · have r_50 : rgI (1) (80) (G.1 0) := rg_w (rg_neL rq_19 rl_0 c_47) (by decide) (by decide)
    refine lv_iload_n hx hb dX11_place_36 rfl (lv_at hl 0 rfl) ?_
    refine lv_iload_n hx hb dX11_place_37 rfl (lv_at hl 1 rfl) ?_
    refine lv_icmp_ge (tgt := 45) hx hb dX11_place_38 (by decide) (fun c_51 => ?_) (fun c_51 => ?_)
    · have r_52 : rgI (1) (2147483647) x_24 := rg_w (rg_leR r_50 (rg_top x_24) c_51) (by decide) (by decide)
      refine lv_aload_n hx hb dX11_place_45 rfl (lv_at hl 2 rfl) ?_
      obtain ⟨_, ⟨q_68, rfl, kq_54, kq_55, kq_56, kq_57, kq_58, kq_59, kq_60, kq_61, kq_62, kq_63, kq_64, kq_65, kq_66, kq_67⟩, o_c_53⟩ := hH h0 _ k_h0
      refine hg_get hx hb hG igX11 hown hK o_c_53 rfl 5 (by decide) (hG _ mw_362) rfl dX11_place_46 ?_
      refine lv_aload_n hx hb dX11_place_49 rfl (lv_at hl 2 rfl) ?_
      refine hg_get hx hb hG igX11 hown hK o_c_53 rfl 0 (by decide) (hG _ mw_357) rfl dX11_place_50 ?_
      refine lv_aload_n hx hb dX11_place_53 rfl (lv_at hl 2 rfl) ?_
      refine hg_get hx hb hG igX11 hown hK o_c_53 rfl 9 (by decide) (hG _ mw_366) rfl dX11_place_54 ?_
      obtain ⟨_, ⟨q_70, q_71, rfl⟩, o_c_69⟩ := hH (g.2.2 9) _ kq_63
      refine hg_getN hx hb hG igX6 hown hK o_c_69 rfl 0 (by decide) ((hK.2.1 _ nwf_256).use rfl) rfl dX11_place_57 ?_
      refine lv_aload_n hx hb dX11_place_60 rfl (lv_at hl 2 rfl) ?_
      refine hg_get hx hb hG igX11 hown hK o_c_53 rfl 9 (by decide) (hG _ mw_366) rfl dX11_place_61 ?_
      refine hg_getN hx hb hG igX6 hown hK o_c_69 rfl 1 (by decide) ((hK.2.1 _ nwf_259).use rfl) rfl dX11_place_64 ?_
      obtain ⟨_, ⟨q_73, q_74, q_75, q_76, q_77, q_78, q_79, rfl, kq_73, kq_74, kq_75⟩, o_c_72⟩ := hH (g.2.2 0) _ kq_54
      refine vp_callSi (W.runV (As := [.int q_70, .int q_71]) (rest := [.ref (g.2.2 5)]) ⟨hx, hb, hml, hown, hts⟩ (c_X10_mountAt l g Ty G_46 (g.2.2 0) q_70 q_71 kq_54) (cwV 2 hts (gwV mw_582 mw_579 mw_580 mw_77 mw_581) rfl rfl rfl hv_X10_mountAt ⟨Nat.le_of_ble_eq_true rfl, Nat.le_of_ble_eq_true rfl⟩) ⟨PcH_blind, hg_recv hK o_c_72 rfl, PcH_pre hK hH⟩ rfl rfl hl.1 rfl (lv_room (Nat.le_of_ble_eq_true rfl)) dX11_place_67 ⟨Nat.zero_le _, Nat.zero_le _⟩) (fun x_80 hx_80 => ?_)
      refine lv_i2l hx hb dX11_place_70 rfl ?_
      refine lv_topl (fun u_81 eu_81 => ?_)
      obtain ⟨_, ⟨q_83, q_84, rfl, kq_83, rq_84⟩, o_c_82⟩ := hH (g.2.2 5) _ kq_59
      refine va_callv (va_runV (As := [.long u_81]) (rest := []) ⟨hx, hb, hml, hown, hts⟩ (c_X7_tell l g Ty G_46 H.size (g.2.2 5) u_81 kq_59) (cwV 1 hts (gwV mw_583 mw_584 mw_585 mw_80 mw_586) rfl rfl rfl hv_X7_tell ⟨Nat.le_of_ble_eq_true rfl, Nat.le_of_ble_eq_true rfl⟩) ⟨PcT_blind, hg_recv hK o_c_82 rfl, PcT_pre hK hH⟩ rfl rfl hl.1 rfl (lv_room (Nat.le_of_ble_eq_true rfl)) dX11_place_71 ⟨Nat.zero_le _, Nat.zero_le _⟩) hS (fun q _ h => AF.mono hS.1 h) (fun q h => AF.mono hS.1 h) (fun ux_85 t H locs ht hvm hx_85 hB hz hk hS => ?_)
      have hH : HT g Ty G_46 H := by rw [← ht]; rw [hx_85] at hB; exact hB
      refine lv_bipush (v := 100) hx hb dX11_place_74 (by decide) ?_
      refine lv_aload_n hx hb dX11_place_76 rfl (lv_at hl 2 rfl) ?_
      obtain ⟨_, ⟨q_101, rfl, kq_87, kq_88, kq_89, kq_90, kq_91, kq_92, kq_93, kq_94, kq_95, kq_96, kq_97, kq_98, kq_99, kq_100⟩, o_c_86⟩ := hH h0 _ k_h0
      refine hg_get hx hb hG igX11 hown hK o_c_86 rfl 9 (by decide) (hG _ mw_366) rfl dX11_place_77 ?_
      obtain ⟨_, ⟨q_103, q_104, rfl⟩, o_c_102⟩ := hH (g.2.2 9) _ kq_96
      refine hg_getN hx hb hG igX6 hown hK o_c_102 rfl 0 (by decide) ((hK.2.1 _ nwf_256).use rfl) rfl dX11_place_80 ?_
      refine lv_imul hx hb dX11_place_83 ?_
      refine lv_topi (fun x_105 ex_105 => ?_)
      refine lv_aload_n hx hb dX11_place_84 rfl (lv_at hl 2 rfl) ?_
      refine hg_get hx hb hG igX11 hown hK o_c_86 rfl 9 (by decide) (hG _ mw_366) rfl dX11_place_85 ?_
      refine hg_getN hx hb hG igX6 hown hK o_c_102 rfl 1 (by decide) ((hK.2.1 _ nwf_259).use rfl) rfl dX11_place_88 ?_
      refine lv_iadd hx hb dX11_place_91 ?_
      refine lv_topi (fun x_106 ex_106 => ?_)
      exact W.iret hx hb hr (fun t ht hWm => ⟨⟨x_106, (Ty, G_46), rfl, ⟨rfl, TXR.of RLx.rf eGx_45⟩, by show HT g Ty G_46 t.heap; rw [ht]; exact hH⟩, hS.F ht⟩) hS.2.2 dX11_place_92
    · have r_107 : rgI (-2147483648) (79) x_24 := rg_w (rg_ltL (rg_top x_24) r_50 (nle_lt c_51)) (by decide) (by decide)
      refine lv_iconst (v := (-1)) hx hb dX11_place_41 (by decide) ?_
      refine lv_iload_n hx hb dX11_place_42 rfl (lv_at hl 0 rfl) ?_
      refine lv_isub hx hb dX11_place_43 ?_
      refine lv_topi (fun x_108 ex_108 => ?_)
      have rx_108 : rgI (-80) (2147483647) x_108 := by rw [ex_108]; exact rg_w (rg_sub rl_m1 r_107 (by decide) (by decide)) (by decide) (by decide)
      exact W.iret hx hb hr (fun t ht hWm => ⟨⟨x_108, (Ty, G_46), rfl, ⟨rfl, TXR.of RLx.rf eGx_45⟩, by show HT g Ty G_46 t.heap; rw [ht]; exact hH⟩, hS.F ht⟩) hS.2.2 dX11_place_44

set_option maxHeartbeats 4000000 in
set_option maxRecDepth 100000 in
theorem c_X11_law (l : Launch) (g : Gx) (Ty : TyM) (G : Gh) (sz : Nat) (h0 : Nat) (a0 : Int32) (a1 : Int32) (k_h0 : Ty h0 = some (21, 0)) : Met l yX11_law (wsG yX11_law cX11_law 6 (some .int)) ({ frames := 9, cells := 0, slots := 0, locals := 204 }) (PcO g Ty G sz [.ref h0, .int a0, .int a1]) (QwI g Ty sz (fun r u => u.1 = Ty ∧ TXR g G u.2)) 0 0 (AF Ty sz) := by
  refine Met.ofW (cc := cX11_law) (maxL := 6) (ret := (some .int)) (by decide) rfl ?_
  intro p e s m args below meth c s₁ B hml hv
  obtain ⟨rfl, hsz, hK, hH, hO⟩ := hv
  subst hsz
  have hx := B.exec
  have hb := B.bytes
  have hr := B.returns
  have hts := atoms_spec (ws := (wsG yX11_law cX11_law 6 (some .int))) B.pre
  have hG : ∀ w ∈ GW, w.before ([.ref h0, .int a0, .int a1] : List Value).toArray s = true := fun w h => hts w (List.mem_cons_of_mem _ h)
  have hown : s.vm.findClass RX11 = some m.cls := findClass_of_methodNamed B.named
  have hlocks := B.notSynchronized
  have hl := lv_entry [.ref h0, .int a0, .int a1] (n := 6) (Nat.le_of_ble_eq_true rfl)
  rw [lg_entry_eq]
  generalize (lg_sl [.ref h0, .int a0, .int a1] ++ List.replicate (6 - (lg_sl [.ref h0, .int a0, .int a1]).length) Slot.unset).toArray = ls at hl ⊢
  have hl : lv_has ls 6 [(0, .ref h0), (1, .int a0), (2, .int a1)] := hl
  have hS : va_S (AF Ty s.heap.size) s.heap s.heap [] := va_S.rf
  refine lv_aload_n hx hb dX11_law_0 rfl (lv_at hl 0 rfl) ?_
  obtain ⟨_, ⟨q_16, rfl, kq_2, kq_3, kq_4, kq_5, kq_6, kq_7, kq_8, kq_9, kq_10, kq_11, kq_12, kq_13, kq_14, kq_15⟩, o_c_1⟩ := hH h0 _ k_h0
  refine hg_get hx hb hG igX11 hown hK o_c_1 rfl 7 (by decide) (hG _ mw_364) rfl dX11_law_1 ?_
  refine lv_aload_n hx hb dX11_law_4 rfl (lv_at hl 0 rfl) ?_
  refine hg_get hx hb hG igX11 hown hK o_c_1 rfl 4 (by decide) (hG _ mw_361) rfl dX11_law_5 ?_
  obtain ⟨_, ⟨q_18, q_19, q_22, q_23, q_25, q_26, q_27, rfl, kq_18, kq_20, kq_26, kq_27, rq_19, rq_22, t_28⟩, o_c_17⟩ := hH (g.2.2 7) _ kq_9
  refine va_calli (va_runV (As := [.ref (g.2.2 4)]) (rest := []) ⟨hx, hb, hml, hown, hts⟩ (c_X8_read l g Ty G s.heap.size (g.2.2 7) (g.2.2 4) kq_9 kq_6) (cwV 1 hts (gwV mw_423 mw_424 mw_425 mw_81 mw_426) rfl rfl rfl hv_X8_read ⟨Nat.le_of_ble_eq_true rfl, Nat.le_of_ble_eq_true rfl⟩) ⟨PcO_blind, hg_recv hK o_c_17 rfl, PcO_pre hK hH hO hS⟩ rfl rfl hl.1 rfl (lv_room (Nat.le_of_ble_eq_true rfl)) dX11_law_8 ⟨Nat.zero_le _, Nat.zero_le _⟩) hS (fun q _ h => AF.mono hS.1 h) (fun q h => AF.mono hS.1 h) (fun x_29 ux_29 t H locs ht hvm hx_29 hB hz hk hS => ?_)
  obtain ⟨eTx_29, eGx_29⟩ := hx_29
  obtain ⟨G_30, eG_30⟩ : ∃ z, z = ux_29.2 := ⟨_, rfl⟩
  rw [← eG_30] at eGx_29
  have hH : HT g Ty G_30 H := by rw [← ht, ← eTx_29, eG_30]; exact hB
  refine lv_istore_n (lv' := [(3, .int x_29), (0, .ref h0), (1, .int a0), (2, .int a1)]) hx hb dX11_law_11 rfl hl (by decide) rfl (fun ls hl => ?_)
  refine lv_aload_n hx hb dX11_law_12 rfl (lv_at hl 1 rfl) ?_
  obtain ⟨_, ⟨q_46, rfl, kq_32, kq_33, kq_34, kq_35, kq_36, kq_37, kq_38, kq_39, kq_40, kq_41, kq_42, kq_43, kq_44, kq_45⟩, o_c_31⟩ := hH h0 _ k_h0
  refine hg_get hx hb hG igX11 hown hK o_c_31 rfl 4 (by decide) (hG _ mw_361) rfl dX11_law_13 ?_
  obtain ⟨_, ⟨q_48, rfl, kq_48, rq_49, t_50⟩, o_c_47⟩ := hH (g.2.2 4) _ kq_36
  refine va_callv (va_runV (As := []) (rest := []) ⟨hx, hb, hml, hown, hts⟩ (c_X9_clear l g Ty G_30 H.size (g.2.2 4) kq_36) (cwV 0 hts (gwV mw_556 mw_557 mw_558 mw_79 mw_559) rfl rfl rfl hv_X9_clear ⟨Nat.le_of_ble_eq_true rfl, Nat.le_of_ble_eq_true rfl⟩) ⟨PcT_blind, hg_recv hK o_c_47 rfl, PcT_pre hK hH⟩ rfl rfl hl.1 rfl (lv_room (Nat.le_of_ble_eq_true rfl)) dX11_law_16 ⟨Nat.zero_le _, Nat.zero_le _⟩) hS (fun q _ h => AF.mono hS.1 h) (fun q h => AF.mono hS.1 h) (fun ux_51 t H locs ht hvm hx_51 hB hz hk hS => ?_)
  obtain ⟨eTx_51, eGx_51⟩ := hx_51
  obtain ⟨G_52, eG_52⟩ : ∃ z, z = ux_51.2 := ⟨_, rfl⟩
  rw [← eG_52] at eGx_51
  have hH : HT g Ty G_52 H := by rw [← ht, ← eTx_51, eG_52]; exact hB
  refine lv_iload_n hx hb dX11_law_19 rfl (lv_at hl 0 rfl) ?_
  refine lv_iconst (v := (-1)) hx hb dX11_law_20 (by decide) ?_
  refine lv_icmp_eq (tgt := 30) hx hb dX11_law_21 (by decide) (fun c_53 => ?_) (fun c_53 => ?_)
  · have r_54 : rgI (-1) (-1) x_29 := rg_w (rg_eq rl_m1 c_53) (by decide) (by decide)
    refine lv_aload_n hx hb dX11_law_30 rfl (lv_at hl 1 rfl) ?_
    obtain ⟨_, ⟨q_70, rfl, kq_56, kq_57, kq_58, kq_59, kq_60, kq_61, kq_62, kq_63, kq_64, kq_65, kq_66, kq_67, kq_68, kq_69⟩, o_c_55⟩ := hH h0 _ k_h0
    refine hg_get hx hb hG igX11 hown hK o_c_55 rfl 0 (by decide) (hG _ mw_357) rfl dX11_law_31 ?_
    refine lv_iload_n hx hb dX11_law_34 rfl (lv_at hl 2 rfl) ?_
    refine lv_iload_n hx hb dX11_law_35 rfl (lv_at hl 3 rfl) ?_
    obtain ⟨_, ⟨q_72, q_73, q_74, q_75, q_76, q_77, q_78, rfl, kq_72, kq_73, kq_74⟩, o_c_71⟩ := hH (g.2.2 0) _ kq_56
    refine vp_callSi (W.runV (As := [.int a0, .int a1]) (rest := []) ⟨hx, hb, hml, hown, hts⟩ (c_X10_hasPlace l g Ty G_52 (g.2.2 0) a0 a1 kq_56) (cwV 2 hts (gwV mw_1145 mw_641 mw_642 mw_77 mw_643) rfl rfl rfl hv_X10_hasPlace ⟨Nat.le_of_ble_eq_true rfl, Nat.le_of_ble_eq_true rfl⟩) ⟨PcH_blind, hg_recv hK o_c_71 rfl, PcH_pre hK hH⟩ rfl rfl hl.1 rfl (lv_room (Nat.le_of_ble_eq_true rfl)) dX11_law_36 ⟨Nat.zero_le _, Nat.zero_le _⟩) (fun x_79 hx_79 => ?_)
    have rx_79 : rgI (0) (1) x_79 := hx_79.1
    refine lv_if_ne (tgt := 45) hx hb dX11_law_39 (by decide) (fun c_80 => ?_) (fun c_80 => ?_)
    · have r_81 : rgI (1) (1) x_79 := rg_w (rg_neL rx_79 rl_0 c_80) (by decide) (by decide)
      have r_82 : rgI (0) (23) a0 := rg_w (hx_79.2.resolve_left c_80) (by decide) (by decide)
      refine lv_aload_n hx hb dX11_law_45 rfl (lv_at hl 1 rfl) ?_
      refine lv_aload_n hx hb dX11_law_46 rfl (lv_at hl 1 rfl) ?_
      refine hg_get hx hb hG igX11 hown hK o_c_55 rfl 7 (by decide) (hG _ mw_364) rfl dX11_law_47 ?_
      refine lv_iload_n hx hb dX11_law_50 rfl (lv_at hl 2 rfl) ?_
      refine lv_iload_n hx hb dX11_law_51 rfl (lv_at hl 3 rfl) ?_
      refine va_calli (va_runV (As := [.ref (g.2.2 7), .int a0, .int a1]) (rest := []) ⟨hx, hb, hml, hown, hts⟩ (c_X11_broughtBy_o l g Ty G_52 H.size h0 (g.2.2 7) a0 a1 k_h0 kq_63) (cwV 3 hts (gwV mw_1146 mw_1148 mw_28 mw_76 mw_1149) rfl rfl rfl hv_X11_broughtBy ⟨Nat.le_of_ble_eq_true rfl, Nat.le_of_ble_eq_true rfl⟩) ⟨PcT_blind, hg_recv hK o_c_55 rfl, PcT_pre hK hH⟩ rfl rfl hl.1 rfl (lv_room (Nat.le_of_ble_eq_true rfl)) dX11_law_52 ⟨Nat.zero_le _, Nat.zero_le _⟩) hS (fun q _ h => AF.mono hS.1 h) (fun q h => AF.mono hS.1 h) (fun x_83 ux_83 t H locs ht hvm hx_83 hB hz hk hS => ?_)
      have hH : HT g Ty G_52 H := by rw [← ht]; rw [hx_83] at hB; exact hB
      refine lv_istore (lv' := [(4, .int x_83), (3, .int x_29), (0, .ref h0), (1, .int a0), (2, .int a1)]) hx hb dX11_law_55 hl (by decide) rfl (fun ls hl => ?_)
      refine lv_aload_n hx hb dX11_law_57 rfl (lv_at hl 2 rfl) ?_
      refine lv_aload_n hx hb dX11_law_58 rfl (lv_at hl 2 rfl) ?_
      obtain ⟨_, ⟨q_99, rfl, kq_85, kq_86, kq_87, kq_88, kq_89, kq_90, kq_91, kq_92, kq_93, kq_94, kq_95, kq_96, kq_97, kq_98⟩, o_c_84⟩ := hH h0 _ k_h0
      refine hg_get hx hb hG igX11 hown hK o_c_84 rfl 6 (by decide) (hG _ mw_363) rfl dX11_law_59 ?_
      refine lv_iload_n hx hb dX11_law_62 rfl (lv_at hl 3 rfl) ?_
      refine lv_iload_n hx hb dX11_law_63 rfl (lv_at hl 4 rfl) ?_
      refine va_calli (va_runV (As := [.ref (g.2.2 6), .int a0, .int a1]) (rest := []) ⟨hx, hb, hml, hown, hts⟩ (c_X11_broughtBy l g Ty G_52 H.size h0 (g.2.2 6) a0 a1 k_h0 kq_91) (cwV 3 hts (gwV mw_1146 mw_1148 mw_28 mw_76 mw_1149) rfl rfl rfl hv_X11_broughtBy ⟨Nat.le_of_ble_eq_true rfl, Nat.le_of_ble_eq_true rfl⟩) ⟨PcT_blind, hg_recv hK o_c_84 rfl, PcT_pre hK hH⟩ rfl rfl hl.1 rfl (lv_room (Nat.le_of_ble_eq_true rfl)) dX11_law_64 ⟨Nat.zero_le _, Nat.zero_le _⟩) hS (fun q _ h => AF.mono hS.1 h) (fun q h => AF.mono hS.1 h) (fun x_100 ux_100 t H locs ht hvm hx_100 hB hz hk hS => ?_)
      have hH : HT g Ty G_52 H := by rw [← ht]; rw [hx_100] at hB; exact hB
      refine lv_istore (lv' := [(5, .int x_100), (4, .int x_83), (3, .int x_29), (0, .ref h0), (1, .int a0), (2, .int a1)]) hx hb dX11_law_67 hl (by decide) rfl (fun ls hl => ?_)
      refine lv_aload_n hx hb dX11_law_69 rfl (lv_at hl 3 rfl) ?_
      obtain ⟨_, ⟨q_116, rfl, kq_102, kq_103, kq_104, kq_105, kq_106, kq_107, kq_108, kq_109, kq_110, kq_111, kq_112, kq_113, kq_114, kq_115⟩, o_c_101⟩ := hH h0 _ k_h0
      refine hg_get hx hb hG igX11 hown hK o_c_101 rfl 5 (by decide) (hG _ mw_362) rfl dX11_law_70 ?_
      refine lv_iload hx hb dX11_law_73 (lv_at hl 1 rfl) ?_
      refine lv_i2l hx hb dX11_law_75 rfl ?_
      refine lv_topl (fun u_117 eu_117 => ?_)
      refine lv_iload hx hb dX11_law_76 (lv_at hl 0 rfl) ?_
      refine lv_i2l hx hb dX11_law_78 rfl ?_
      refine lv_topl (fun u_118 eu_118 => ?_)
      obtain ⟨_, ⟨q_120, q_121, rfl, kq_120, rq_121⟩, o_c_119⟩ := hH (g.2.2 5) _ kq_107
      refine va_callv (va_runV (As := [.long u_117, .long u_118]) (rest := []) ⟨hx, hb, hml, hown, hts⟩ (c_X7_tellTwo l g Ty G_52 H.size (g.2.2 5) u_117 u_118 kq_107) (cwV 2 hts (gwV mw_753 mw_754 mw_755 mw_80 mw_756) rfl rfl rfl hv_X7_tellTwo ⟨Nat.le_of_ble_eq_true rfl, Nat.le_of_ble_eq_true rfl⟩) ⟨PcT_blind, hg_recv hK o_c_119 rfl, PcT_pre hK hH⟩ rfl rfl hl.1 rfl (lv_room (Nat.le_of_ble_eq_true rfl)) dX11_law_79 ⟨Nat.zero_le _, Nat.zero_le _⟩) hS (fun q _ h => AF.mono hS.1 h) (fun q h => AF.mono hS.1 h) (fun ux_122 t H locs ht hvm hx_122 hB hz hk hS => ?_)
      have hH : HT g Ty G_52 H := by rw [← ht]; rw [hx_122] at hB; exact hB
      refine lv_iload hx hb dX11_law_82 (lv_at hl 1 rfl) ?_
      refine lv_iload hx hb dX11_law_84 (lv_at hl 0 rfl) ?_
      refine lv_isub hx hb dX11_law_86 ?_
      refine lv_topi (fun x_123 ex_123 => ?_)
      exact W.iret hx hb hr (fun t ht hWm => ⟨⟨x_123, (Ty, G_52), rfl, ⟨rfl, TXR.of eGx_29 eGx_51⟩, by show HT g Ty G_52 t.heap; rw [ht]; exact hH⟩, hS.F ht⟩) hS.2.2 dX11_law_87
    · have r_124 : rgI (0) (0) x_79 := rg_w (rg_eq rl_0 c_80) (by decide) (by decide)
      refine lv_bipush (v := (-2)) hx hb dX11_law_42 (by decide) ?_
      exact W.iret hx hb hr (fun t ht hWm => ⟨⟨(-2), (Ty, G_52), rfl, ⟨rfl, TXR.of eGx_29 eGx_51⟩, by show HT g Ty G_52 t.heap; rw [ht]; exact hH⟩, hS.F ht⟩) hS.2.2 dX11_law_44
  · refine lv_sipush (v := (-10000)) hx hb dX11_law_24 (by decide) ?_
    refine lv_iload_n hx hb dX11_law_27 rfl (lv_at hl 0 rfl) ?_
    refine lv_isub hx hb dX11_law_28 ?_
    refine lv_topi (fun x_125 ex_125 => ?_)
    exact W.iret hx hb hr (fun t ht hWm => ⟨⟨x_125, (Ty, G_52), rfl, ⟨rfl, TXR.of eGx_29 eGx_51⟩, by show HT g Ty G_52 t.heap; rw [ht]; exact hH⟩, hS.F ht⟩) hS.2.2 dX11_law_29
