set_option maxHeartbeats 4000000 in
set_option maxRecDepth 100000 in
theorem c_X0_heirOf (l : Launch) (g : Gx) (Ty : TyM) (G : Gh) (h0 : Nat) (a0 : Int32) (a1 : Int32) (k_h0 : Ty h0 = some (10, 0)) : Met l yX0_heirOf (wsG yX0_heirOf cX0_heirOf 4 (some .int)) ({ frames := 2, cells := 0, slots := 0, locals := 44 }) (PcH g Ty G [.ref h0, .int a0, .int a1]) (vp_Si (fun r => True)) 0 0 (fun _ => False) := by
  refine Met.ofW (cc := cX0_heirOf) (maxL := 4) (ret := (some .int)) (by decide) rfl ?_
  intro p e s m args below meth c s₁ B hml hv
  obtain ⟨rfl, hK, hH⟩ := hv
  have hx := B.exec
  have hb := B.bytes
  have hr := B.returns
  have hts := atoms_spec (ws := (wsG yX0_heirOf cX0_heirOf 4 (some .int))) B.pre
  have hG : ∀ w ∈ GW, w.before ([.ref h0, .int a0, .int a1] : List Value).toArray s = true := fun w h => hts w (List.mem_cons_of_mem _ h)
  have hown : s.vm.findClass RX0 = some m.cls := findClass_of_methodNamed B.named
  have hlocks := B.notSynchronized
  have hl := lv_entry [.ref h0, .int a0, .int a1] (n := 4) (Nat.le_of_ble_eq_true rfl)
  rw [lg_entry_eq]
  generalize (lg_sl [.ref h0, .int a0, .int a1] ++ List.replicate (4 - (lg_sl [.ref h0, .int a0, .int a1]).length) Slot.unset).toArray = ls at hl ⊢
  have hl : lv_has ls 4 [(0, .ref h0), (1, .int a0), (2, .int a1)] := hl
  refine lv_aload_n hx hb dX0_heirOf_0 rfl (lv_at hl 0 rfl) ?_
  obtain ⟨_, ⟨q_2, q_3, q_4, rfl, kq_2, kq_3, kq_4⟩, o_c_1⟩ := hH h0 _ k_h0
  refine hg_get hx hb hG igX0 hown hK o_c_1 rfl 0 (by decide) (hG _ mw_239) rfl dX0_heirOf_1 ?_
  refine lv_iload_n hx hb dX0_heirOf_4 rfl (lv_at hl 1 rfl) ?_
  refine lv_aload_n hx hb dX0_heirOf_5 rfl (lv_at hl 0 rfl) ?_
  refine hg_get hx hb hG igX0 hown hK o_c_1 rfl 0 (by decide) (hG _ mw_239) rfl dX0_heirOf_6 ?_
  refine lv_iload_n hx hb dX0_heirOf_9 rfl (lv_at hl 2 rfl) ?_
  obtain ⟨_, ⟨q_6, q_7, q_8, q_9, q_10, q_11, q_12, rfl, kq_6, kq_7, kq_8⟩, o_c_5⟩ := hH q_2 _ kq_2
  refine vp_callSi (W.runV (As := [.int a1]) (rest := [.int a0, .ref q_2]) ⟨hx, hb, hml, hown, hts⟩ (c_X10_withGroup l g Ty G q_2 a1 kq_2) (cwV 1 hts (gwV mw_732 mw_659 mw_660 mw_77 mw_661) rfl rfl rfl hv_X10_withGroup ⟨Nat.le_of_ble_eq_true rfl, Nat.le_of_ble_eq_true rfl⟩) ⟨PcH_blind, hg_recv hK o_c_5 rfl, PcH_pre hK hH⟩ rfl rfl hl.1 rfl (lv_room (Nat.le_of_ble_eq_true rfl)) dX0_heirOf_10 ⟨Nat.zero_le _, Nat.zero_le _⟩) (fun x_13 hx_13 => ?_)
  refine lv_iand hx hb dX0_heirOf_13 ?_
  refine lv_topi (fun x_14 ex_14 => ?_)
  refine vp_callSi (W.runV (As := [.int x_14]) (rest := []) ⟨hx, hb, hml, hown, hts⟩ (c_X10_leastOf l g Ty G q_2 x_14 kq_2) (cwV 1 hts (gwV mw_733 mw_654 mw_655 mw_77 mw_656) rfl rfl rfl hv_X10_leastOf ⟨Nat.le_of_ble_eq_true rfl, Nat.le_of_ble_eq_true rfl⟩) ⟨PcH_blind, hg_recv hK o_c_5 rfl, PcH_pre hK hH⟩ rfl rfl hl.1 rfl (lv_room (Nat.le_of_ble_eq_true rfl)) dX0_heirOf_14 ⟨Nat.zero_le _, Nat.zero_le _⟩) (fun x_15 hx_15 => ?_)
  have rx_15 : rgI (0) (24) x_15 := hx_15
  refine lv_istore_n (lv' := [(3, .int x_15), (0, .ref h0), (1, .int a0), (2, .int a1)]) hx hb dX0_heirOf_17 rfl hl (by decide) rfl (fun ls hl => ?_)
  refine lv_iload_n hx hb dX0_heirOf_18 rfl (lv_at hl 0 rfl) ?_
  refine lv_bipush (v := 24) hx hb dX0_heirOf_19 (by decide) ?_
  refine lv_icmp_ge (tgt := 33) hx hb dX0_heirOf_21 (by decide) (fun c_16 => ?_) (fun c_16 => ?_)
  · have r_17 : rgI (24) (24) x_15 := rg_w (rg_leR rl_24 rx_15 c_16) (by decide) (by decide)
    refine lv_iconst (v := 0) hx hb dX0_heirOf_33 (by decide) ?_
    exact W.iret hx hb hr (fun t ht hW => ⟨0, rfl, trivial, ht⟩) (fun q h => by cases h) dX0_heirOf_34
  · have r_18 : rgI (0) (23) x_15 := rg_w (rg_ltL rx_15 rl_24 (nle_lt c_16)) (by decide) (by decide)
    refine lv_aload_n hx hb dX0_heirOf_24 rfl (lv_at hl 1 rfl) ?_
    refine hg_get hx hb hG igX0 hown hK o_c_1 rfl 2 (by decide) (hG _ mw_241) rfl dX0_heirOf_25 ?_
    refine lv_iload_n hx hb dX0_heirOf_28 rfl (lv_at hl 0 rfl) ?_
    obtain ⟨_, ⟨f_20, rfl⟩, o_c_19⟩ := hH q_4 _ kq_4
    refine hg_iald hx hb hK o_c_19 (rg_in (n := 24) r_18 (by decide) (by decide)) dX0_heirOf_29 ?_
    refine lv_topi (fun x_21 ex_21 => ?_)
    refine lv_goto (tgt := 34) hx hb dX0_heirOf_30 (by decide) ?_
    exact W.iret hx hb hr (fun t ht hW => ⟨x_21, rfl, trivial, ht⟩) (fun q h => by cases h) dX0_heirOf_34

set_option maxHeartbeats 4000000 in
set_option maxRecDepth 100000 in
theorem c_X0_nameHeirs (l : Launch) (g : Gx) (Ty : TyM) (G : Gh) (sz : Nat) (h0 : Nat) (a0 : Int32) (a1 : Int32) (a2 : Int32) (k_h0 : Ty h0 = some (10, 0)) : Met l yX0_nameHeirs (wsG yX0_nameHeirs cX0_nameHeirs 7 none) ({ frames := 3, cells := 0, slots := 0, locals := 67 }) (PcT g Ty G sz [.ref h0, .int a0, .int a1, .int a2]) (QwV g Ty sz (fun u => u = (Ty, G))) 0 0 (AF Ty sz) := by
  refine Met.ofW (cc := cX0_nameHeirs) (maxL := 7) (ret := none) (by decide) rfl ?_
  intro p e s m args below meth c s₁ B hml hv
  obtain ⟨rfl, hsz, hK, hH⟩ := hv
  subst hsz
  have hx := B.exec
  have hb := B.bytes
  have hr := B.returns
  have hts := atoms_spec (ws := (wsG yX0_nameHeirs cX0_nameHeirs 7 none)) B.pre
  have hG : ∀ w ∈ GW, w.before ([.ref h0, .int a0, .int a1, .int a2] : List Value).toArray s = true := fun w h => hts w (List.mem_cons_of_mem _ h)
  have hown : s.vm.findClass RX0 = some m.cls := findClass_of_methodNamed B.named
  have hlocks := B.notSynchronized
  have hl := lv_entry [.ref h0, .int a0, .int a1, .int a2] (n := 7) (Nat.le_of_ble_eq_true rfl)
  rw [lg_entry_eq]
  generalize (lg_sl [.ref h0, .int a0, .int a1, .int a2] ++ List.replicate (7 - (lg_sl [.ref h0, .int a0, .int a1, .int a2]).length) Slot.unset).toArray = ls at hl ⊢
  have hl : lv_has ls 7 [(0, .ref h0), (1, .int a0), (2, .int a1), (3, .int a2)] := hl
  have hS : va_S (AF Ty s.heap.size) s.heap s.heap [] := va_S.rf
  have L_3 : ∀ (n : Nat) (H : Heap) (locs : List Loc) (y4_3 : Int32) (ls : Array Slot), rgI (0) (24) y4_3 → (24 - (y4_3).toInt).toNat < n → lv_has ls 7 [(0, .ref h0), (1, .int a0), (2, .int a1), (3, .int a2), (4, .int y4_3)] → HT g Ty G H → va_S (AF Ty s.heap.size) s.heap H locs → Wm p l e (wsG yX0_nameHeirs cX0_nameHeirs 7 none) ({ frames := 3, cells := 0, slots := 0, locals := 67 }) s m [.ref h0, .int a0, .int a1, .int a2] below meth c H locs (0) (0) (QwV g Ty s.heap.size (fun u => u = (Ty, G))) 0 0 (AF Ty s.heap.size) (F0 m 3 ls []) := by
    intro n
    induction n with
    | zero => intro H locs y4_3 ls ry4_3 hm; exact absurd hm (Nat.not_lt_zero _)
    | succ n ih_3 =>
      intro H locs y4_3 ls ry4_3 hm_3 hl hH hS
      have L_93 : ∀ (H : Heap) (locs : List Loc) (ls : Array Slot), rgI (0) (23) y4_3 → lv_has ls 7 [(0, .ref h0), (1, .int a0), (2, .int a1), (3, .int a2), (4, .int y4_3)] → HT g Ty G H → va_S (AF Ty s.heap.size) s.heap H locs → Wm p l e (wsG yX0_nameHeirs cX0_nameHeirs 7 none) ({ frames := 3, cells := 0, slots := 0, locals := 67 }) s m [.ref h0, .int a0, .int a1, .int a2] below meth c H locs (0) (0) (QwV g Ty s.heap.size (fun u => u = (Ty, G))) 0 0 (AF Ty s.heap.size) (F0 m 93 ls []) := by
        intro H locs ls ry4_93 hl hH hS
        obtain ⟨x_1, ex_1⟩ : ∃ y : Int32, y = y4_3 + 1 := ⟨_, rfl⟩
        have rx_1 : rgI (1) (24) x_1 := by rw [ex_1]; exact rg_w (rg_add ry4_93 rl_1 (by decide) (by decide)) (by decide) (by decide)
        have qx_1 : x_1.toInt = (y4_3 : Int32).toInt + 1 := by rw [ex_1]; exact rg_addE ry4_93 rl_1 (by decide) (by decide)
        refine lv_iinc (v := x_1) (lv' := [(4, .int x_1), (0, .ref h0), (1, .int a0), (2, .int a1), (3, .int a2)]) hx hb dX0_nameHeirs_93 hl (k := 4) rfl (by rw [ex_1]; rfl) (by decide) rfl (fun ls hl => ?_)
        refine lv_goto (tgt := 3) hx hb dX0_nameHeirs_96 (by decide) ?_
        exact ih_3 H locs x_1 ls (rg_w rx_1 (by decide) (by decide)) (by have h1 := qx_1; have h2 := ry4_93.1; have h3 := ry4_93.2; have h4 := hm_3; omega) (lv_sub hl [1, 2, 3, 4, 0] rfl) hH hS
      have L_92 : ∀ (H : Heap) (locs : List Loc) (z0_92 : Int32) (z2_92 : Nat) (ls : Array Slot), rgI (0) (23) y4_3 → rgI (0) (23) y4_3 → Ty z2_92 = some (0, 24) → lv_has ls 7 [(0, .ref h0), (1, .int a0), (2, .int a1), (3, .int a2), (4, .int y4_3)] → HT g Ty G H → va_S (AF Ty s.heap.size) s.heap H locs → Wm p l e (wsG yX0_nameHeirs cX0_nameHeirs 7 none) ({ frames := 3, cells := 0, slots := 0, locals := 67 }) s m [.ref h0, .int a0, .int a1, .int a2] below meth c H locs (0) (0) (QwV g Ty s.heap.size (fun u => u = (Ty, G))) 0 0 (AF Ty s.heap.size) (F0 m 92 ls [.int z0_92, .int y4_3, .ref z2_92]) := by
        intro H locs z0_92 z2_92 ls ry4_92 rz1_92 kz2_92 hl hH hS
        obtain ⟨_, ⟨f_3, rfl⟩, o_c_2⟩ := hH z2_92 _ kz2_92
        refine hg_iast hx hb hK hS o_c_2 (AF.of kz2_92) (rg_in (n := 24) rz1_92 (by decide) (by decide)) dX0_nameHeirs_92 (fun H locs o_c_2 hz oq hS => ?_)
        generalize hff_4 : upd f_3 _ z0_92 = f_4 at o_c_2
        have hH : HT g Ty G H := hH.put kz2_92 ⟨_, rfl⟩ o_c_2 oq
        clear oq hz
        exact L_93 H locs ls ry4_92 (lv_sub hl [0, 1, 2, 3, 4] rfl) hH hS
      have L_67 : ∀ (H : Heap) (locs : List Loc) (z0_67 : Int32) (ls : Array Slot), rgI (0) (23) y4_3 → lv_has ls 7 [(0, .ref h0), (1, .int a0), (2, .int a1), (3, .int a2), (4, .int y4_3)] → HT g Ty G H → va_S (AF Ty s.heap.size) s.heap H locs → Wm p l e (wsG yX0_nameHeirs cX0_nameHeirs 7 none) ({ frames := 3, cells := 0, slots := 0, locals := 67 }) s m [.ref h0, .int a0, .int a1, .int a2] below meth c H locs (0) (0) (QwV g Ty s.heap.size (fun u => u = (Ty, G))) 0 0 (AF Ty s.heap.size) (F0 m 67 ls [.int z0_67]) := by
        intro H locs z0_67 ls ry4_67 hl hH hS
        refine lv_istore (lv' := [(6, .int z0_67), (0, .ref h0), (1, .int a0), (2, .int a1), (3, .int a2), (4, .int y4_3)]) hx hb dX0_nameHeirs_67 hl (by decide) rfl (fun ls hl => ?_)
        refine lv_aload_n hx hb dX0_nameHeirs_69 rfl (lv_at hl 1 rfl) ?_
        obtain ⟨_, ⟨q_6, q_7, q_8, rfl, kq_6, kq_7, kq_8⟩, o_c_5⟩ := hH h0 _ k_h0
        refine hg_get hx hb hG igX0 hown hK o_c_5 rfl 2 (by decide) (hG _ mw_241) rfl dX0_nameHeirs_70 ?_
        refine lv_iload hx hb dX0_nameHeirs_73 (lv_at hl 5 rfl) ?_
        refine lv_iload hx hb dX0_nameHeirs_75 (lv_at hl 0 rfl) ?_
        refine lv_if_eq (tgt := 85) hx hb dX0_nameHeirs_77 (by decide) (fun c_9 => ?_) (fun c_9 => ?_)
        · have r_10 : rgI (0) (0) z0_67 := rg_w (rg_eq rl_0 c_9) (by decide) (by decide)
          refine lv_aload_n hx hb dX0_nameHeirs_85 rfl (lv_at hl 1 rfl) ?_
          refine hg_get hx hb hG igX0 hown hK o_c_5 rfl 0 (by decide) (hG _ mw_239) rfl dX0_nameHeirs_86 ?_
          obtain ⟨_, ⟨q_12, q_13, q_14, q_15, q_16, q_17, q_18, rfl, kq_12, kq_13, kq_14⟩, o_c_11⟩ := hH q_6 _ kq_6
          refine va_calli (va_runV (As := []) (rest := [.int y4_3, .ref q_8]) ⟨hx, hb, hml, hown, hts⟩ (c_X10_newGroup l g Ty G H.size q_6 kq_6) (cwV 0 hts (gwV mw_720 mw_721 mw_722 mw_77 mw_723) rfl rfl rfl hv_X10_newGroup ⟨Nat.le_of_ble_eq_true rfl, Nat.le_of_ble_eq_true rfl⟩) ⟨PcT_blind, hg_recv hK o_c_11 rfl, PcT_pre hK hH⟩ rfl rfl hl.1 rfl (lv_room (Nat.le_of_ble_eq_true rfl)) dX0_nameHeirs_89 ⟨Nat.zero_le _, Nat.zero_le _⟩) hS (fun q _ h => AF.mono hS.1 h) (fun q h => AF.mono hS.1 h) (fun x_19 ux_19 t H locs ht hvm hx_19 hB hz hk hS => ?_)
          have hH : HT g Ty G H := by rw [← ht]; rw [hx_19] at hB; exact hB
          exact L_92 H locs x_19 q_8 ls ry4_67 ry4_67 kq_8 (lv_sub hl [1, 2, 3, 4, 5] rfl) hH hS
        · refine lv_iload hx hb dX0_nameHeirs_80 (lv_at hl 0 rfl) ?_
          refine lv_goto (tgt := 92) hx hb dX0_nameHeirs_82 (by decide) ?_
          exact L_92 H locs z0_67 q_8 ls ry4_67 ry4_67 kq_8 (lv_sub hl [1, 2, 3, 4, 5] rfl) hH hS
      refine lv_iload hx hb dX0_nameHeirs_3 (lv_at hl 4 rfl) ?_
      refine lv_bipush (v := 24) hx hb dX0_nameHeirs_5 (by decide) ?_
      refine lv_icmp_ge (tgt := 99) hx hb dX0_nameHeirs_7 (by decide) (fun c_20 => ?_) (fun c_20 => ?_)
      · have r_21 : rgI (24) (24) y4_3 := rg_w (rg_leR rl_24 ry4_3 c_20) (by decide) (by decide)
        exact W.vret hx hb hr (fun t ht hWm => ⟨⟨(Ty, G), rfl, rfl, by show HT g Ty G t.heap; rw [ht]; exact hH⟩, hS.F ht⟩) hS.2.2 dX0_nameHeirs_99
      · have r_22 : rgI (0) (23) y4_3 := rg_w (rg_ltL ry4_3 rl_24 (nle_lt c_20)) (by decide) (by decide)
        refine lv_aload_n hx hb dX0_nameHeirs_10 rfl (lv_at hl 0 rfl) ?_
        obtain ⟨_, ⟨q_24, q_25, q_26, rfl, kq_24, kq_25, kq_26⟩, o_c_23⟩ := hH h0 _ k_h0
        refine hg_get hx hb hG igX0 hown hK o_c_23 rfl 2 (by decide) (hG _ mw_241) rfl dX0_nameHeirs_11 ?_
        refine lv_iload hx hb dX0_nameHeirs_14 (lv_at hl 4 rfl) ?_
        refine lv_iconst (v := 0) hx hb dX0_nameHeirs_16 (by decide) ?_
        obtain ⟨_, ⟨f_28, rfl⟩, o_c_27⟩ := hH q_26 _ kq_26
        refine hg_iast hx hb hK hS o_c_27 (AF.of kq_26) (rg_in (n := 24) r_22 (by decide) (by decide)) dX0_nameHeirs_17 (fun H locs o_c_27 hz oq hS => ?_)
        generalize hff_29 : upd f_28 _ 0 = f_29 at o_c_27
        have hH : HT g Ty G H := hH.put kq_26 ⟨_, rfl⟩ o_c_27 oq
        have o_c_23 := o_c_23.kept (oq _ (ne_kd k_h0 kq_26 (by decide)))
        clear oq hz
        refine lv_aload_n hx hb dX0_nameHeirs_18 rfl (lv_at hl 0 rfl) ?_
        refine hg_get hx hb hG igX0 hown hK o_c_23 rfl 0 (by decide) (hG _ mw_239) rfl dX0_nameHeirs_19 ?_
        refine lv_iload hx hb dX0_nameHeirs_22 (lv_at hl 4 rfl) ?_
        obtain ⟨_, ⟨q_31, q_32, q_33, q_34, q_35, q_36, q_37, rfl, kq_31, kq_32, kq_33⟩, o_c_30⟩ := hH q_24 _ kq_24
        refine vp_callSi (W.runV (As := [.int y4_3]) (rest := []) ⟨hx, hb, hml, hown, hts⟩ (c_X10_groupOf l g Ty G q_24 y4_3 kq_24) (cwV 1 hts (gwV mw_718 mw_608 mw_609 mw_77 mw_610) rfl rfl rfl hv_X10_groupOf ⟨Nat.le_of_ble_eq_true rfl, Nat.le_of_ble_eq_true rfl⟩) ⟨PcH_blind, hg_recv hK o_c_30 rfl, PcH_pre hK hH⟩ rfl rfl hl.1 rfl (lv_room (Nat.le_of_ble_eq_true rfl)) dX0_nameHeirs_24 ⟨Nat.zero_le _, Nat.zero_le _⟩) (fun x_38 hx_38 => ?_)
        refine lv_istore (lv' := [(5, .int x_38), (0, .ref h0), (1, .int a0), (2, .int a1), (3, .int a2), (4, .int y4_3)]) hx hb dX0_nameHeirs_27 hl (by decide) rfl (fun ls hl => ?_)
        refine lv_iload_n hx hb dX0_nameHeirs_29 rfl (lv_at hl 2 rfl) ?_
        refine lv_iconst (v := 1) hx hb dX0_nameHeirs_30 (by decide) ?_
        refine lv_iload hx hb dX0_nameHeirs_31 (lv_at hl 5 rfl) ?_
        refine lv_ishl hx hb dX0_nameHeirs_33 ?_
        refine lv_topi (fun x_39 ex_39 => ?_)
        refine lv_iand hx hb dX0_nameHeirs_34 ?_
        refine lv_topi (fun x_40 ex_40 => ?_)
        refine lv_if_eq (tgt := 93) hx hb dX0_nameHeirs_35 (by decide) (fun c_41 => ?_) (fun c_41 => ?_)
        · have r_42 : rgI (0) (0) x_40 := rg_w (rg_eq rl_0 c_41) (by decide) (by decide)
          exact L_93 H locs ls r_22 (lv_sub hl [1, 2, 3, 4, 5] rfl) hH hS
        · refine lv_iload hx hb dX0_nameHeirs_38 (lv_at hl 0 rfl) ?_
          refine lv_if_eq (tgt := 93) hx hb dX0_nameHeirs_40 (by decide) (fun c_43 => ?_) (fun c_43 => ?_)
          · have r_44 : rgI (0) (0) x_38 := rg_w (rg_eq rl_0 c_43) (by decide) (by decide)
            exact L_93 H locs ls r_22 (lv_sub hl [1, 2, 3, 4, 5] rfl) hH hS
          · refine lv_iload hx hb dX0_nameHeirs_43 (lv_at hl 0 rfl) ?_
            refine lv_iload_n hx hb dX0_nameHeirs_45 rfl (lv_at hl 3 rfl) ?_
            refine lv_icmp_ne (tgt := 53) hx hb dX0_nameHeirs_46 (by decide) (fun c_45 => ?_) (fun c_45 => ?_)
            · refine lv_aload_n hx hb dX0_nameHeirs_53 rfl (lv_at hl 1 rfl) ?_
              refine lv_iload_n hx hb dX0_nameHeirs_54 rfl (lv_at hl 2 rfl) ?_
              refine lv_iconst (v := 1) hx hb dX0_nameHeirs_55 (by decide) ?_
              refine lv_iload hx hb dX0_nameHeirs_56 (lv_at hl 5 rfl) ?_
              refine lv_ishl hx hb dX0_nameHeirs_58 ?_
              refine lv_topi (fun x_46 ex_46 => ?_)
              refine lv_iconst (v := 1) hx hb dX0_nameHeirs_59 (by decide) ?_
              refine lv_isub hx hb dX0_nameHeirs_60 ?_
              refine lv_topi (fun x_47 ex_47 => ?_)
              refine lv_iand hx hb dX0_nameHeirs_61 ?_
              refine lv_topi (fun x_48 ex_48 => ?_)
              refine lv_iload hx hb dX0_nameHeirs_62 (lv_at hl 0 rfl) ?_
              refine vp_callSi (W.runV (As := [.int x_48, .int x_38]) (rest := []) ⟨hx, hb, hml, hown, hts⟩ (c_X0_heirOf l g Ty G h0 x_48 x_38 k_h0) (cwV 2 hts (gwV mw_728 mw_730 mw_14 mw_82 mw_731) rfl rfl rfl hv_X0_heirOf ⟨Nat.le_of_ble_eq_true rfl, Nat.le_of_ble_eq_true rfl⟩) ⟨PcH_blind, hg_recv hK o_c_23 rfl, PcH_pre hK hH⟩ rfl rfl hl.1 rfl (lv_room (Nat.le_of_ble_eq_true rfl)) dX0_nameHeirs_64 ⟨Nat.zero_le _, Nat.zero_le _⟩) (fun x_49 hx_49 => ?_)
              exact L_67 H locs x_49 ls r_22 (lv_sub hl [1, 2, 3, 4, 5] rfl) hH hS
            · refine lv_iload_n hx hb dX0_nameHeirs_49 rfl (lv_at hl 4 rfl) ?_
              refine lv_goto (tgt := 67) hx hb dX0_nameHeirs_50 (by decide) ?_
              exact L_67 H locs a2 ls r_22 (lv_sub hl [1, 2, 3, 4, 5] rfl) hH hS
  refine lv_iconst (v := 0) hx hb dX0_nameHeirs_0 (by decide) ?_
  refine lv_istore (lv' := [(4, .int 0), (0, .ref h0), (1, .int a0), (2, .int a1), (3, .int a2)]) hx hb dX0_nameHeirs_1 hl (by decide) rfl (fun ls hl => ?_)
  exact L_3 _ s.heap [] 0 ls (rg_w rl_0 (by decide) (by decide)) (Nat.lt_succ_self _) (lv_sub hl [1, 2, 3, 4, 0] rfl) hH hS

set_option maxHeartbeats 4000000 in
set_option maxRecDepth 100000 in
theorem c_X0_parentsBy (l : Launch) (g : Gx) (Ty : TyM) (G : Gh) (sz : Nat) (h0 : Nat) (b0 : Nat) (a1 : Int32) (a2 : Int32) (k_h0 : Ty h0 = some (10, 0)) (k_b0 : Ty b0 = some (18, 0)) : Met l yX0_parentsBy (wsG yX0_parentsBy cX0_parentsBy 6 (some .int)) ({ frames := 4, cells := 0, slots := 0, locals := 92 }) (PcT g Ty G sz [.ref h0, .ref b0, .int a1, .int a2]) (QwI g Ty sz (fun r u => u = (Ty, G))) 0 0 (AF Ty sz) := by
  refine Met.ofW (cc := cX0_parentsBy) (maxL := 6) (ret := (some .int)) (by decide) rfl ?_
  intro p e s m args below meth c s₁ B hml hv
  obtain ⟨rfl, hsz, hK, hH⟩ := hv
  subst hsz
  have hx := B.exec
  have hb := B.bytes
  have hr := B.returns
  have hts := atoms_spec (ws := (wsG yX0_parentsBy cX0_parentsBy 6 (some .int))) B.pre
  have hG : ∀ w ∈ GW, w.before ([.ref h0, .ref b0, .int a1, .int a2] : List Value).toArray s = true := fun w h => hts w (List.mem_cons_of_mem _ h)
  have hown : s.vm.findClass RX0 = some m.cls := findClass_of_methodNamed B.named
  have hlocks := B.notSynchronized
  have hl := lv_entry [.ref h0, .ref b0, .int a1, .int a2] (n := 6) (Nat.le_of_ble_eq_true rfl)
  rw [lg_entry_eq]
  generalize (lg_sl [.ref h0, .ref b0, .int a1, .int a2] ++ List.replicate (6 - (lg_sl [.ref h0, .ref b0, .int a1, .int a2]).length) Slot.unset).toArray = ls at hl ⊢
  have hl : lv_has ls 6 [(0, .ref h0), (1, .ref b0), (2, .int a1), (3, .int a2)] := hl
  have hS : va_S (AF Ty s.heap.size) s.heap s.heap [] := va_S.rf
  refine lv_aload_n hx hb dX0_parentsBy_0 rfl (lv_at hl 0 rfl) ?_
  obtain ⟨_, ⟨q_2, q_3, q_4, rfl, kq_2, kq_3, kq_4⟩, o_c_1⟩ := hH h0 _ k_h0
  refine hg_get hx hb hG igX0 hown hK o_c_1 rfl 0 (by decide) (hG _ mw_239) rfl dX0_parentsBy_1 ?_
  refine lv_iload_n hx hb dX0_parentsBy_4 rfl (lv_at hl 2 rfl) ?_
  refine lv_iload_n hx hb dX0_parentsBy_5 rfl (lv_at hl 3 rfl) ?_
  obtain ⟨_, ⟨q_6, q_7, q_8, q_9, q_10, q_11, q_12, rfl, kq_6, kq_7, kq_8⟩, o_c_5⟩ := hH q_2 _ kq_2
  refine vp_callSi (W.runV (As := [.int a1, .int a2]) (rest := []) ⟨hx, hb, hml, hown, hts⟩ (c_X10_hasPlace l g Ty G q_2 a1 a2 kq_2) (cwV 2 hts (gwV mw_640 mw_641 mw_642 mw_77 mw_643) rfl rfl rfl hv_X10_hasPlace ⟨Nat.le_of_ble_eq_true rfl, Nat.le_of_ble_eq_true rfl⟩) ⟨PcH_blind, hg_recv hK o_c_5 rfl, PcH_pre hK hH⟩ rfl rfl hl.1 rfl (lv_room (Nat.le_of_ble_eq_true rfl)) dX0_parentsBy_6 ⟨Nat.zero_le _, Nat.zero_le _⟩) (fun x_13 hx_13 => ?_)
  have rx_13 : rgI (0) (1) x_13 := hx_13.1
  refine lv_if_ne (tgt := 14) hx hb dX0_parentsBy_9 (by decide) (fun c_14 => ?_) (fun c_14 => ?_)
  · have r_15 : rgI (1) (1) x_13 := rg_w (rg_neL rx_13 rl_0 c_14) (by decide) (by decide)
    have r_16 : rgI (0) (23) a1 := rg_w (hx_13.2.resolve_left c_14) (by decide) (by decide)
    refine lv_aload_n hx hb dX0_parentsBy_14 rfl (lv_at hl 0 rfl) ?_
    refine hg_get hx hb hG igX0 hown hK o_c_1 rfl 0 (by decide) (hG _ mw_239) rfl dX0_parentsBy_15 ?_
    refine lv_iload_n hx hb dX0_parentsBy_18 rfl (lv_at hl 3 rfl) ?_
    refine vp_callSi (W.runV (As := [.int a2]) (rest := []) ⟨hx, hb, hml, hown, hts⟩ (c_X10_takenAt l g Ty G q_2 a2 kq_2) (cwV 1 hts (gwV mw_645 mw_646 mw_647 mw_77 mw_648) rfl rfl rfl hv_X10_takenAt ⟨Nat.le_of_ble_eq_true rfl, Nat.le_of_ble_eq_true rfl⟩) ⟨PcH_blind, hg_recv hK o_c_5 rfl, PcH_pre hK hH⟩ rfl rfl hl.1 rfl (lv_room (Nat.le_of_ble_eq_true rfl)) dX0_parentsBy_19 ⟨Nat.zero_le _, Nat.zero_le _⟩) (fun x_17 hx_17 => ?_)
    refine lv_istore (lv' := [(4, .int x_17), (0, .ref h0), (1, .ref b0), (2, .int a1), (3, .int a2)]) hx hb dX0_parentsBy_22 hl (by decide) rfl (fun ls hl => ?_)
    refine lv_iload hx hb dX0_parentsBy_24 (lv_at hl 0 rfl) ?_
    refine lv_iconst (v := 1) hx hb dX0_parentsBy_26 (by decide) ?_
    refine lv_iload_n hx hb dX0_parentsBy_27 rfl (lv_at hl 3 rfl) ?_
    refine lv_ishl hx hb dX0_parentsBy_28 ?_
    refine lv_topi (fun x_18 ex_18 => ?_)
    refine lv_iand hx hb dX0_parentsBy_29 ?_
    refine lv_topi (fun x_19 ex_19 => ?_)
    refine lv_if_eq (tgt := 36) hx hb dX0_parentsBy_30 (by decide) (fun c_20 => ?_) (fun c_20 => ?_)
    · have r_21 : rgI (0) (0) x_19 := rg_w (rg_eq rl_0 c_20) (by decide) (by decide)
      refine lv_aload_n hx hb dX0_parentsBy_36 rfl (lv_at hl 1 rfl) ?_
      refine hg_get hx hb hG igX0 hown hK o_c_1 rfl 0 (by decide) (hG _ mw_239) rfl dX0_parentsBy_37 ?_
      refine lv_iload_n hx hb dX0_parentsBy_40 rfl (lv_at hl 3 rfl) ?_
      refine vp_callSi (W.runV (As := [.int a1]) (rest := []) ⟨hx, hb, hml, hown, hts⟩ (c_X10_spreadOf l g Ty G q_2 a1 kq_2) (cwV 1 hts (gwV mw_649 mw_650 mw_651 mw_77 mw_652) rfl rfl rfl hv_X10_spreadOf ⟨Nat.le_of_ble_eq_true rfl, Nat.le_of_ble_eq_true rfl⟩) ⟨PcH_blind, hg_recv hK o_c_5 rfl, PcH_pre hK hH⟩ rfl rfl hl.1 rfl (lv_room (Nat.le_of_ble_eq_true rfl)) dX0_parentsBy_41 ⟨Nat.zero_le _, Nat.zero_le _⟩) (fun x_22 hx_22 => ?_)
      refine lv_aload_n hx hb dX0_parentsBy_44 rfl (lv_at hl 2 rfl) ?_
      refine lv_aload_n hx hb dX0_parentsBy_45 rfl (lv_at hl 1 rfl) ?_
      refine hg_get hx hb hG igX0 hown hK o_c_1 rfl 0 (by decide) (hG _ mw_239) rfl dX0_parentsBy_46 ?_
      refine lv_iload_n hx hb dX0_parentsBy_49 rfl (lv_at hl 4 rfl) ?_
      obtain ⟨_, ⟨q_24, q_25, q_26, q_27, q_28, q_29, q_30, q_31, q_32, q_33, rfl, kq_24, kq_26, kq_32, kq_33, rq_25, rq_28⟩, o_c_23⟩ := hH b0 _ k_b0
      refine va_calli (va_runV (As := [.ref q_2, .int a2]) (rest := [.int x_22]) ⟨hx, hb, hml, hown, hts⟩ (c_X8_letting l g Ty G s.heap.size b0 q_2 a2 k_b0 kq_2) (cwV 2 hts (gwV mw_669 mw_670 mw_671 mw_81 mw_672) rfl rfl rfl hv_X8_letting ⟨Nat.le_of_ble_eq_true rfl, Nat.le_of_ble_eq_true rfl⟩) ⟨PcT_blind, hg_recv hK o_c_23 rfl, PcT_pre hK hH⟩ rfl rfl hl.1 rfl (lv_room (Nat.le_of_ble_eq_true rfl)) dX0_parentsBy_50 ⟨Nat.zero_le _, Nat.zero_le _⟩) hS (fun q _ h => AF.mono hS.1 h) (fun q h => AF.mono hS.1 h) (fun x_34 ux_34 t H locs ht hvm hx_34 hB hz hk hS => ?_)
      have hH : HT g Ty G H := by rw [← ht]; rw [hx_34] at hB; exact hB
      refine lv_iand hx hb dX0_parentsBy_53 ?_
      refine lv_topi (fun x_35 ex_35 => ?_)
      refine lv_iload hx hb dX0_parentsBy_54 (lv_at hl 0 rfl) ?_
      refine lv_iconst (v := (-1)) hx hb dX0_parentsBy_56 (by decide) ?_
      refine lv_ixor hx hb dX0_parentsBy_57 ?_
      refine lv_topi (fun x_36 ex_36 => ?_)
      refine lv_iand hx hb dX0_parentsBy_58 ?_
      refine lv_topi (fun x_37 ex_37 => ?_)
      refine lv_iconst (v := 1) hx hb dX0_parentsBy_59 (by decide) ?_
      refine lv_iload_n hx hb dX0_parentsBy_60 rfl (lv_at hl 3 rfl) ?_
      refine lv_ishl hx hb dX0_parentsBy_61 ?_
      refine lv_topi (fun x_38 ex_38 => ?_)
      refine lv_ior hx hb dX0_parentsBy_62 ?_
      refine lv_topi (fun x_39 ex_39 => ?_)
      refine lv_istore (lv' := [(5, .int x_39), (4, .int x_17), (0, .ref h0), (1, .ref b0), (2, .int a1), (3, .int a2)]) hx hb dX0_parentsBy_63 hl (by decide) rfl (fun ls hl => ?_)
      refine lv_aload_n hx hb dX0_parentsBy_65 rfl (lv_at hl 2 rfl) ?_
      obtain ⟨_, ⟨q_41, q_42, q_43, rfl, kq_41, kq_42, kq_43⟩, o_c_40⟩ := hH h0 _ k_h0
      refine hg_get hx hb hG igX0 hown hK o_c_40 rfl 0 (by decide) (hG _ mw_239) rfl dX0_parentsBy_66 ?_
      obtain ⟨_, ⟨q_45, q_46, q_47, q_48, q_49, q_50, q_51, rfl, kq_45, kq_46, kq_47⟩, o_c_44⟩ := hH q_41 _ kq_41
      refine vp_callSi (W.runV (As := []) (rest := []) ⟨hx, hb, hml, hown, hts⟩ (c_X10_size l g Ty G q_41 kq_41) (cwV 0 hts (gwV mw_708 mw_709 mw_710 mw_77 mw_711) rfl rfl rfl hv_X10_size ⟨Nat.le_of_ble_eq_true rfl, Nat.le_of_ble_eq_true rfl⟩) ⟨PcH_blind, hg_recv hK o_c_44 rfl, PcH_pre hK hH⟩ rfl rfl hl.1 rfl (lv_room (Nat.le_of_ble_eq_true rfl)) dX0_parentsBy_69 ⟨Nat.zero_le _, Nat.zero_le _⟩) (fun x_52 hx_52 => ?_)
      refine lv_iload hx hb dX0_parentsBy_72 (lv_at hl 0 rfl) ?_
      refine vp_callSi (W.runS (As := [.int x_39]) (rest := [.int x_52]) ⟨hx, hb, hml, hown, hts⟩ (c_J6_bitCount_0f7a4 l g Ty G x_39 ) (cwSx 1 hts hG (gwC mw_620) mw_99 mw_713 mw_619 rfl rfl rfl hd_J6_bitCount_0f7a4 ⟨Nat.le_of_ble_eq_true rfl, Nat.le_of_ble_eq_true rfl⟩) ⟨PcH_blind, PcH_pre hK hH⟩ rfl rfl hl.1 rfl (lv_room (Nat.le_of_ble_eq_true rfl)) dX0_parentsBy_74 ⟨Nat.zero_le _, Nat.zero_le _⟩) (fun x_53 hx_53 => ?_)
      refine lv_iadd hx hb dX0_parentsBy_77 ?_
      refine lv_topi (fun x_54 ex_54 => ?_)
      refine lv_bipush (v := 24) hx hb dX0_parentsBy_78 (by decide) ?_
      refine lv_icmp_le (tgt := 88) hx hb dX0_parentsBy_80 (by decide) (fun c_55 => ?_) (fun c_55 => ?_)
      · have r_56 : rgI (-2147483648) (24) x_54 := rg_w (rg_leL (rg_top x_54) rl_24 c_55) (by decide) (by decide)
        refine lv_iload hx hb dX0_parentsBy_88 (lv_at hl 0 rfl) ?_
        exact W.iret hx hb hr (fun t ht hWm => ⟨⟨x_39, (Ty, G), rfl, rfl, by show HT g Ty G t.heap; rw [ht]; exact hH⟩, hS.F ht⟩) hS.2.2 dX0_parentsBy_90
      · have r_57 : rgI (25) (2147483647) x_54 := rg_w (rg_ltR rl_24 (rg_top x_54) (nle_lt c_55)) (by decide) (by decide)
        refine lv_bipush (v := (-9)) hx hb dX0_parentsBy_83 (by decide) ?_
        refine lv_goto (tgt := 90) hx hb dX0_parentsBy_85 (by decide) ?_
        exact W.iret hx hb hr (fun t ht hWm => ⟨⟨(-9), (Ty, G), rfl, rfl, by show HT g Ty G t.heap; rw [ht]; exact hH⟩, hS.F ht⟩) hS.2.2 dX0_parentsBy_90
    · refine lv_bipush (v := (-2)) hx hb dX0_parentsBy_33 (by decide) ?_
      exact W.iret hx hb hr (fun t ht hWm => ⟨⟨(-2), (Ty, G), rfl, rfl, by show HT g Ty G t.heap; rw [ht]; exact hH⟩, hS.F ht⟩) hS.2.2 dX0_parentsBy_35
  · have r_58 : rgI (0) (0) x_13 := rg_w (rg_eq rl_0 c_14) (by decide) (by decide)
    refine lv_iconst (v := (-1)) hx hb dX0_parentsBy_12 (by decide) ?_
    exact W.iret hx hb hr (fun t ht hWm => ⟨⟨(-1), (Ty, G), rfl, rfl, by show HT g Ty G t.heap; rw [ht]; exact hH⟩, hS.F ht⟩) hS.2.2 dX0_parentsBy_13

set_option maxHeartbeats 4000000 in
set_option maxRecDepth 100000 in
theorem c_X0_parentsBy_o (l : Launch) (g : Gx) (Ty : TyM) (G : Gh) (sz : Nat) (h0 : Nat) (b0 : Nat) (a1 : Int32) (a2 : Int32) (k_h0 : Ty h0 = some (10, 0)) (k_b0 : Ty b0 = some (23, 0)) : Met l yX0_parentsBy (wsG yX0_parentsBy cX0_parentsBy 6 (some .int)) ({ frames := 4, cells := 0, slots := 0, locals := 92 }) (PcT g Ty G sz [.ref h0, .ref b0, .int a1, .int a2]) (QwI g Ty sz (fun r u => u = (Ty, G))) 0 0 (AF Ty sz) := by
  refine Met.ofW (cc := cX0_parentsBy) (maxL := 6) (ret := (some .int)) (by decide) rfl ?_
  intro p e s m args below meth c s₁ B hml hv
  obtain ⟨rfl, hsz, hK, hH⟩ := hv
  subst hsz
  have hx := B.exec
  have hb := B.bytes
  have hr := B.returns
  have hts := atoms_spec (ws := (wsG yX0_parentsBy cX0_parentsBy 6 (some .int))) B.pre
  have hG : ∀ w ∈ GW, w.before ([.ref h0, .ref b0, .int a1, .int a2] : List Value).toArray s = true := fun w h => hts w (List.mem_cons_of_mem _ h)
  have hown : s.vm.findClass RX0 = some m.cls := findClass_of_methodNamed B.named
  have hlocks := B.notSynchronized
  have hl := lv_entry [.ref h0, .ref b0, .int a1, .int a2] (n := 6) (Nat.le_of_ble_eq_true rfl)
  rw [lg_entry_eq]
  generalize (lg_sl [.ref h0, .ref b0, .int a1, .int a2] ++ List.replicate (6 - (lg_sl [.ref h0, .ref b0, .int a1, .int a2]).length) Slot.unset).toArray = ls at hl ⊢
  have hl : lv_has ls 6 [(0, .ref h0), (1, .ref b0), (2, .int a1), (3, .int a2)] := hl
  have hS : va_S (AF Ty s.heap.size) s.heap s.heap [] := va_S.rf
  refine lv_aload_n hx hb dX0_parentsBy_0 rfl (lv_at hl 0 rfl) ?_
  obtain ⟨_, ⟨q_2, q_3, q_4, rfl, kq_2, kq_3, kq_4⟩, o_c_1⟩ := hH h0 _ k_h0
  refine hg_get hx hb hG igX0 hown hK o_c_1 rfl 0 (by decide) (hG _ mw_239) rfl dX0_parentsBy_1 ?_
  refine lv_iload_n hx hb dX0_parentsBy_4 rfl (lv_at hl 2 rfl) ?_
  refine lv_iload_n hx hb dX0_parentsBy_5 rfl (lv_at hl 3 rfl) ?_
  obtain ⟨_, ⟨q_6, q_7, q_8, q_9, q_10, q_11, q_12, rfl, kq_6, kq_7, kq_8⟩, o_c_5⟩ := hH q_2 _ kq_2
  refine vp_callSi (W.runV (As := [.int a1, .int a2]) (rest := []) ⟨hx, hb, hml, hown, hts⟩ (c_X10_hasPlace l g Ty G q_2 a1 a2 kq_2) (cwV 2 hts (gwV mw_640 mw_641 mw_642 mw_77 mw_643) rfl rfl rfl hv_X10_hasPlace ⟨Nat.le_of_ble_eq_true rfl, Nat.le_of_ble_eq_true rfl⟩) ⟨PcH_blind, hg_recv hK o_c_5 rfl, PcH_pre hK hH⟩ rfl rfl hl.1 rfl (lv_room (Nat.le_of_ble_eq_true rfl)) dX0_parentsBy_6 ⟨Nat.zero_le _, Nat.zero_le _⟩) (fun x_13 hx_13 => ?_)
  have rx_13 : rgI (0) (1) x_13 := hx_13.1
  refine lv_if_ne (tgt := 14) hx hb dX0_parentsBy_9 (by decide) (fun c_14 => ?_) (fun c_14 => ?_)
  · have r_15 : rgI (1) (1) x_13 := rg_w (rg_neL rx_13 rl_0 c_14) (by decide) (by decide)
    have r_16 : rgI (0) (23) a1 := rg_w (hx_13.2.resolve_left c_14) (by decide) (by decide)
    refine lv_aload_n hx hb dX0_parentsBy_14 rfl (lv_at hl 0 rfl) ?_
    refine hg_get hx hb hG igX0 hown hK o_c_1 rfl 0 (by decide) (hG _ mw_239) rfl dX0_parentsBy_15 ?_
    refine lv_iload_n hx hb dX0_parentsBy_18 rfl (lv_at hl 3 rfl) ?_
    refine vp_callSi (W.runV (As := [.int a2]) (rest := []) ⟨hx, hb, hml, hown, hts⟩ (c_X10_takenAt l g Ty G q_2 a2 kq_2) (cwV 1 hts (gwV mw_645 mw_646 mw_647 mw_77 mw_648) rfl rfl rfl hv_X10_takenAt ⟨Nat.le_of_ble_eq_true rfl, Nat.le_of_ble_eq_true rfl⟩) ⟨PcH_blind, hg_recv hK o_c_5 rfl, PcH_pre hK hH⟩ rfl rfl hl.1 rfl (lv_room (Nat.le_of_ble_eq_true rfl)) dX0_parentsBy_19 ⟨Nat.zero_le _, Nat.zero_le _⟩) (fun x_17 hx_17 => ?_)
    refine lv_istore (lv' := [(4, .int x_17), (0, .ref h0), (1, .ref b0), (2, .int a1), (3, .int a2)]) hx hb dX0_parentsBy_22 hl (by decide) rfl (fun ls hl => ?_)
    refine lv_iload hx hb dX0_parentsBy_24 (lv_at hl 0 rfl) ?_
    refine lv_iconst (v := 1) hx hb dX0_parentsBy_26 (by decide) ?_
    refine lv_iload_n hx hb dX0_parentsBy_27 rfl (lv_at hl 3 rfl) ?_
    refine lv_ishl hx hb dX0_parentsBy_28 ?_
    refine lv_topi (fun x_18 ex_18 => ?_)
    refine lv_iand hx hb dX0_parentsBy_29 ?_
    refine lv_topi (fun x_19 ex_19 => ?_)
    refine lv_if_eq (tgt := 36) hx hb dX0_parentsBy_30 (by decide) (fun c_20 => ?_) (fun c_20 => ?_)
    · have r_21 : rgI (0) (0) x_19 := rg_w (rg_eq rl_0 c_20) (by decide) (by decide)
      refine lv_aload_n hx hb dX0_parentsBy_36 rfl (lv_at hl 1 rfl) ?_
      refine hg_get hx hb hG igX0 hown hK o_c_1 rfl 0 (by decide) (hG _ mw_239) rfl dX0_parentsBy_37 ?_
      refine lv_iload_n hx hb dX0_parentsBy_40 rfl (lv_at hl 3 rfl) ?_
      refine vp_callSi (W.runV (As := [.int a1]) (rest := []) ⟨hx, hb, hml, hown, hts⟩ (c_X10_spreadOf l g Ty G q_2 a1 kq_2) (cwV 1 hts (gwV mw_649 mw_650 mw_651 mw_77 mw_652) rfl rfl rfl hv_X10_spreadOf ⟨Nat.le_of_ble_eq_true rfl, Nat.le_of_ble_eq_true rfl⟩) ⟨PcH_blind, hg_recv hK o_c_5 rfl, PcH_pre hK hH⟩ rfl rfl hl.1 rfl (lv_room (Nat.le_of_ble_eq_true rfl)) dX0_parentsBy_41 ⟨Nat.zero_le _, Nat.zero_le _⟩) (fun x_22 hx_22 => ?_)
      refine lv_aload_n hx hb dX0_parentsBy_44 rfl (lv_at hl 2 rfl) ?_
      refine lv_aload_n hx hb dX0_parentsBy_45 rfl (lv_at hl 1 rfl) ?_
      refine hg_get hx hb hG igX0 hown hK o_c_1 rfl 0 (by decide) (hG _ mw_239) rfl dX0_parentsBy_46 ?_
      refine lv_iload_n hx hb dX0_parentsBy_49 rfl (lv_at hl 4 rfl) ?_
      obtain ⟨_, ⟨q_24, q_25, q_28, q_29, q_31, q_32, q_33, rfl, kq_24, kq_26, kq_32, kq_33, rq_25, rq_28, t_34⟩, o_c_23⟩ := hH b0 _ k_b0
      refine va_calli (va_runV (As := [.ref q_2, .int a2]) (rest := [.int x_22]) ⟨hx, hb, hml, hown, hts⟩ (c_X8_letting_o l g Ty G s.heap.size b0 q_2 a2 k_b0 kq_2) (cwV 2 hts (gwV mw_669 mw_670 mw_671 mw_81 mw_672) rfl rfl rfl hv_X8_letting ⟨Nat.le_of_ble_eq_true rfl, Nat.le_of_ble_eq_true rfl⟩) ⟨PcT_blind, hg_recv hK o_c_23 rfl, PcT_pre hK hH⟩ rfl rfl hl.1 rfl (lv_room (Nat.le_of_ble_eq_true rfl)) dX0_parentsBy_50 ⟨Nat.zero_le _, Nat.zero_le _⟩) hS (fun q _ h => AF.mono hS.1 h) (fun q h => AF.mono hS.1 h) (fun x_35 ux_35 t H locs ht hvm hx_35 hB hz hk hS => ?_)
      have hH : HT g Ty G H := by rw [← ht]; rw [hx_35] at hB; exact hB
      refine lv_iand hx hb dX0_parentsBy_53 ?_
      refine lv_topi (fun x_36 ex_36 => ?_)
      refine lv_iload hx hb dX0_parentsBy_54 (lv_at hl 0 rfl) ?_
      refine lv_iconst (v := (-1)) hx hb dX0_parentsBy_56 (by decide) ?_
      refine lv_ixor hx hb dX0_parentsBy_57 ?_
      refine lv_topi (fun x_37 ex_37 => ?_)
      refine lv_iand hx hb dX0_parentsBy_58 ?_
      refine lv_topi (fun x_38 ex_38 => ?_)
      refine lv_iconst (v := 1) hx hb dX0_parentsBy_59 (by decide) ?_
      refine lv_iload_n hx hb dX0_parentsBy_60 rfl (lv_at hl 3 rfl) ?_
      refine lv_ishl hx hb dX0_parentsBy_61 ?_
      refine lv_topi (fun x_39 ex_39 => ?_)
      refine lv_ior hx hb dX0_parentsBy_62 ?_
      refine lv_topi (fun x_40 ex_40 => ?_)
      refine lv_istore (lv' := [(5, .int x_40), (4, .int x_17), (0, .ref h0), (1, .ref b0), (2, .int a1), (3, .int a2)]) hx hb dX0_parentsBy_63 hl (by decide) rfl (fun ls hl => ?_)
      refine lv_aload_n hx hb dX0_parentsBy_65 rfl (lv_at hl 2 rfl) ?_
      obtain ⟨_, ⟨q_42, q_43, q_44, rfl, kq_42, kq_43, kq_44⟩, o_c_41⟩ := hH h0 _ k_h0
      refine hg_get hx hb hG igX0 hown hK o_c_41 rfl 0 (by decide) (hG _ mw_239) rfl dX0_parentsBy_66 ?_
      obtain ⟨_, ⟨q_46, q_47, q_48, q_49, q_50, q_51, q_52, rfl, kq_46, kq_47, kq_48⟩, o_c_45⟩ := hH q_42 _ kq_42
      refine vp_callSi (W.runV (As := []) (rest := []) ⟨hx, hb, hml, hown, hts⟩ (c_X10_size l g Ty G q_42 kq_42) (cwV 0 hts (gwV mw_708 mw_709 mw_710 mw_77 mw_711) rfl rfl rfl hv_X10_size ⟨Nat.le_of_ble_eq_true rfl, Nat.le_of_ble_eq_true rfl⟩) ⟨PcH_blind, hg_recv hK o_c_45 rfl, PcH_pre hK hH⟩ rfl rfl hl.1 rfl (lv_room (Nat.le_of_ble_eq_true rfl)) dX0_parentsBy_69 ⟨Nat.zero_le _, Nat.zero_le _⟩) (fun x_53 hx_53 => ?_)
      refine lv_iload hx hb dX0_parentsBy_72 (lv_at hl 0 rfl) ?_
      refine vp_callSi (W.runS (As := [.int x_40]) (rest := [.int x_53]) ⟨hx, hb, hml, hown, hts⟩ (c_J6_bitCount_0f7a4 l g Ty G x_40 ) (cwSx 1 hts hG (gwC mw_620) mw_99 mw_713 mw_619 rfl rfl rfl hd_J6_bitCount_0f7a4 ⟨Nat.le_of_ble_eq_true rfl, Nat.le_of_ble_eq_true rfl⟩) ⟨PcH_blind, PcH_pre hK hH⟩ rfl rfl hl.1 rfl (lv_room (Nat.le_of_ble_eq_true rfl)) dX0_parentsBy_74 ⟨Nat.zero_le _, Nat.zero_le _⟩) (fun x_54 hx_54 => ?_)
      refine lv_iadd hx hb dX0_parentsBy_77 ?_
      refine lv_topi (fun x_55 ex_55 => ?_)
      refine lv_bipush (v := 24) hx hb dX0_parentsBy_78 (by decide) ?_
      refine lv_icmp_le (tgt := 88) hx hb dX0_parentsBy_80 (by decide) (fun c_56 => ?_) (fun c_56 => ?_)
      · have r_57 : rgI (-2147483648) (24) x_55 := rg_w (rg_leL (rg_top x_55) rl_24 c_56) (by decide) (by decide)
        refine lv_iload hx hb dX0_parentsBy_88 (lv_at hl 0 rfl) ?_
        exact W.iret hx hb hr (fun t ht hWm => ⟨⟨x_40, (Ty, G), rfl, rfl, by show HT g Ty G t.heap; rw [ht]; exact hH⟩, hS.F ht⟩) hS.2.2 dX0_parentsBy_90
      · have r_58 : rgI (25) (2147483647) x_55 := rg_w (rg_ltR rl_24 (rg_top x_55) (nle_lt c_56)) (by decide) (by decide)
        refine lv_bipush (v := (-9)) hx hb dX0_parentsBy_83 (by decide) ?_
        refine lv_goto (tgt := 90) hx hb dX0_parentsBy_85 (by decide) ?_
        exact W.iret hx hb hr (fun t ht hWm => ⟨⟨(-9), (Ty, G), rfl, rfl, by show HT g Ty G t.heap; rw [ht]; exact hH⟩, hS.F ht⟩) hS.2.2 dX0_parentsBy_90
    · refine lv_bipush (v := (-2)) hx hb dX0_parentsBy_33 (by decide) ?_
      exact W.iret hx hb hr (fun t ht hWm => ⟨⟨(-2), (Ty, G), rfl, rfl, by show HT g Ty G t.heap; rw [ht]; exact hH⟩, hS.F ht⟩) hS.2.2 dX0_parentsBy_35
  · have r_59 : rgI (0) (0) x_13 := rg_w (rg_eq rl_0 c_14) (by decide) (by decide)
    refine lv_iconst (v := (-1)) hx hb dX0_parentsBy_12 (by decide) ?_
    exact W.iret hx hb hr (fun t ht hWm => ⟨⟨(-1), (Ty, G), rfl, rfl, by show HT g Ty G t.heap; rw [ht]; exact hH⟩, hS.F ht⟩) hS.2.2 dX0_parentsBy_13

set_option maxHeartbeats 4000000 in
set_option maxRecDepth 100000 in
theorem c_X0_bring (l : Launch) (g : Gx) (Ty : TyM) (G : Gh) (sz : Nat) (h0 : Nat) (a0 : Int32) (a1 : Int32) (a2 : Int32) (a3 : Int32) (k_h0 : Ty h0 = some (10, 0)) : Met l yX0_bring (wsG yX0_bring cX0_bring 11 (some .int)) ({ frames := 4, cells := 0, slots := 0, locals := 93 }) (PcT g Ty G sz [.ref h0, .int a0, .int a1, .int a2, .int a3]) (QwI g Ty sz (fun r u => u = (Ty, G))) 0 0 (AF Ty sz) := by
  refine Met.ofW (cc := cX0_bring) (maxL := 11) (ret := (some .int)) (by decide) rfl ?_
  intro p e s m args below meth c s₁ B hml hv
  obtain ⟨rfl, hsz, hK, hH⟩ := hv
  subst hsz
  have hx := B.exec
  have hb := B.bytes
  have hr := B.returns
  have hts := atoms_spec (ws := (wsG yX0_bring cX0_bring 11 (some .int))) B.pre
  have hG : ∀ w ∈ GW, w.before ([.ref h0, .int a0, .int a1, .int a2, .int a3] : List Value).toArray s = true := fun w h => hts w (List.mem_cons_of_mem _ h)
  have hown : s.vm.findClass RX0 = some m.cls := findClass_of_methodNamed B.named
  have hlocks := B.notSynchronized
  have hl := lv_entry [.ref h0, .int a0, .int a1, .int a2, .int a3] (n := 11) (Nat.le_of_ble_eq_true rfl)
  rw [lg_entry_eq]
  generalize (lg_sl [.ref h0, .int a0, .int a1, .int a2, .int a3] ++ List.replicate (11 - (lg_sl [.ref h0, .int a0, .int a1, .int a2, .int a3]).length) Slot.unset).toArray = ls at hl ⊢
  have hl : lv_has ls 11 [(0, .ref h0), (1, .int a0), (2, .int a1), (3, .int a2), (4, .int a3)] := hl
  have hS : va_S (AF Ty s.heap.size) s.heap s.heap [] := va_S.rf
  have L_87 : ∀ (n : Nat) (H : Heap) (locs : List Loc) (y5_87 : Int32) (y6_87 : Int32) (y7_87 : Int32) (y8_87 : Int32) (y9_87 : Int32) (y10_87 : Int32) (ls : Array Slot), rgI (0) (24) y9_87 → rgI (0) (24) y10_87 → (24 - (y10_87).toInt).toNat < n → lv_has ls 11 [(0, .ref h0), (2, .int a1), (3, .int a2), (4, .int a3), (5, .int y5_87), (6, .int y6_87), (7, .int y7_87), (8, .int y8_87), (9, .int y9_87), (10, .int y10_87)] → HT g Ty G H → va_S (AF Ty s.heap.size) s.heap H locs → Wm p l e (wsG yX0_bring cX0_bring 11 (some .int)) ({ frames := 4, cells := 0, slots := 0, locals := 93 }) s m [.ref h0, .int a0, .int a1, .int a2, .int a3] below meth c H locs (0) (0) (QwI g Ty s.heap.size (fun r u => u = (Ty, G))) 0 0 (AF Ty s.heap.size) (F0 m 87 ls []) := by
    intro n
    induction n with
    | zero => intro H locs y5_87 y6_87 y7_87 y8_87 y9_87 y10_87 ls ry9_87 ry10_87 hm; exact absurd hm (Nat.not_lt_zero _)
    | succ n ih_87 =>
      intro H locs y5_87 y6_87 y7_87 y8_87 y9_87 y10_87 ls ry9_87 ry10_87 hm_87 hl hH hS
      have L_175 : ∀ (H : Heap) (locs : List Loc) (ls : Array Slot), rgI (0) (24) y9_87 → rgI (0) (23) y10_87 → lv_has ls 11 [(0, .ref h0), (2, .int a1), (3, .int a2), (4, .int a3), (5, .int y5_87), (6, .int y6_87), (7, .int y7_87), (8, .int y8_87), (9, .int y9_87), (10, .int y10_87)] → HT g Ty G H → va_S (AF Ty s.heap.size) s.heap H locs → Wm p l e (wsG yX0_bring cX0_bring 11 (some .int)) ({ frames := 4, cells := 0, slots := 0, locals := 93 }) s m [.ref h0, .int a0, .int a1, .int a2, .int a3] below meth c H locs (0) (0) (QwI g Ty s.heap.size (fun r u => u = (Ty, G))) 0 0 (AF Ty s.heap.size) (F0 m 175 ls []) := by
        intro H locs ls ry9_175 ry10_175 hl hH hS
        obtain ⟨x_1, ex_1⟩ : ∃ y : Int32, y = y10_87 + 1 := ⟨_, rfl⟩
        have rx_1 : rgI (1) (24) x_1 := by rw [ex_1]; exact rg_w (rg_add ry10_175 rl_1 (by decide) (by decide)) (by decide) (by decide)
        have qx_1 : x_1.toInt = (y10_87 : Int32).toInt + 1 := by rw [ex_1]; exact rg_addE ry10_175 rl_1 (by decide) (by decide)
        refine lv_iinc (v := x_1) (lv' := [(10, .int x_1), (0, .ref h0), (2, .int a1), (3, .int a2), (4, .int a3), (5, .int y5_87), (6, .int y6_87), (7, .int y7_87), (8, .int y8_87), (9, .int y9_87)]) hx hb dX0_bring_175 hl (k := 9) rfl (by rw [ex_1]; rfl) (by decide) rfl (fun ls hl => ?_)
        refine lv_goto (tgt := 87) hx hb dX0_bring_178 (by decide) ?_
        exact ih_87 H locs y5_87 y6_87 y7_87 y8_87 y9_87 x_1 ls ry9_175 (rg_w rx_1 (by decide) (by decide)) (by have h1 := qx_1; have h2 := ry10_175.1; have h3 := ry10_175.2; have h4 := hm_87; omega) (lv_sub hl [1, 2, 3, 4, 5, 6, 7, 8, 9, 0] rfl) hH hS
      refine lv_iload hx hb dX0_bring_87 (lv_at hl 9 rfl) ?_
      refine lv_bipush (v := 24) hx hb dX0_bring_89 (by decide) ?_
      refine lv_icmp_ge (tgt := 181) hx hb dX0_bring_91 (by decide) (fun c_2 => ?_) (fun c_2 => ?_)
      · have r_3 : rgI (24) (24) y10_87 := rg_w (rg_leR rl_24 ry10_87 c_2) (by decide) (by decide)
        refine lv_aload_n hx hb dX0_bring_181 rfl (lv_at hl 0 rfl) ?_
        obtain ⟨_, ⟨q_5, q_6, q_7, rfl, kq_5, kq_6, kq_7⟩, o_c_4⟩ := hH h0 _ k_h0
        refine hg_get hx hb hG igX0 hown hK o_c_4 rfl 0 (by decide) (hG _ mw_239) rfl dX0_bring_182 ?_
        refine lv_dup hx hb dX0_bring_185 rfl ?_
        obtain ⟨_, ⟨q_9, q_10, q_11, q_12, q_13, q_14, q_15, rfl, kq_9, kq_10, kq_11⟩, o_c_8⟩ := hH q_5 _ kq_5
        refine hg_getN hx hb hG igX10 hown hK o_c_8 rfl 5 (by decide) ((hK.2.1 _ nwf_125).use rfl) rfl dX0_bring_186 ?_
        refine lv_iconst (v := 1) hx hb dX0_bring_189 (by decide) ?_
        refine lv_iadd hx hb dX0_bring_190 ?_
        refine lv_topi (fun x_16 ex_16 => ?_)
        refine hg_putN (ty := .int) hx hb hG igX10 tyX10 tyX10_ok nmX10 hown hK hS o_c_8 (AF.of kq_5) rfl 5 (by decide) ((hK.2.1 _ nwf_125).use rfl) rfl (by decide +kernel) rfl rfl (Nat.le_of_ble_eq_true rfl) dX0_bring_191 (fun H locs o_c_8 hz oq hS => ?_)
        have o_c_8 : va_at g.1 vwCl (q_5, .inr (10, [.ref q_9, .ref q_10, .ref q_11, .int q_12, .int q_13, .int x_16, .int q_15])) H := o_c_8
        have hH : HT g Ty G H := hH.put kq_5 ⟨q_9, q_10, q_11, q_12, q_13, x_16, q_15, rfl, kq_9, kq_10, kq_11⟩ o_c_8 oq
        have o_c_4 := o_c_4.kept (oq _ (ne_kd k_h0 kq_5 (by decide)))
        clear oq hz
        refine lv_iload hx hb dX0_bring_194 (lv_at hl 8 rfl) ?_
        exact W.iret hx hb hr (fun t ht hWm => ⟨⟨y9_87, (Ty, G), rfl, rfl, by show HT g Ty G t.heap; rw [ht]; exact hH⟩, hS.F ht⟩) hS.2.2 dX0_bring_196
      · have r_17 : rgI (0) (23) y10_87 := rg_w (rg_ltL ry10_87 rl_24 (nle_lt c_2)) (by decide) (by decide)
        refine lv_iload hx hb dX0_bring_94 (lv_at hl 9 rfl) ?_
        refine lv_iload_n hx hb dX0_bring_96 rfl (lv_at hl 1 rfl) ?_
        refine lv_icmp_eq (tgt := 175) hx hb dX0_bring_97 (by decide) (fun c_18 => ?_) (fun c_18 => ?_)
        · exact L_175 H locs ls ry9_87 r_17 (lv_sub hl [0, 1, 2, 3, 4, 5, 6, 7, 8, 9] rfl) hH hS
        · refine lv_iload hx hb dX0_bring_100 (lv_at hl 3 rfl) ?_
          refine lv_iconst (v := 1) hx hb dX0_bring_102 (by decide) ?_
          refine lv_iload hx hb dX0_bring_103 (lv_at hl 9 rfl) ?_
          refine lv_ishl hx hb dX0_bring_105 ?_
          refine lv_topi (fun x_19 ex_19 => ?_)
          refine lv_iand hx hb dX0_bring_106 ?_
          refine lv_topi (fun x_20 ex_20 => ?_)
          refine lv_if_eq (tgt := 175) hx hb dX0_bring_107 (by decide) (fun c_21 => ?_) (fun c_21 => ?_)
          · have r_22 : rgI (0) (0) x_20 := rg_w (rg_eq rl_0 c_21) (by decide) (by decide)
            exact L_175 H locs ls ry9_87 r_17 (lv_sub hl [0, 1, 2, 3, 4, 5, 6, 7, 8, 9] rfl) hH hS
          · refine lv_aload_n hx hb dX0_bring_110 rfl (lv_at hl 0 rfl) ?_
            obtain ⟨_, ⟨q_24, q_25, q_26, rfl, kq_24, kq_25, kq_26⟩, o_c_23⟩ := hH h0 _ k_h0
            refine hg_get hx hb hG igX0 hown hK o_c_23 rfl 0 (by decide) (hG _ mw_239) rfl dX0_bring_111 ?_
            refine lv_iload hx hb dX0_bring_114 (lv_at hl 9 rfl) ?_
            obtain ⟨_, ⟨q_28, q_29, q_30, q_31, q_32, q_33, q_34, rfl, kq_28, kq_29, kq_30⟩, o_c_27⟩ := hH q_24 _ kq_24
            refine vp_callSi (W.runV (As := [.int y10_87]) (rest := []) ⟨hx, hb, hml, hown, hts⟩ (c_X10_groupOf l g Ty G q_24 y10_87 kq_24) (cwV 1 hts (gwV mw_718 mw_608 mw_609 mw_77 mw_610) rfl rfl rfl hv_X10_groupOf ⟨Nat.le_of_ble_eq_true rfl, Nat.le_of_ble_eq_true rfl⟩) ⟨PcH_blind, hg_recv hK o_c_27 rfl, PcH_pre hK hH⟩ rfl rfl hl.1 rfl (lv_room (Nat.le_of_ble_eq_true rfl)) dX0_bring_116 ⟨Nat.zero_le _, Nat.zero_le _⟩) (fun x_35 hx_35 => ?_)
            refine lv_iload hx hb dX0_bring_119 (lv_at hl 5 rfl) ?_
            refine lv_icmp_ne (tgt := 142) hx hb dX0_bring_121 (by decide) (fun c_36 => ?_) (fun c_36 => ?_)
            · refine lv_aload_n hx hb dX0_bring_142 rfl (lv_at hl 0 rfl) ?_
              refine hg_get hx hb hG igX0 hown hK o_c_23 rfl 0 (by decide) (hG _ mw_239) rfl dX0_bring_143 ?_
              refine lv_iload hx hb dX0_bring_146 (lv_at hl 9 rfl) ?_
              refine lv_iload_n hx hb dX0_bring_148 rfl (lv_at hl 2 rfl) ?_
              refine lv_aload_n hx hb dX0_bring_149 rfl (lv_at hl 0 rfl) ?_
              refine hg_get hx hb hG igX0 hown hK o_c_23 rfl 2 (by decide) (hG _ mw_241) rfl dX0_bring_150 ?_
              refine lv_iload hx hb dX0_bring_153 (lv_at hl 9 rfl) ?_
              obtain ⟨_, ⟨f_38, rfl⟩, o_c_37⟩ := hH q_26 _ kq_26
              refine hg_iald hx hb hK o_c_37 (rg_in (n := 24) r_17 (by decide) (by decide)) dX0_bring_155 ?_
              refine lv_topi (fun x_39 ex_39 => ?_)
              refine lv_aload_n hx hb dX0_bring_156 rfl (lv_at hl 0 rfl) ?_
              refine lv_iload hx hb dX0_bring_157 (lv_at hl 4 rfl) ?_
              refine lv_aload_n hx hb dX0_bring_159 rfl (lv_at hl 0 rfl) ?_
              refine hg_get hx hb hG igX0 hown hK o_c_23 rfl 0 (by decide) (hG _ mw_239) rfl dX0_bring_160 ?_
              refine lv_iload hx hb dX0_bring_163 (lv_at hl 9 rfl) ?_
              refine vp_callSi (W.runV (As := [.int y10_87]) (rest := [.int y5_87, .ref h0, .int x_39, .int a2, .int y10_87, .ref q_24]) ⟨hx, hb, hml, hown, hts⟩ (c_X10_masterOf l g Ty G q_24 y10_87 kq_24) (cwV 1 hts (gwV mw_719 mw_612 mw_613 mw_77 mw_614) rfl rfl rfl hv_X10_masterOf ⟨Nat.le_of_ble_eq_true rfl, Nat.le_of_ble_eq_true rfl⟩) ⟨PcH_blind, hg_recv hK o_c_27 rfl, PcH_pre hK hH⟩ rfl rfl hl.1 rfl (lv_room (Nat.le_of_ble_eq_true rfl)) dX0_bring_165 ⟨Nat.zero_le _, Nat.zero_le _⟩) (fun x_40 hx_40 => ?_)
              refine vp_callSi (W.runV (As := [.int y5_87, .int x_40]) (rest := [.int x_39, .int a2, .int y10_87, .ref q_24]) ⟨hx, hb, hml, hown, hts⟩ (c_X0_heirOf l g Ty G h0 y5_87 x_40 k_h0) (cwV 2 hts (gwV mw_728 mw_730 mw_14 mw_82 mw_731) rfl rfl rfl hv_X0_heirOf ⟨Nat.le_of_ble_eq_true rfl, Nat.le_of_ble_eq_true rfl⟩) ⟨PcH_blind, hg_recv hK o_c_23 rfl, PcH_pre hK hH⟩ rfl rfl hl.1 rfl (lv_room (Nat.le_of_ble_eq_true rfl)) dX0_bring_168 ⟨Nat.zero_le _, Nat.zero_le _⟩) (fun x_41 hx_41 => ?_)
              refine va_calli (va_runV (As := [.int y10_87, .int a2, .int x_39, .int x_41]) (rest := []) ⟨hx, hb, hml, hown, hts⟩ (c_X10_put l g Ty G H.size q_24 y10_87 a2 x_39 x_41 kq_24) (cwV 4 hts (gwV mw_734 mw_735 mw_736 mw_77 mw_737) rfl rfl rfl hv_X10_put ⟨Nat.le_of_ble_eq_true rfl, Nat.le_of_ble_eq_true rfl⟩) ⟨PcT_blind, hg_recv hK o_c_27 rfl, PcT_pre hK hH⟩ rfl rfl hl.1 rfl (lv_room (Nat.le_of_ble_eq_true rfl)) dX0_bring_171 ⟨Nat.zero_le _, Nat.zero_le _⟩) hS (fun q _ h => AF.mono hS.1 h) (fun q h => AF.mono hS.1 h) (fun x_42 ux_42 t H locs ht hvm hx_42 hB hz hk hS => ?_)
              obtain ⟨hx_42, fx_42⟩ := hx_42
              have hH : HT g Ty G H := by rw [← ht]; rw [fx_42] at hB; exact hB
              have rx_42 : rgI (0) (24) x_42 := hx_42
              refine lv_pop hx hb dX0_bring_174 rfl ?_
              exact L_175 H locs ls ry9_87 r_17 (lv_sub hl [0, 1, 2, 3, 4, 5, 6, 7, 8, 9] rfl) hH hS
            · refine lv_aload_n hx hb dX0_bring_124 rfl (lv_at hl 0 rfl) ?_
              refine hg_get hx hb hG igX0 hown hK o_c_23 rfl 0 (by decide) (hG _ mw_239) rfl dX0_bring_125 ?_
              refine lv_iload hx hb dX0_bring_128 (lv_at hl 9 rfl) ?_
              refine lv_iload_n hx hb dX0_bring_130 rfl (lv_at hl 2 rfl) ?_
              refine lv_iload hx hb dX0_bring_131 (lv_at hl 7 rfl) ?_
              refine lv_iload hx hb dX0_bring_133 (lv_at hl 6 rfl) ?_
              refine va_calli (va_runV (As := [.int y10_87, .int a2, .int y8_87, .int y7_87]) (rest := []) ⟨hx, hb, hml, hown, hts⟩ (c_X10_put l g Ty G H.size q_24 y10_87 a2 y8_87 y7_87 kq_24) (cwV 4 hts (gwV mw_734 mw_735 mw_736 mw_77 mw_737) rfl rfl rfl hv_X10_put ⟨Nat.le_of_ble_eq_true rfl, Nat.le_of_ble_eq_true rfl⟩) ⟨PcT_blind, hg_recv hK o_c_27 rfl, PcT_pre hK hH⟩ rfl rfl hl.1 rfl (lv_room (Nat.le_of_ble_eq_true rfl)) dX0_bring_135 ⟨Nat.zero_le _, Nat.zero_le _⟩) hS (fun q _ h => AF.mono hS.1 h) (fun q h => AF.mono hS.1 h) (fun x_43 ux_43 t H locs ht hvm hx_43 hB hz hk hS => ?_)
              obtain ⟨hx_43, fx_43⟩ := hx_43
              have hH : HT g Ty G H := by rw [← ht]; rw [fx_43] at hB; exact hB
              have rx_43 : rgI (0) (24) x_43 := hx_43
              refine lv_pop hx hb dX0_bring_138 rfl ?_
              refine lv_goto (tgt := 175) hx hb dX0_bring_139 (by decide) ?_
              exact L_175 H locs ls ry9_87 r_17 (lv_sub hl [0, 1, 2, 3, 4, 5, 6, 7, 8, 9] rfl) hH hS
  have L_59 : ∀ (H : Heap) (locs : List Loc) (y5_59 : Int32) (y6_59 : Int32) (y7_59 : Int32) (y8_59 : Int32) (ls : Array Slot), lv_has ls 11 [(0, .ref h0), (2, .int a1), (3, .int a2), (4, .int a3), (5, .int y5_59), (6, .int y6_59), (7, .int y7_59), (8, .int y8_59)] → HT g Ty G H → va_S (AF Ty s.heap.size) s.heap H locs → Wm p l e (wsG yX0_bring cX0_bring 11 (some .int)) ({ frames := 4, cells := 0, slots := 0, locals := 93 }) s m [.ref h0, .int a0, .int a1, .int a2, .int a3] below meth c H locs (0) (0) (QwI g Ty s.heap.size (fun r u => u = (Ty, G))) 0 0 (AF Ty s.heap.size) (F0 m 59 ls []) := by
    intro H locs y5_59 y6_59 y7_59 y8_59 ls hl hH hS
    refine lv_aload_n hx hb dX0_bring_59 rfl (lv_at hl 0 rfl) ?_
    refine lv_iload hx hb dX0_bring_60 (lv_at hl 4 rfl) ?_
    refine lv_iload hx hb dX0_bring_62 (lv_at hl 5 rfl) ?_
    refine lv_iload hx hb dX0_bring_64 (lv_at hl 7 rfl) ?_
    obtain ⟨_, ⟨q_45, q_46, q_47, rfl, kq_45, kq_46, kq_47⟩, o_c_44⟩ := hH h0 _ k_h0
    refine va_callv (va_runV (As := [.int y5_59, .int y6_59, .int y8_59]) (rest := []) ⟨hx, hb, hml, hown, hts⟩ (c_X0_nameHeirs l g Ty G H.size h0 y5_59 y6_59 y8_59 k_h0) (cwV 3 hts (gwV mw_724 mw_726 mw_13 mw_82 mw_727) rfl rfl rfl hv_X0_nameHeirs ⟨Nat.le_of_ble_eq_true rfl, Nat.le_of_ble_eq_true rfl⟩) ⟨PcT_blind, hg_recv hK o_c_44 rfl, PcT_pre hK hH⟩ rfl rfl hl.1 rfl (lv_room (Nat.le_of_ble_eq_true rfl)) dX0_bring_66 ⟨Nat.zero_le _, Nat.zero_le _⟩) hS (fun q _ h => AF.mono hS.1 h) (fun q h => AF.mono hS.1 h) (fun ux_48 t H locs ht hvm hx_48 hB hz hk hS => ?_)
    have hH : HT g Ty G H := by rw [← ht]; rw [hx_48] at hB; exact hB
    refine lv_aload_n hx hb dX0_bring_69 rfl (lv_at hl 0 rfl) ?_
    obtain ⟨_, ⟨q_50, q_51, q_52, rfl, kq_50, kq_51, kq_52⟩, o_c_49⟩ := hH h0 _ k_h0
    refine hg_get hx hb hG igX0 hown hK o_c_49 rfl 0 (by decide) (hG _ mw_239) rfl dX0_bring_70 ?_
    refine lv_iload_n hx hb dX0_bring_73 rfl (lv_at hl 1 rfl) ?_
    refine lv_iload_n hx hb dX0_bring_74 rfl (lv_at hl 2 rfl) ?_
    refine lv_iload hx hb dX0_bring_75 (lv_at hl 7 rfl) ?_
    refine lv_iload hx hb dX0_bring_77 (lv_at hl 6 rfl) ?_
    obtain ⟨_, ⟨q_54, q_55, q_56, q_57, q_58, q_59, q_60, rfl, kq_54, kq_55, kq_56⟩, o_c_53⟩ := hH q_50 _ kq_50
    refine va_calli (va_runV (As := [.int a1, .int a2, .int y8_59, .int y7_59]) (rest := []) ⟨hx, hb, hml, hown, hts⟩ (c_X10_put l g Ty G H.size q_50 a1 a2 y8_59 y7_59 kq_50) (cwV 4 hts (gwV mw_734 mw_735 mw_736 mw_77 mw_737) rfl rfl rfl hv_X10_put ⟨Nat.le_of_ble_eq_true rfl, Nat.le_of_ble_eq_true rfl⟩) ⟨PcT_blind, hg_recv hK o_c_53 rfl, PcT_pre hK hH⟩ rfl rfl hl.1 rfl (lv_room (Nat.le_of_ble_eq_true rfl)) dX0_bring_79 ⟨Nat.zero_le _, Nat.zero_le _⟩) hS (fun q _ h => AF.mono hS.1 h) (fun q h => AF.mono hS.1 h) (fun x_61 ux_61 t H locs ht hvm hx_61 hB hz hk hS => ?_)
    obtain ⟨hx_61, fx_61⟩ := hx_61
    have hH : HT g Ty G H := by rw [← ht]; rw [fx_61] at hB; exact hB
    have rx_61 : rgI (0) (24) x_61 := hx_61
    refine lv_istore (lv' := [(9, .int x_61), (0, .ref h0), (2, .int a1), (3, .int a2), (4, .int a3), (5, .int y5_59), (6, .int y6_59), (7, .int y7_59), (8, .int y8_59)]) hx hb dX0_bring_82 hl (by decide) rfl (fun ls hl => ?_)
    refine lv_iconst (v := 0) hx hb dX0_bring_84 (by decide) ?_
    refine lv_istore (lv' := [(10, .int 0), (9, .int x_61), (0, .ref h0), (2, .int a1), (3, .int a2), (4, .int a3), (5, .int y5_59), (6, .int y6_59), (7, .int y7_59), (8, .int y8_59)]) hx hb dX0_bring_85 hl (by decide) rfl (fun ls hl => ?_)
    exact L_87 _ H locs y5_59 y6_59 y7_59 y8_59 x_61 0 ls rx_61 (rg_w rl_0 (by decide) (by decide)) (Nat.lt_succ_self _) (lv_sub hl [2, 3, 4, 5, 6, 7, 8, 9, 1, 0] rfl) hH hS
  refine lv_aload_n hx hb dX0_bring_0 rfl (lv_at hl 0 rfl) ?_
  obtain ⟨_, ⟨q_63, q_64, q_65, rfl, kq_63, kq_64, kq_65⟩, o_c_62⟩ := hH h0 _ k_h0
  refine hg_get hx hb hG igX0 hown hK o_c_62 rfl 0 (by decide) (hG _ mw_239) rfl dX0_bring_1 ?_
  refine lv_iload_n hx hb dX0_bring_4 rfl (lv_at hl 2 rfl) ?_
  obtain ⟨_, ⟨q_67, q_68, q_69, q_70, q_71, q_72, q_73, rfl, kq_67, kq_68, kq_69⟩, o_c_66⟩ := hH q_63 _ kq_63
  refine vp_callSi (W.runV (As := [.int a1]) (rest := []) ⟨hx, hb, hml, hown, hts⟩ (c_X10_spreadOf l g Ty G q_63 a1 kq_63) (cwV 1 hts (gwV mw_649 mw_650 mw_651 mw_77 mw_652) rfl rfl rfl hv_X10_spreadOf ⟨Nat.le_of_ble_eq_true rfl, Nat.le_of_ble_eq_true rfl⟩) ⟨PcH_blind, hg_recv hK o_c_66 rfl, PcH_pre hK hH⟩ rfl rfl hl.1 rfl (lv_room (Nat.le_of_ble_eq_true rfl)) dX0_bring_5 ⟨Nat.zero_le _, Nat.zero_le _⟩) (fun x_74 hx_74 => ?_)
  refine lv_istore (lv' := [(5, .int x_74), (0, .ref h0), (1, .int a0), (2, .int a1), (3, .int a2), (4, .int a3)]) hx hb dX0_bring_8 hl (by decide) rfl (fun ls hl => ?_)
  refine lv_aload_n hx hb dX0_bring_10 rfl (lv_at hl 1 rfl) ?_
  refine hg_get hx hb hG igX0 hown hK o_c_62 rfl 0 (by decide) (hG _ mw_239) rfl dX0_bring_11 ?_
  refine lv_iload_n hx hb dX0_bring_14 rfl (lv_at hl 3 rfl) ?_
  refine vp_callSi (W.runV (As := [.int a1]) (rest := []) ⟨hx, hb, hml, hown, hts⟩ (c_X10_groupOf l g Ty G q_63 a1 kq_63) (cwV 1 hts (gwV mw_718 mw_608 mw_609 mw_77 mw_610) rfl rfl rfl hv_X10_groupOf ⟨Nat.le_of_ble_eq_true rfl, Nat.le_of_ble_eq_true rfl⟩) ⟨PcH_blind, hg_recv hK o_c_66 rfl, PcH_pre hK hH⟩ rfl rfl hl.1 rfl (lv_room (Nat.le_of_ble_eq_true rfl)) dX0_bring_15 ⟨Nat.zero_le _, Nat.zero_le _⟩) (fun x_75 hx_75 => ?_)
  refine lv_istore (lv' := [(6, .int x_75), (5, .int x_74), (0, .ref h0), (1, .int a0), (2, .int a1), (3, .int a2), (4, .int a3)]) hx hb dX0_bring_18 hl (by decide) rfl (fun ls hl => ?_)
  refine lv_aload_n hx hb dX0_bring_20 rfl (lv_at hl 2 rfl) ?_
  refine hg_get hx hb hG igX0 hown hK o_c_62 rfl 0 (by decide) (hG _ mw_239) rfl dX0_bring_21 ?_
  refine lv_iload_n hx hb dX0_bring_24 rfl (lv_at hl 3 rfl) ?_
  refine vp_callSi (W.runV (As := [.int a0]) (rest := []) ⟨hx, hb, hml, hown, hts⟩ (c_X10_masterOf l g Ty G q_63 a0 kq_63) (cwV 1 hts (gwV mw_719 mw_612 mw_613 mw_77 mw_614) rfl rfl rfl hv_X10_masterOf ⟨Nat.le_of_ble_eq_true rfl, Nat.le_of_ble_eq_true rfl⟩) ⟨PcH_blind, hg_recv hK o_c_66 rfl, PcH_pre hK hH⟩ rfl rfl hl.1 rfl (lv_room (Nat.le_of_ble_eq_true rfl)) dX0_bring_25 ⟨Nat.zero_le _, Nat.zero_le _⟩) (fun x_76 hx_76 => ?_)
  refine lv_istore (lv' := [(7, .int x_76), (6, .int x_75), (5, .int x_74), (0, .ref h0), (1, .int a0), (2, .int a1), (3, .int a2), (4, .int a3)]) hx hb dX0_bring_28 hl (by decide) rfl (fun ls hl => ?_)
  refine lv_aload_n hx hb dX0_bring_30 rfl (lv_at hl 3 rfl) ?_
  refine hg_get hx hb hG igX0 hown hK o_c_62 rfl 0 (by decide) (hG _ mw_239) rfl dX0_bring_31 ?_
  refine lv_iload_n hx hb dX0_bring_34 rfl (lv_at hl 4 rfl) ?_
  refine vp_callSi (W.runV (As := [.int a0]) (rest := []) ⟨hx, hb, hml, hown, hts⟩ (c_X10_groupOf l g Ty G q_63 a0 kq_63) (cwV 1 hts (gwV mw_718 mw_608 mw_609 mw_77 mw_610) rfl rfl rfl hv_X10_groupOf ⟨Nat.le_of_ble_eq_true rfl, Nat.le_of_ble_eq_true rfl⟩) ⟨PcH_blind, hg_recv hK o_c_66 rfl, PcH_pre hK hH⟩ rfl rfl hl.1 rfl (lv_room (Nat.le_of_ble_eq_true rfl)) dX0_bring_35 ⟨Nat.zero_le _, Nat.zero_le _⟩) (fun x_77 hx_77 => ?_)
  refine lv_istore (lv' := [(8, .int x_77), (7, .int x_76), (6, .int x_75), (5, .int x_74), (0, .ref h0), (1, .int a0), (2, .int a1), (3, .int a2), (4, .int a3)]) hx hb dX0_bring_38 hl (by decide) rfl (fun ls hl => ?_)
  refine lv_iload hx hb dX0_bring_40 (lv_at hl 0 rfl) ?_
  refine lv_if_ne (tgt := 59) hx hb dX0_bring_42 (by decide) (fun c_78 => ?_) (fun c_78 => ?_)
  · exact L_59 s.heap [] x_74 x_75 x_76 x_77 ls (lv_sub hl [4, 6, 7, 8, 3, 2, 1, 0] rfl) hH hS
  · have r_79 : rgI (0) (0) x_77 := rg_w (rg_eq rl_0 c_78) (by decide) (by decide)
    refine lv_iload hx hb dX0_bring_45 (lv_at hl 2 rfl) ?_
    refine lv_if_eq (tgt := 59) hx hb dX0_bring_47 (by decide) (fun c_80 => ?_) (fun c_80 => ?_)
    · have r_81 : rgI (0) (0) x_75 := rg_w (rg_eq rl_0 c_80) (by decide) (by decide)
      exact L_59 s.heap [] x_74 x_75 x_76 x_77 ls (lv_sub hl [4, 6, 7, 8, 3, 2, 1, 0] rfl) hH hS
    · refine lv_aload_n hx hb dX0_bring_50 rfl (lv_at hl 4 rfl) ?_
      refine hg_get hx hb hG igX0 hown hK o_c_62 rfl 0 (by decide) (hG _ mw_239) rfl dX0_bring_51 ?_
      refine va_calli (va_runV (As := []) (rest := []) ⟨hx, hb, hml, hown, hts⟩ (c_X10_newGroup l g Ty G s.heap.size q_63 kq_63) (cwV 0 hts (gwV mw_720 mw_721 mw_722 mw_77 mw_723) rfl rfl rfl hv_X10_newGroup ⟨Nat.le_of_ble_eq_true rfl, Nat.le_of_ble_eq_true rfl⟩) ⟨PcT_blind, hg_recv hK o_c_66 rfl, PcT_pre hK hH⟩ rfl rfl hl.1 rfl (lv_room (Nat.le_of_ble_eq_true rfl)) dX0_bring_54 ⟨Nat.zero_le _, Nat.zero_le _⟩) hS (fun q _ h => AF.mono hS.1 h) (fun q h => AF.mono hS.1 h) (fun x_82 ux_82 t H locs ht hvm hx_82 hB hz hk hS => ?_)
      have hH : HT g Ty G H := by rw [← ht]; rw [hx_82] at hB; exact hB
      refine lv_istore (lv' := [(8, .int x_82), (7, .int x_76), (6, .int x_75), (5, .int x_74), (0, .ref h0), (1, .int a0), (2, .int a1), (3, .int a2), (4, .int a3)]) hx hb dX0_bring_57 hl (by decide) rfl (fun ls hl => ?_)
      exact L_59 H locs x_74 x_75 x_76 x_82 ls (lv_sub hl [4, 6, 7, 8, 3, 2, 1, 0] rfl) hH hS

set_option maxHeartbeats 4000000 in
set_option maxRecDepth 100000 in
theorem c_X0_mountNew (l : Launch) (g : Gx) (Ty : TyM) (G : Gh) (sz : Nat) (h0 : Nat) (a0 : Int32) (a1 : Int32) (k_h0 : Ty h0 = some (10, 0)) : Met l yX0_mountNew (wsG yX0_mountNew cX0_mountNew 4 (some .int)) ({ frames := 5, cells := 0, slots := 0, locals := 123 }) (PcT g Ty G sz [.ref h0, .int a0, .int a1]) (QwI g Ty sz (fun r u => u = (Ty, G))) 0 0 (AF Ty sz) := by
  refine Met.ofW (cc := cX0_mountNew) (maxL := 4) (ret := (some .int)) (by decide) rfl ?_
  intro p e s m args below meth c s₁ B hml hv
  obtain ⟨rfl, hsz, hK, hH⟩ := hv
  subst hsz
  have hx := B.exec
  have hb := B.bytes
  have hr := B.returns
  have hts := atoms_spec (ws := (wsG yX0_mountNew cX0_mountNew 4 (some .int))) B.pre
  have hG : ∀ w ∈ GW, w.before ([.ref h0, .int a0, .int a1] : List Value).toArray s = true := fun w h => hts w (List.mem_cons_of_mem _ h)
  have hown : s.vm.findClass RX0 = some m.cls := findClass_of_methodNamed B.named
  have hlocks := B.notSynchronized
  have hl := lv_entry [.ref h0, .int a0, .int a1] (n := 4) (Nat.le_of_ble_eq_true rfl)
  rw [lg_entry_eq]
  generalize (lg_sl [.ref h0, .int a0, .int a1] ++ List.replicate (4 - (lg_sl [.ref h0, .int a0, .int a1]).length) Slot.unset).toArray = ls at hl ⊢
  have hl : lv_has ls 4 [(0, .ref h0), (1, .int a0), (2, .int a1)] := hl
  have hS : va_S (AF Ty s.heap.size) s.heap s.heap [] := va_S.rf
  refine lv_aload_n hx hb dX0_mountNew_0 rfl (lv_at hl 0 rfl) ?_
  refine lv_aload_n hx hb dX0_mountNew_1 rfl (lv_at hl 0 rfl) ?_
  obtain ⟨_, ⟨q_2, q_3, q_4, rfl, kq_2, kq_3, kq_4⟩, o_c_1⟩ := hH h0 _ k_h0
  refine hg_get hx hb hG igX0 hown hK o_c_1 rfl 1 (by decide) (hG _ mw_240) rfl dX0_mountNew_2 ?_
  refine lv_iload_n hx hb dX0_mountNew_5 rfl (lv_at hl 1 rfl) ?_
  refine lv_iload_n hx hb dX0_mountNew_6 rfl (lv_at hl 2 rfl) ?_
  refine va_calli (va_runV (As := [.ref q_3, .int a0, .int a1]) (rest := []) ⟨hx, hb, hml, hown, hts⟩ (c_X0_parentsBy l g Ty G s.heap.size h0 q_3 a0 a1 k_h0 kq_3) (cwV 3 hts (gwV mw_636 mw_637 mw_638 mw_82 mw_639) rfl rfl rfl hv_X0_parentsBy ⟨Nat.le_of_ble_eq_true rfl, Nat.le_of_ble_eq_true rfl⟩) ⟨PcT_blind, hg_recv hK o_c_1 rfl, PcT_pre hK hH⟩ rfl rfl hl.1 rfl (lv_room (Nat.le_of_ble_eq_true rfl)) dX0_mountNew_7 ⟨Nat.zero_le _, Nat.zero_le _⟩) hS (fun q _ h => AF.mono hS.1 h) (fun q h => AF.mono hS.1 h) (fun x_5 ux_5 t H locs ht hvm hx_5 hB hz hk hS => ?_)
  have hH : HT g Ty G H := by rw [← ht]; rw [hx_5] at hB; exact hB
  refine lv_istore_n (lv' := [(3, .int x_5), (0, .ref h0), (1, .int a0), (2, .int a1)]) hx hb dX0_mountNew_10 rfl hl (by decide) rfl (fun ls hl => ?_)
  refine lv_iload_n hx hb dX0_mountNew_11 rfl (lv_at hl 0 rfl) ?_
  refine lv_if_ge (tgt := 19) hx hb dX0_mountNew_12 (by decide) (fun c_6 => ?_) (fun c_6 => ?_)
  · have r_7 : rgI (0) (2147483647) x_5 := rg_w (rg_leR rl_0 (rg_top x_5) c_6) (by decide) (by decide)
    refine lv_aload_n hx hb dX0_mountNew_19 rfl (lv_at hl 1 rfl) ?_
    refine lv_bipush (v := 24) hx hb dX0_mountNew_20 (by decide) ?_
    refine lv_iload_n hx hb dX0_mountNew_22 rfl (lv_at hl 2 rfl) ?_
    refine lv_iload_n hx hb dX0_mountNew_23 rfl (lv_at hl 3 rfl) ?_
    refine lv_iload_n hx hb dX0_mountNew_24 rfl (lv_at hl 0 rfl) ?_
    obtain ⟨_, ⟨q_9, q_10, q_11, rfl, kq_9, kq_10, kq_11⟩, o_c_8⟩ := hH h0 _ k_h0
    refine va_calli (va_runV (As := [.int 24, .int a0, .int a1, .int x_5]) (rest := []) ⟨hx, hb, hml, hown, hts⟩ (c_X0_bring l g Ty G H.size h0 24 a0 a1 x_5 k_h0) (cwV 4 hts (gwV mw_714 mw_716 mw_12 mw_82 mw_717) rfl rfl rfl hv_X0_bring ⟨Nat.le_of_ble_eq_true rfl, Nat.le_of_ble_eq_true rfl⟩) ⟨PcT_blind, hg_recv hK o_c_8 rfl, PcT_pre hK hH⟩ rfl rfl hl.1 rfl (lv_room (Nat.le_of_ble_eq_true rfl)) dX0_mountNew_25 ⟨Nat.zero_le _, Nat.zero_le _⟩) hS (fun q _ h => AF.mono hS.1 h) (fun q h => AF.mono hS.1 h) (fun x_12 ux_12 t H locs ht hvm hx_12 hB hz hk hS => ?_)
    have hH : HT g Ty G H := by rw [← ht]; rw [hx_12] at hB; exact hB
    exact W.iret hx hb hr (fun t ht hWm => ⟨⟨x_12, (Ty, G), rfl, rfl, by show HT g Ty G t.heap; rw [ht]; exact hH⟩, hS.F ht⟩) hS.2.2 dX0_mountNew_28
  · have r_13 : rgI (-2147483648) (-1) x_5 := rg_w (rg_ltL (rg_top x_5) rl_0 (nle_lt c_6)) (by decide) (by decide)
    refine lv_iload_n hx hb dX0_mountNew_15 rfl (lv_at hl 0 rfl) ?_
    refine lv_goto (tgt := 28) hx hb dX0_mountNew_16 (by decide) ?_
    exact W.iret hx hb hr (fun t ht hWm => ⟨⟨x_5, (Ty, G), rfl, rfl, by show HT g Ty G t.heap; rw [ht]; exact hH⟩, hS.F ht⟩) hS.2.2 dX0_mountNew_28

set_option maxHeartbeats 4000000 in
set_option maxRecDepth 100000 in
theorem c_X0_bindOne (l : Launch) (g : Gx) (Ty : TyM) (G : Gh) (sz : Nat) (h0 : Nat) (a0 : Int32) (a1 : Int32) (a2 : Int32) (k_h0 : Ty h0 = some (10, 0)) : Met l yX0_bindOne (wsG yX0_bindOne cX0_bindOne 5 (some .int)) ({ frames := 5, cells := 0, slots := 0, locals := 123 }) (PcT g Ty G sz [.ref h0, .int a0, .int a1, .int a2]) (QwI g Ty sz (fun r u => u = (Ty, G))) 0 0 (AF Ty sz) := by
  refine Met.ofW (cc := cX0_bindOne) (maxL := 5) (ret := (some .int)) (by decide) rfl ?_
  intro p e s m args below meth c s₁ B hml hv
  obtain ⟨rfl, hsz, hK, hH⟩ := hv
  subst hsz
  have hx := B.exec
  have hb := B.bytes
  have hr := B.returns
  have hts := atoms_spec (ws := (wsG yX0_bindOne cX0_bindOne 5 (some .int))) B.pre
  have hG : ∀ w ∈ GW, w.before ([.ref h0, .int a0, .int a1, .int a2] : List Value).toArray s = true := fun w h => hts w (List.mem_cons_of_mem _ h)
  have hown : s.vm.findClass RX0 = some m.cls := findClass_of_methodNamed B.named
  have hlocks := B.notSynchronized
  have hl := lv_entry [.ref h0, .int a0, .int a1, .int a2] (n := 5) (Nat.le_of_ble_eq_true rfl)
  rw [lg_entry_eq]
  generalize (lg_sl [.ref h0, .int a0, .int a1, .int a2] ++ List.replicate (5 - (lg_sl [.ref h0, .int a0, .int a1, .int a2]).length) Slot.unset).toArray = ls at hl ⊢
  have hl : lv_has ls 5 [(0, .ref h0), (1, .int a0), (2, .int a1), (3, .int a2)] := hl
  have hS : va_S (AF Ty s.heap.size) s.heap s.heap [] := va_S.rf
  have L_38 : ∀ (H : Heap) (locs : List Loc) (y4_38 : Int32) (ls : Array Slot), rgI (-2) (-1) y4_38 → lv_has ls 5 [(4, .int y4_38)] → HT g Ty G H → va_S (AF Ty s.heap.size) s.heap H locs → Wm p l e (wsG yX0_bindOne cX0_bindOne 5 (some .int)) ({ frames := 5, cells := 0, slots := 0, locals := 123 }) s m [.ref h0, .int a0, .int a1, .int a2] below meth c H locs (0) (0) (QwI g Ty s.heap.size (fun r u => u = (Ty, G))) 0 0 (AF Ty s.heap.size) (F0 m 38 ls []) := by
    intro H locs y4_38 ls ry4_38 hl hH hS
    refine lv_iload hx hb dX0_bindOne_38 (lv_at hl 0 rfl) ?_
    exact W.iret hx hb hr (fun t ht hWm => ⟨⟨y4_38, (Ty, G), rfl, rfl, by show HT g Ty G t.heap; rw [ht]; exact hH⟩, hS.F ht⟩) hS.2.2 dX0_bindOne_40
  refine lv_aload_n hx hb dX0_bindOne_0 rfl (lv_at hl 0 rfl) ?_
  obtain ⟨_, ⟨q_2, q_3, q_4, rfl, kq_2, kq_3, kq_4⟩, o_c_1⟩ := hH h0 _ k_h0
  refine hg_get hx hb hG igX0 hown hK o_c_1 rfl 0 (by decide) (hG _ mw_239) rfl dX0_bindOne_1 ?_
  refine lv_iload_n hx hb dX0_bindOne_4 rfl (lv_at hl 1 rfl) ?_
  obtain ⟨_, ⟨q_6, q_7, q_8, q_9, q_10, q_11, q_12, rfl, kq_6, kq_7, kq_8⟩, o_c_5⟩ := hH q_2 _ kq_2
  refine vp_callSi (W.runV (As := [.int a0]) (rest := []) ⟨hx, hb, hml, hown, hts⟩ (c_X10_has l g Ty G q_2 a0 kq_2) (cwV 1 hts (gwV mw_765 mw_604 mw_605 mw_77 mw_606) rfl rfl rfl hv_X10_has ⟨Nat.le_of_ble_eq_true rfl, Nat.le_of_ble_eq_true rfl⟩) ⟨PcH_blind, hg_recv hK o_c_5 rfl, PcH_pre hK hH⟩ rfl rfl hl.1 rfl (lv_room (Nat.le_of_ble_eq_true rfl)) dX0_bindOne_5 ⟨Nat.zero_le _, Nat.zero_le _⟩) (fun x_13 hx_13 => ?_)
  have rx_13 : rgI (0) (1) x_13 := hx_13.1
  refine lv_if_ne (tgt := 13) hx hb dX0_bindOne_8 (by decide) (fun c_14 => ?_) (fun c_14 => ?_)
  · have r_15 : rgI (1) (1) x_13 := rg_w (rg_neL rx_13 rl_0 c_14) (by decide) (by decide)
    have r_16 : rgI (0) (23) a0 := rg_w (hx_13.2.resolve_left c_14) (by decide) (by decide)
    refine lv_aload_n hx hb dX0_bindOne_13 rfl (lv_at hl 0 rfl) ?_
    refine lv_aload_n hx hb dX0_bindOne_14 rfl (lv_at hl 0 rfl) ?_
    refine hg_get hx hb hG igX0 hown hK o_c_1 rfl 1 (by decide) (hG _ mw_240) rfl dX0_bindOne_15 ?_
    refine lv_iload_n hx hb dX0_bindOne_18 rfl (lv_at hl 2 rfl) ?_
    refine lv_iload_n hx hb dX0_bindOne_19 rfl (lv_at hl 3 rfl) ?_
    refine va_calli (va_runV (As := [.ref q_3, .int a1, .int a2]) (rest := []) ⟨hx, hb, hml, hown, hts⟩ (c_X0_parentsBy l g Ty G s.heap.size h0 q_3 a1 a2 k_h0 kq_3) (cwV 3 hts (gwV mw_636 mw_637 mw_638 mw_82 mw_639) rfl rfl rfl hv_X0_parentsBy ⟨Nat.le_of_ble_eq_true rfl, Nat.le_of_ble_eq_true rfl⟩) ⟨PcT_blind, hg_recv hK o_c_1 rfl, PcT_pre hK hH⟩ rfl rfl hl.1 rfl (lv_room (Nat.le_of_ble_eq_true rfl)) dX0_bindOne_20 ⟨Nat.zero_le _, Nat.zero_le _⟩) hS (fun q _ h => AF.mono hS.1 h) (fun q h => AF.mono hS.1 h) (fun x_17 ux_17 t H locs ht hvm hx_17 hB hz hk hS => ?_)
    have hH : HT g Ty G H := by rw [← ht]; rw [hx_17] at hB; exact hB
    refine lv_istore (lv' := [(4, .int x_17), (0, .ref h0), (1, .int a0), (2, .int a1), (3, .int a2)]) hx hb dX0_bindOne_23 hl (by decide) rfl (fun ls hl => ?_)
    refine lv_iload hx hb dX0_bindOne_25 (lv_at hl 0 rfl) ?_
    refine lv_iconst (v := (-1)) hx hb dX0_bindOne_27 (by decide) ?_
    refine lv_icmp_eq (tgt := 38) hx hb dX0_bindOne_28 (by decide) (fun c_18 => ?_) (fun c_18 => ?_)
    · have r_19 : rgI (-1) (-1) x_17 := rg_w (rg_eq rl_m1 c_18) (by decide) (by decide)
      exact L_38 H locs x_17 ls (rg_w r_19 (by decide) (by decide)) (lv_sub hl [0] rfl) hH hS
    · refine lv_iload hx hb dX0_bindOne_31 (lv_at hl 0 rfl) ?_
      refine lv_bipush (v := (-2)) hx hb dX0_bindOne_33 (by decide) ?_
      refine lv_icmp_ne (tgt := 41) hx hb dX0_bindOne_35 (by decide) (fun c_20 => ?_) (fun c_20 => ?_)
      · refine lv_aload_n hx hb dX0_bindOne_41 rfl (lv_at hl 1 rfl) ?_
        obtain ⟨_, ⟨q_22, q_23, q_24, rfl, kq_22, kq_23, kq_24⟩, o_c_21⟩ := hH h0 _ k_h0
        refine hg_get hx hb hG igX0 hown hK o_c_21 rfl 0 (by decide) (hG _ mw_239) rfl dX0_bindOne_42 ?_
        refine lv_iload_n hx hb dX0_bindOne_45 rfl (lv_at hl 2 rfl) ?_
        obtain ⟨_, ⟨q_26, q_27, q_28, q_29, q_30, q_31, q_32, rfl, kq_26, kq_27, kq_28⟩, o_c_25⟩ := hH q_22 _ kq_22
        refine vp_callSi (W.runV (As := [.int a0]) (rest := []) ⟨hx, hb, hml, hown, hts⟩ (c_X10_isUnbindable l g Ty G q_22 a0 kq_22) (cwV 1 hts (gwV mw_766 mw_767 mw_768 mw_77 mw_769) rfl rfl rfl hv_X10_isUnbindable ⟨Nat.le_of_ble_eq_true rfl, Nat.le_of_ble_eq_true rfl⟩) ⟨PcH_blind, hg_recv hK o_c_25 rfl, PcH_pre hK hH⟩ rfl rfl hl.1 rfl (lv_room (Nat.le_of_ble_eq_true rfl)) dX0_bindOne_46 ⟨Nat.zero_le _, Nat.zero_le _⟩) (fun x_33 hx_33 => ?_)
        have rx_33 : rgI (0) (1) x_33 := hx_33.1
        refine lv_if_eq (tgt := 55) hx hb dX0_bindOne_49 (by decide) (fun c_34 => ?_) (fun c_34 => ?_)
        · have r_35 : rgI (0) (0) x_33 := rg_w (rg_eq rl_0 c_34) (by decide) (by decide)
          refine lv_iload hx hb dX0_bindOne_55 (lv_at hl 0 rfl) ?_
          refine lv_if_ge (tgt := 65) hx hb dX0_bindOne_57 (by decide) (fun c_36 => ?_) (fun c_36 => ?_)
          · have r_37 : rgI (0) (2147483647) x_17 := rg_w (rg_leR rl_0 (rg_top x_17) c_36) (by decide) (by decide)
            refine lv_aload_n hx hb dX0_bindOne_65 rfl (lv_at hl 1 rfl) ?_
            refine lv_iload_n hx hb dX0_bindOne_66 rfl (lv_at hl 2 rfl) ?_
            refine lv_iload_n hx hb dX0_bindOne_67 rfl (lv_at hl 3 rfl) ?_
            refine lv_iload_n hx hb dX0_bindOne_68 rfl (lv_at hl 4 rfl) ?_
            refine lv_iload hx hb dX0_bindOne_69 (lv_at hl 0 rfl) ?_
            refine va_calli (va_runV (As := [.int a0, .int a1, .int a2, .int x_17]) (rest := []) ⟨hx, hb, hml, hown, hts⟩ (c_X0_bring l g Ty G H.size h0 a0 a1 a2 x_17 k_h0) (cwV 4 hts (gwV mw_714 mw_716 mw_12 mw_82 mw_717) rfl rfl rfl hv_X0_bring ⟨Nat.le_of_ble_eq_true rfl, Nat.le_of_ble_eq_true rfl⟩) ⟨PcT_blind, hg_recv hK o_c_21 rfl, PcT_pre hK hH⟩ rfl rfl hl.1 rfl (lv_room (Nat.le_of_ble_eq_true rfl)) dX0_bindOne_71 ⟨Nat.zero_le _, Nat.zero_le _⟩) hS (fun q _ h => AF.mono hS.1 h) (fun q h => AF.mono hS.1 h) (fun x_38 ux_38 t H locs ht hvm hx_38 hB hz hk hS => ?_)
            have hH : HT g Ty G H := by rw [← ht]; rw [hx_38] at hB; exact hB
            exact W.iret hx hb hr (fun t ht hWm => ⟨⟨x_38, (Ty, G), rfl, rfl, by show HT g Ty G t.heap; rw [ht]; exact hH⟩, hS.F ht⟩) hS.2.2 dX0_bindOne_74
          · have r_39 : rgI (-2147483648) (-1) x_17 := rg_w (rg_ltL (rg_top x_17) rl_0 (nle_lt c_36)) (by decide) (by decide)
            refine lv_iload hx hb dX0_bindOne_60 (lv_at hl 0 rfl) ?_
            refine lv_goto (tgt := 74) hx hb dX0_bindOne_62 (by decide) ?_
            exact W.iret hx hb hr (fun t ht hWm => ⟨⟨x_17, (Ty, G), rfl, rfl, by show HT g Ty G t.heap; rw [ht]; exact hH⟩, hS.F ht⟩) hS.2.2 dX0_bindOne_74
        · have r_40 : rgI (1) (1) x_33 := rg_w (rg_neL rx_33 rl_0 c_34) (by decide) (by decide)
          refine lv_bipush (v := (-3)) hx hb dX0_bindOne_52 (by decide) ?_
          exact W.iret hx hb hr (fun t ht hWm => ⟨⟨(-3), (Ty, G), rfl, rfl, by show HT g Ty G t.heap; rw [ht]; exact hH⟩, hS.F ht⟩) hS.2.2 dX0_bindOne_54
      · have r_41 : rgI (-2) (-2) x_17 := rg_w (rg_eq rl_m2 c_20) (by decide) (by decide)
        exact L_38 H locs x_17 ls (rg_w r_41 (by decide) (by decide)) (lv_sub hl [0] rfl) hH hS
  · have r_42 : rgI (0) (0) x_13 := rg_w (rg_eq rl_0 c_14) (by decide) (by decide)
    refine lv_iconst (v := (-1)) hx hb dX0_bindOne_11 (by decide) ?_
    exact W.iret hx hb hr (fun t ht hWm => ⟨⟨(-1), (Ty, G), rfl, rfl, by show HT g Ty G t.heap; rw [ht]; exact hH⟩, hS.F ht⟩) hS.2.2 dX0_bindOne_12

set_option maxHeartbeats 4000000 in
set_option maxRecDepth 100000 in
theorem c_X0_bindableTree (l : Launch) (g : Gx) (Ty : TyM) (G : Gh) (h0 : Nat) (a0 : Int32) (k_h0 : Ty h0 = some (10, 0)) : Met l yX0_bindableTree (wsG yX0_bindableTree cX0_bindableTree 7 (some .int)) ({ frames := 1, cells := 0, slots := 0, locals := 21 }) (PcH g Ty G [.ref h0, .int a0]) (vp_Si (fun r => True)) 0 0 (fun _ => False) := by
  refine Met.ofW (cc := cX0_bindableTree) (maxL := 7) (ret := (some .int)) (by decide) rfl ?_
  intro p e s m args below meth c s₁ B hml hv
  obtain ⟨rfl, hK, hH⟩ := hv
  have hx := B.exec
  have hb := B.bytes
  have hr := B.returns
  have hts := atoms_spec (ws := (wsG yX0_bindableTree cX0_bindableTree 7 (some .int))) B.pre
  have hG : ∀ w ∈ GW, w.before ([.ref h0, .int a0] : List Value).toArray s = true := fun w h => hts w (List.mem_cons_of_mem _ h)
  have hown : s.vm.findClass RX0 = some m.cls := findClass_of_methodNamed B.named
  have hlocks := B.notSynchronized
  have hl := lv_entry [.ref h0, .int a0] (n := 7) (Nat.le_of_ble_eq_true rfl)
  rw [lg_entry_eq]
  generalize (lg_sl [.ref h0, .int a0] ++ List.replicate (7 - (lg_sl [.ref h0, .int a0]).length) Slot.unset).toArray = ls at hl ⊢
  have hl : lv_has ls 7 [(0, .ref h0), (1, .int a0)] := hl
  have L_97 : ∀ (y2_97 : Int32) (ls : Array Slot), lv_has ls 7 [(2, .int y2_97)] → Wm p l e (wsG yX0_bindableTree cX0_bindableTree 7 (some .int)) ({ frames := 1, cells := 0, slots := 0, locals := 21 }) s m [.ref h0, .int a0] below meth c s.heap [] (0) (0) (vp_Si (fun r => True)) 0 0 (fun _ => False) (F0 m 97 ls []) := by
    intro y2_97 ls hl
    refine lv_iload_n hx hb dX0_bindableTree_97 rfl (lv_at hl 0 rfl) ?_
    exact W.iret hx hb hr (fun t ht hW => ⟨y2_97, rfl, trivial, ht⟩) (fun q h => by cases h) dX0_bindableTree_98
  have L_9 : ∀ (n : Nat) (y2_9 : Int32) (y3_9 : Int32) (y4_9 : Int32) (ls : Array Slot), rgI (0) (24) y4_9 → (24 - (y4_9).toInt).toNat < n → lv_has ls 7 [(0, .ref h0), (2, .int y2_9), (3, .int y3_9), (4, .int y4_9)] → Wm p l e (wsG yX0_bindableTree cX0_bindableTree 7 (some .int)) ({ frames := 1, cells := 0, slots := 0, locals := 21 }) s m [.ref h0, .int a0] below meth c s.heap [] (0) (0) (vp_Si (fun r => True)) 0 0 (fun _ => False) (F0 m 9 ls []) := by
    intro n
    induction n with
    | zero => intro y2_9 y3_9 y4_9 ls ry4_9 hm; exact absurd hm (Nat.not_lt_zero _)
    | succ n ih_9 =>
      intro y2_9 y3_9 y4_9 ls ry4_9 hm_9 hl
      have L_32 : ∀ (n : Nat) (y2_32 : Int32) (y3_32 : Int32) (y5_32 : Int32) (ls : Array Slot), rgI (0) (23) y4_9 → rgI (0) (24) y5_32 → (24 - (y5_32).toInt).toNat < n → lv_has ls 7 [(0, .ref h0), (2, .int y2_32), (3, .int y3_32), (4, .int y4_9), (5, .int y5_32)] → Wm p l e (wsG yX0_bindableTree cX0_bindableTree 7 (some .int)) ({ frames := 1, cells := 0, slots := 0, locals := 21 }) s m [.ref h0, .int a0] below meth c s.heap [] (0) (0) (vp_Si (fun r => True)) 0 0 (fun _ => False) (F0 m 32 ls []) := by
        intro n
        induction n with
        | zero => intro y2_32 y3_32 y5_32 ls ry4_32 ry5_32 hm; exact absurd hm (Nat.not_lt_zero _)
        | succ n ih_32 =>
          intro y2_32 y3_32 y5_32 ls ry4_32 ry5_32 hm_32 hl
          have L_85 : ∀ (y2_85 : Int32) (ls : Array Slot), rgI (0) (23) y4_9 → rgI (0) (23) y5_32 → lv_has ls 7 [(0, .ref h0), (2, .int y2_85), (3, .int y3_32), (4, .int y4_9), (5, .int y5_32)] → Wm p l e (wsG yX0_bindableTree cX0_bindableTree 7 (some .int)) ({ frames := 1, cells := 0, slots := 0, locals := 21 }) s m [.ref h0, .int a0] below meth c s.heap [] (0) (0) (vp_Si (fun r => True)) 0 0 (fun _ => False) (F0 m 85 ls []) := by
            intro y2_85 ls ry4_85 ry5_85 hl
            obtain ⟨x_1, ex_1⟩ : ∃ y : Int32, y = y5_32 + 1 := ⟨_, rfl⟩
            have rx_1 : rgI (1) (24) x_1 := by rw [ex_1]; exact rg_w (rg_add ry5_85 rl_1 (by decide) (by decide)) (by decide) (by decide)
            have qx_1 : x_1.toInt = (y5_32 : Int32).toInt + 1 := by rw [ex_1]; exact rg_addE ry5_85 rl_1 (by decide) (by decide)
            refine lv_iinc (v := x_1) (lv' := [(5, .int x_1), (0, .ref h0), (2, .int y2_85), (3, .int y3_32), (4, .int y4_9)]) hx hb dX0_bindableTree_85 hl (k := 4) rfl (by rw [ex_1]; rfl) (by decide) rfl (fun ls hl => ?_)
            refine lv_goto (tgt := 32) hx hb dX0_bindableTree_88 (by decide) ?_
            exact ih_32 y2_85 y3_32 x_1 ls ry4_85 (rg_w rx_1 (by decide) (by decide)) (by have h1 := qx_1; have h2 := ry5_85.1; have h3 := ry5_85.2; have h4 := hm_32; omega) (lv_sub hl [1, 2, 3, 4, 0] rfl)
          refine lv_iload hx hb dX0_bindableTree_32 (lv_at hl 4 rfl) ?_
          refine lv_bipush (v := 24) hx hb dX0_bindableTree_34 (by decide) ?_
          refine lv_icmp_ge (tgt := 91) hx hb dX0_bindableTree_36 (by decide) (fun c_2 => ?_) (fun c_2 => ?_)
          · have r_3 : rgI (24) (24) y5_32 := rg_w (rg_leR rl_24 ry5_32 c_2) (by decide) (by decide)
            obtain ⟨x_4, ex_4⟩ : ∃ y : Int32, y = y4_9 + 1 := ⟨_, rfl⟩
            have rx_4 : rgI (1) (24) x_4 := by rw [ex_4]; exact rg_w (rg_add ry4_32 rl_1 (by decide) (by decide)) (by decide) (by decide)
            have qx_4 : x_4.toInt = (y4_9 : Int32).toInt + 1 := by rw [ex_4]; exact rg_addE ry4_32 rl_1 (by decide) (by decide)
            refine lv_iinc (v := x_4) (lv' := [(4, .int x_4), (0, .ref h0), (2, .int y2_32), (3, .int y3_32), (5, .int y5_32)]) hx hb dX0_bindableTree_91 hl (k := 3) rfl (by rw [ex_4]; rfl) (by decide) rfl (fun ls hl => ?_)
            refine lv_goto (tgt := 9) hx hb dX0_bindableTree_94 (by decide) ?_
            exact ih_9 y2_32 y3_32 x_4 ls (rg_w rx_4 (by decide) (by decide)) (by have h1 := qx_4; have h2 := ry4_32.1; have h3 := ry4_32.2; have h4 := hm_9; omega) (lv_sub hl [1, 2, 3, 0] rfl)
          · have r_5 : rgI (0) (23) y5_32 := rg_w (rg_ltL ry5_32 rl_24 (nle_lt c_2)) (by decide) (by decide)
            refine lv_aload_n hx hb dX0_bindableTree_39 rfl (lv_at hl 0 rfl) ?_
            obtain ⟨_, ⟨q_7, q_8, q_9, rfl, kq_7, kq_8, kq_9⟩, o_c_6⟩ := hH h0 _ k_h0
            refine hg_get hx hb hG igX0 hown hK o_c_6 rfl 0 (by decide) (hG _ mw_239) rfl dX0_bindableTree_40 ?_
            refine lv_iload hx hb dX0_bindableTree_43 (lv_at hl 4 rfl) ?_
            obtain ⟨_, ⟨q_11, q_12, q_13, q_14, q_15, q_16, q_17, rfl, kq_11, kq_12, kq_13⟩, o_c_10⟩ := hH q_7 _ kq_7
            refine vp_callSi (W.runV (As := [.int y5_32]) (rest := []) ⟨hx, hb, hml, hown, hts⟩ (c_X10_parentOf l g Ty G q_7 y5_32 kq_7) (cwV 1 hts (gwV mw_783 mw_683 mw_684 mw_77 mw_685) rfl rfl rfl hv_X10_parentOf ⟨Nat.le_of_ble_eq_true rfl, Nat.le_of_ble_eq_true rfl⟩) ⟨PcH_blind, hg_recv hK o_c_10 rfl, PcH_pre hK hH⟩ rfl rfl hl.1 rfl (lv_room (Nat.le_of_ble_eq_true rfl)) dX0_bindableTree_45 ⟨Nat.zero_le _, Nat.zero_le _⟩) (fun x_18 hx_18 => ?_)
            refine lv_istore (lv' := [(6, .int x_18), (0, .ref h0), (2, .int y2_32), (3, .int y3_32), (4, .int y4_9), (5, .int y5_32)]) hx hb dX0_bindableTree_48 hl (by decide) rfl (fun ls hl => ?_)
            refine lv_iload hx hb dX0_bindableTree_50 (lv_at hl 0 rfl) ?_
            refine lv_bipush (v := 24) hx hb dX0_bindableTree_52 (by decide) ?_
            refine lv_icmp_eq (tgt := 85) hx hb dX0_bindableTree_54 (by decide) (fun c_19 => ?_) (fun c_19 => ?_)
            · have r_20 : rgI (24) (24) x_18 := rg_w (rg_eq rl_24 c_19) (by decide) (by decide)
              exact L_85 y2_32 ls ry4_32 r_5 (lv_sub hl [1, 2, 3, 4, 5] rfl)
            · refine lv_iload_n hx hb dX0_bindableTree_57 rfl (lv_at hl 2 rfl) ?_
              refine lv_iconst (v := 1) hx hb dX0_bindableTree_58 (by decide) ?_
              refine lv_iload hx hb dX0_bindableTree_59 (lv_at hl 0 rfl) ?_
              refine lv_ishl hx hb dX0_bindableTree_61 ?_
              refine lv_topi (fun x_21 ex_21 => ?_)
              refine lv_iand hx hb dX0_bindableTree_62 ?_
              refine lv_topi (fun x_22 ex_22 => ?_)
              refine lv_if_eq (tgt := 85) hx hb dX0_bindableTree_63 (by decide) (fun c_23 => ?_) (fun c_23 => ?_)
              · have r_24 : rgI (0) (0) x_22 := rg_w (rg_eq rl_0 c_23) (by decide) (by decide)
                exact L_85 y2_32 ls ry4_32 r_5 (lv_sub hl [1, 2, 3, 4, 5] rfl)
              · refine lv_aload_n hx hb dX0_bindableTree_66 rfl (lv_at hl 1 rfl) ?_
                refine hg_get hx hb hG igX0 hown hK o_c_6 rfl 0 (by decide) (hG _ mw_239) rfl dX0_bindableTree_67 ?_
                refine lv_iload hx hb dX0_bindableTree_70 (lv_at hl 5 rfl) ?_
                refine vp_callSi (W.runV (As := [.int y5_32]) (rest := []) ⟨hx, hb, hml, hown, hts⟩ (c_X10_isUnbindable l g Ty G q_7 y5_32 kq_7) (cwV 1 hts (gwV mw_766 mw_767 mw_768 mw_77 mw_769) rfl rfl rfl hv_X10_isUnbindable ⟨Nat.le_of_ble_eq_true rfl, Nat.le_of_ble_eq_true rfl⟩) ⟨PcH_blind, hg_recv hK o_c_10 rfl, PcH_pre hK hH⟩ rfl rfl hl.1 rfl (lv_room (Nat.le_of_ble_eq_true rfl)) dX0_bindableTree_72 ⟨Nat.zero_le _, Nat.zero_le _⟩) (fun x_25 hx_25 => ?_)
                have rx_25 : rgI (0) (1) x_25 := hx_25.1
                refine lv_if_ne (tgt := 85) hx hb dX0_bindableTree_75 (by decide) (fun c_26 => ?_) (fun c_26 => ?_)
                · have r_27 : rgI (1) (1) x_25 := rg_w (rg_neL rx_25 rl_0 c_26) (by decide) (by decide)
                  exact L_85 y2_32 ls ry4_32 r_5 (lv_sub hl [1, 2, 3, 4, 5] rfl)
                · have r_28 : rgI (0) (0) x_25 := rg_w (rg_eq rl_0 c_26) (by decide) (by decide)
                  refine lv_iload_n hx hb dX0_bindableTree_78 rfl (lv_at hl 2 rfl) ?_
                  refine lv_iconst (v := 1) hx hb dX0_bindableTree_79 (by decide) ?_
                  refine lv_iload hx hb dX0_bindableTree_80 (lv_at hl 5 rfl) ?_
                  refine lv_ishl hx hb dX0_bindableTree_82 ?_
                  refine lv_topi (fun x_29 ex_29 => ?_)
                  refine lv_ior hx hb dX0_bindableTree_83 ?_
                  refine lv_topi (fun x_30 ex_30 => ?_)
                  refine lv_istore_n (lv' := [(2, .int x_30), (6, .int x_18), (0, .ref h0), (3, .int y3_32), (4, .int y4_9), (5, .int y5_32)]) hx hb dX0_bindableTree_84 rfl hl (by decide) rfl (fun ls hl => ?_)
                  exact L_85 x_30 ls ry4_32 r_5 (lv_sub hl [2, 0, 3, 4, 5] rfl)
      refine lv_iload hx hb dX0_bindableTree_9 (lv_at hl 3 rfl) ?_
      refine lv_bipush (v := 24) hx hb dX0_bindableTree_11 (by decide) ?_
      refine lv_icmp_ge (tgt := 97) hx hb dX0_bindableTree_13 (by decide) (fun c_31 => ?_) (fun c_31 => ?_)
      · have r_32 : rgI (24) (24) y4_9 := rg_w (rg_leR rl_24 ry4_9 c_31) (by decide) (by decide)
        exact L_97 y2_9 ls (lv_sub hl [1] rfl)
      · have r_33 : rgI (0) (23) y4_9 := rg_w (rg_ltL ry4_9 rl_24 (nle_lt c_31)) (by decide) (by decide)
        refine lv_iload_n hx hb dX0_bindableTree_16 rfl (lv_at hl 1 rfl) ?_
        refine vp_callSi (W.runS (As := [.int y2_9]) (rest := []) ⟨hx, hb, hml, hown, hts⟩ (c_J6_bitCount_0f7a4 l g Ty G y2_9 ) (cwSx 1 hts hG (gwC mw_620) mw_99 mw_713 mw_619 rfl rfl rfl hd_J6_bitCount_0f7a4 ⟨Nat.le_of_ble_eq_true rfl, Nat.le_of_ble_eq_true rfl⟩) ⟨PcH_blind, PcH_pre hK hH⟩ rfl rfl hl.1 rfl (lv_room (Nat.le_of_ble_eq_true rfl)) dX0_bindableTree_17 ⟨Nat.zero_le _, Nat.zero_le _⟩) (fun x_34 hx_34 => ?_)
        refine lv_iload_n hx hb dX0_bindableTree_20 rfl (lv_at hl 2 rfl) ?_
        refine lv_icmp_le (tgt := 97) hx hb dX0_bindableTree_21 (by decide) (fun c_35 => ?_) (fun c_35 => ?_)
        · exact L_97 y2_9 ls (lv_sub hl [1] rfl)
        · have r_36 : rgI (-2147483648) (2147483646) y3_9 := rg_w (rg_ltL (rg_top y3_9) (rg_top x_34) (nle_lt c_35)) (by decide) (by decide)
          have r_37 : rgI (-2147483647) (2147483647) x_34 := rg_w (rg_ltR (rg_top y3_9) (rg_top x_34) (nle_lt c_35)) (by decide) (by decide)
          refine lv_iload_n hx hb dX0_bindableTree_24 rfl (lv_at hl 1 rfl) ?_
          refine vp_callSi (W.runS (As := [.int y2_9]) (rest := []) ⟨hx, hb, hml, hown, hts⟩ (c_J6_bitCount_0f7a4 l g Ty G y2_9 ) (cwSx 1 hts hG (gwC mw_620) mw_99 mw_713 mw_619 rfl rfl rfl hd_J6_bitCount_0f7a4 ⟨Nat.le_of_ble_eq_true rfl, Nat.le_of_ble_eq_true rfl⟩) ⟨PcH_blind, PcH_pre hK hH⟩ rfl rfl hl.1 rfl (lv_room (Nat.le_of_ble_eq_true rfl)) dX0_bindableTree_25 ⟨Nat.zero_le _, Nat.zero_le _⟩) (fun x_38 hx_38 => ?_)
          refine lv_istore_n (lv' := [(3, .int x_38), (0, .ref h0), (2, .int y2_9), (4, .int y4_9)]) hx hb dX0_bindableTree_28 rfl hl (by decide) rfl (fun ls hl => ?_)
          refine lv_iconst (v := 0) hx hb dX0_bindableTree_29 (by decide) ?_
          refine lv_istore (lv' := [(5, .int 0), (3, .int x_38), (0, .ref h0), (2, .int y2_9), (4, .int y4_9)]) hx hb dX0_bindableTree_30 hl (by decide) rfl (fun ls hl => ?_)
          exact L_32 _ y2_9 x_38 0 ls r_33 (rg_w rl_0 (by decide) (by decide)) (Nat.lt_succ_self _) (lv_sub hl [2, 3, 1, 4, 0] rfl)
  refine lv_iconst (v := 1) hx hb dX0_bindableTree_0 (by decide) ?_
  refine lv_iload_n hx hb dX0_bindableTree_1 rfl (lv_at hl 1 rfl) ?_
  refine lv_ishl hx hb dX0_bindableTree_2 ?_
  refine lv_topi (fun x_39 ex_39 => ?_)
  refine lv_istore_n (lv' := [(2, .int x_39), (0, .ref h0), (1, .int a0)]) hx hb dX0_bindableTree_3 rfl hl (by decide) rfl (fun ls hl => ?_)
  refine lv_iconst (v := 0) hx hb dX0_bindableTree_4 (by decide) ?_
  refine lv_istore_n (lv' := [(3, .int 0), (2, .int x_39), (0, .ref h0), (1, .int a0)]) hx hb dX0_bindableTree_5 rfl hl (by decide) rfl (fun ls hl => ?_)
  refine lv_iconst (v := 0) hx hb dX0_bindableTree_6 (by decide) ?_
  refine lv_istore (lv' := [(4, .int 0), (3, .int 0), (2, .int x_39), (0, .ref h0), (1, .int a0)]) hx hb dX0_bindableTree_7 hl (by decide) rfl (fun ls hl => ?_)
  exact L_9 _ x_39 0 0 ls (rg_w rl_0 (by decide) (by decide)) (Nat.lt_succ_self _) (lv_sub hl [3, 2, 1, 0] rfl)

set_option maxHeartbeats 4000000 in
set_option maxRecDepth 100000 in
theorem c_X0_makeKind (l : Launch) (g : Gx) (Ty : TyM) (G : Gh) (sz : Nat) (h0 : Nat) (a0 : Int32) (a1 : Int32) (k_h0 : Ty h0 = some (10, 0)) : Met l yX0_makeKind (wsG yX0_makeKind cX0_makeKind 4 (some .int)) ({ frames := 5, cells := 0, slots := 0, locals := 109 }) (PcT g Ty G sz [.ref h0, .int a0, .int a1]) (QwI g Ty sz (fun r u => u = (Ty, G))) 0 0 (AF Ty sz) := by
  refine Met.ofW (cc := cX0_makeKind) (maxL := 4) (ret := (some .int)) (by decide) rfl ?_
  intro p e s m args below meth c s₁ B hml hv
  obtain ⟨rfl, hsz, hK, hH⟩ := hv
  subst hsz
  have hx := B.exec
  have hb := B.bytes
  have hr := B.returns
  have hts := atoms_spec (ws := (wsG yX0_makeKind cX0_makeKind 4 (some .int))) B.pre
  have hG : ∀ w ∈ GW, w.before ([.ref h0, .int a0, .int a1] : List Value).toArray s = true := fun w h => hts w (List.mem_cons_of_mem _ h)
  have hown : s.vm.findClass RX0 = some m.cls := findClass_of_methodNamed B.named
  have hlocks := B.notSynchronized
  have hl := lv_entry [.ref h0, .int a0, .int a1] (n := 4) (Nat.le_of_ble_eq_true rfl)
  rw [lg_entry_eq]
  generalize (lg_sl [.ref h0, .int a0, .int a1] ++ List.replicate (4 - (lg_sl [.ref h0, .int a0, .int a1]).length) Slot.unset).toArray = ls at hl ⊢
  have hl : lv_has ls 4 [(0, .ref h0), (1, .int a0), (2, .int a1)] := hl
  have hS : va_S (AF Ty s.heap.size) s.heap s.heap [] := va_S.rf
  have L_117 : ∀ (H : Heap) (locs : List Loc) (y3_117 : Int32) (ls : Array Slot), rgI (0) (23) a0 → lv_has ls 4 [(0, .ref h0), (1, .int a0), (3, .int y3_117)] → HT g Ty G H → va_S (AF Ty s.heap.size) s.heap H locs → Wm p l e (wsG yX0_makeKind cX0_makeKind 4 (some .int)) ({ frames := 5, cells := 0, slots := 0, locals := 109 }) s m [.ref h0, .int a0, .int a1] below meth c H locs (0) (0) (QwI g Ty s.heap.size (fun r u => u = (Ty, G))) 0 0 (AF Ty s.heap.size) (F0 m 117 ls []) := by
    intro H locs y3_117 ls ry1_117 hl hH hS
    refine lv_aload_n hx hb dX0_makeKind_117 rfl (lv_at hl 0 rfl) ?_
    obtain ⟨_, ⟨q_2, q_3, q_4, rfl, kq_2, kq_3, kq_4⟩, o_c_1⟩ := hH h0 _ k_h0
    refine hg_get hx hb hG igX0 hown hK o_c_1 rfl 0 (by decide) (hG _ mw_239) rfl dX0_makeKind_118 ?_
    refine lv_dup hx hb dX0_makeKind_121 rfl ?_
    obtain ⟨_, ⟨q_6, q_7, q_8, q_9, q_10, q_11, q_12, rfl, kq_6, kq_7, kq_8⟩, o_c_5⟩ := hH q_2 _ kq_2
    refine hg_getN hx hb hG igX10 hown hK o_c_5 rfl 5 (by decide) ((hK.2.1 _ nwf_125).use rfl) rfl dX0_makeKind_122 ?_
    refine lv_iconst (v := 1) hx hb dX0_makeKind_125 (by decide) ?_
    refine lv_iadd hx hb dX0_makeKind_126 ?_
    refine lv_topi (fun x_13 ex_13 => ?_)
    refine hg_putN (ty := .int) hx hb hG igX10 tyX10 tyX10_ok nmX10 hown hK hS o_c_5 (AF.of kq_2) rfl 5 (by decide) ((hK.2.1 _ nwf_125).use rfl) rfl (by decide +kernel) rfl rfl (Nat.le_of_ble_eq_true rfl) dX0_makeKind_127 (fun H locs o_c_5 hz oq hS => ?_)
    have o_c_5 : va_at g.1 vwCl (q_2, .inr (10, [.ref q_6, .ref q_7, .ref q_8, .int q_9, .int q_10, .int x_13, .int q_12])) H := o_c_5
    have hH : HT g Ty G H := hH.put kq_2 ⟨q_6, q_7, q_8, q_9, q_10, x_13, q_12, rfl, kq_6, kq_7, kq_8⟩ o_c_5 oq
    have o_c_1 := o_c_1.kept (oq _ (ne_kd k_h0 kq_2 (by decide)))
    clear oq hz
    refine lv_bipush (v := 10) hx hb dX0_makeKind_130 (by decide) ?_
    refine lv_iload_n hx hb dX0_makeKind_132 rfl (lv_at hl 2 rfl) ?_
    refine lv_imul hx hb dX0_makeKind_133 ?_
    refine lv_topi (fun x_14 ex_14 => ?_)
    refine lv_aload_n hx hb dX0_makeKind_134 rfl (lv_at hl 0 rfl) ?_
    refine hg_get hx hb hG igX0 hown hK o_c_1 rfl 0 (by decide) (hG _ mw_239) rfl dX0_makeKind_135 ?_
    refine lv_iload_n hx hb dX0_makeKind_138 rfl (lv_at hl 1 rfl) ?_
    refine vp_callSi (W.runV (As := [.int a0]) (rest := [.int x_14]) ⟨hx, hb, hml, hown, hts⟩ (c_X10_kindOf l g Ty G q_2 a0 kq_2) (cwV 1 hts (gwV mw_796 mw_694 mw_695 mw_77 mw_696) rfl rfl rfl hv_X10_kindOf ⟨Nat.le_of_ble_eq_true rfl, Nat.le_of_ble_eq_true rfl⟩) ⟨PcH_blind, hg_recv hK o_c_5 rfl, PcH_pre hK hH⟩ rfl rfl hl.1 rfl (lv_room (Nat.le_of_ble_eq_true rfl)) dX0_makeKind_139 ⟨Nat.zero_le _, Nat.zero_le _⟩) (fun x_15 hx_15 => ?_)
    refine lv_iadd hx hb dX0_makeKind_142 ?_
    refine lv_topi (fun x_16 ex_16 => ?_)
    exact W.iret hx hb hr (fun t ht hWm => ⟨⟨x_16, (Ty, G), rfl, rfl, by show HT g Ty G t.heap; rw [ht]; exact hH⟩, hS.F ht⟩) hS.2.2 dX0_makeKind_143
  have L_41 : ∀ (H : Heap) (locs : List Loc) (ls : Array Slot), rgI (0) (23) a0 → rgI (0) (3) a1 → lv_has ls 4 [(0, .ref h0), (1, .int a0), (2, .int a1)] → HT g Ty G H → va_S (AF Ty s.heap.size) s.heap H locs → Wm p l e (wsG yX0_makeKind cX0_makeKind 4 (some .int)) ({ frames := 5, cells := 0, slots := 0, locals := 109 }) s m [.ref h0, .int a0, .int a1] below meth c H locs (0) (0) (QwI g Ty s.heap.size (fun r u => u = (Ty, G))) 0 0 (AF Ty s.heap.size) (F0 m 41 ls []) := by
    intro H locs ls ry1_41 ry2_41 hl hH hS
    refine lv_aload_n hx hb dX0_makeKind_41 rfl (lv_at hl 0 rfl) ?_
    obtain ⟨_, ⟨q_18, q_19, q_20, rfl, kq_18, kq_19, kq_20⟩, o_c_17⟩ := hH h0 _ k_h0
    refine hg_get hx hb hG igX0 hown hK o_c_17 rfl 0 (by decide) (hG _ mw_239) rfl dX0_makeKind_42 ?_
    refine lv_iload_n hx hb dX0_makeKind_45 rfl (lv_at hl 1 rfl) ?_
    obtain ⟨_, ⟨q_22, q_23, q_24, q_25, q_26, q_27, q_28, rfl, kq_22, kq_23, kq_24⟩, o_c_21⟩ := hH q_18 _ kq_18
    refine vp_callSi (W.runV (As := [.int a0]) (rest := []) ⟨hx, hb, hml, hown, hts⟩ (c_X10_kindOf l g Ty G q_18 a0 kq_18) (cwV 1 hts (gwV mw_796 mw_694 mw_695 mw_77 mw_696) rfl rfl rfl hv_X10_kindOf ⟨Nat.le_of_ble_eq_true rfl, Nat.le_of_ble_eq_true rfl⟩) ⟨PcH_blind, hg_recv hK o_c_21 rfl, PcH_pre hK hH⟩ rfl rfl hl.1 rfl (lv_room (Nat.le_of_ble_eq_true rfl)) dX0_makeKind_46 ⟨Nat.zero_le _, Nat.zero_le _⟩) (fun x_29 hx_29 => ?_)
    refine lv_istore_n (lv' := [(3, .int x_29), (0, .ref h0), (1, .int a0), (2, .int a1)]) hx hb dX0_makeKind_49 rfl hl (by decide) rfl (fun ls hl => ?_)
    refine lv_iload_n hx hb dX0_makeKind_50 rfl (lv_at hl 3 rfl) ?_
    by_cases c_30 : a1 = 0
    · refine lv_tableIn (tgt := 76) hx hb dX0_makeKind_51 (by rw [c_30]; decide) (by rw [c_30]; decide) (off := 25) (by rw [c_30]; rfl) (by decide) ?_
      have r_31 : rgI (0) (0) a1 := rg_w (rg_eq rl_0 c_30) (by decide) (by decide)
      refine lv_aload_n hx hb dX0_makeKind_76 rfl (lv_at hl 1 rfl) ?_
      refine hg_get hx hb hG igX0 hown hK o_c_17 rfl 0 (by decide) (hG _ mw_239) rfl dX0_makeKind_77 ?_
      refine lv_iload_n hx hb dX0_makeKind_80 rfl (lv_at hl 2 rfl) ?_
      refine va_callv (va_runV (As := [.int a0]) (rest := []) ⟨hx, hb, hml, hown, hts⟩ (c_X10_makePrivate l g Ty G H.size q_18 a0 kq_18) (cwV 1 hts (gwV mw_797 mw_798 mw_799 mw_77 mw_800) rfl rfl rfl hv_X10_makePrivate ⟨Nat.le_of_ble_eq_true rfl, Nat.le_of_ble_eq_true rfl⟩) ⟨PcT_blind, hg_recv hK o_c_21 rfl, PcT_pre hK hH⟩ rfl rfl hl.1 rfl (lv_room (Nat.le_of_ble_eq_true rfl)) dX0_makeKind_81 ⟨Nat.zero_le _, Nat.zero_le _⟩) hS (fun q _ h => AF.mono hS.1 h) (fun q h => AF.mono hS.1 h) (fun ux_32 t H locs ht hvm hx_32 hB hz hk hS => ?_)
      have hH : HT g Ty G H := by rw [← ht]; rw [hx_32] at hB; exact hB
      refine lv_goto (tgt := 117) hx hb dX0_makeKind_84 (by decide) ?_
      exact L_117 H locs x_29 ls ry1_41 (lv_sub hl [1, 2, 0] rfl) hH hS
    by_cases c_33 : a1 = 1
    · refine lv_tableIn (tgt := 87) hx hb dX0_makeKind_51 (by rw [c_33]; decide) (by rw [c_33]; decide) (off := 36) (by rw [c_33]; rfl) (by decide) ?_
      have r_34 : rgI (1) (1) a1 := rg_w (rg_eq rl_1 c_33) (by decide) (by decide)
      refine lv_aload_n hx hb dX0_makeKind_87 rfl (lv_at hl 1 rfl) ?_
      refine hg_get hx hb hG igX0 hown hK o_c_17 rfl 0 (by decide) (hG _ mw_239) rfl dX0_makeKind_88 ?_
      refine lv_iload_n hx hb dX0_makeKind_91 rfl (lv_at hl 2 rfl) ?_
      refine va_callv (va_runV (As := [.int a0]) (rest := []) ⟨hx, hb, hml, hown, hts⟩ (c_X10_makeShared l g Ty G H.size q_18 a0 kq_18) (cwV 1 hts (gwV mw_805 mw_806 mw_807 mw_77 mw_808) rfl rfl rfl hv_X10_makeShared ⟨Nat.le_of_ble_eq_true rfl, Nat.le_of_ble_eq_true rfl⟩) ⟨PcT_blind, hg_recv hK o_c_21 rfl, PcT_pre hK hH⟩ rfl rfl hl.1 rfl (lv_room (Nat.le_of_ble_eq_true rfl)) dX0_makeKind_92 ⟨Nat.zero_le _, Nat.zero_le _⟩) hS (fun q _ h => AF.mono hS.1 h) (fun q h => AF.mono hS.1 h) (fun ux_35 t H locs ht hvm hx_35 hB hz hk hS => ?_)
      have hH : HT g Ty G H := by rw [← ht]; rw [hx_35] at hB; exact hB
      refine lv_goto (tgt := 117) hx hb dX0_makeKind_95 (by decide) ?_
      exact L_117 H locs x_29 ls ry1_41 (lv_sub hl [1, 2, 0] rfl) hH hS
    by_cases c_36 : a1 = 2
    · refine lv_tableIn (tgt := 98) hx hb dX0_makeKind_51 (by rw [c_36]; decide) (by rw [c_36]; decide) (off := 47) (by rw [c_36]; rfl) (by decide) ?_
      have r_37 : rgI (2) (2) a1 := rg_w (rg_eq rl_2 c_36) (by decide) (by decide)
      refine lv_aload_n hx hb dX0_makeKind_98 rfl (lv_at hl 1 rfl) ?_
      refine hg_get hx hb hG igX0 hown hK o_c_17 rfl 0 (by decide) (hG _ mw_239) rfl dX0_makeKind_99 ?_
      refine lv_iload_n hx hb dX0_makeKind_102 rfl (lv_at hl 2 rfl) ?_
      refine va_callv (va_runV (As := [.int a0]) (rest := []) ⟨hx, hb, hml, hown, hts⟩ (c_X10_makeSlave l g Ty G H.size q_18 a0 kq_18) (cwV 1 hts (gwV mw_810 mw_811 mw_812 mw_77 mw_813) rfl rfl rfl hv_X10_makeSlave ⟨Nat.le_of_ble_eq_true rfl, Nat.le_of_ble_eq_true rfl⟩) ⟨PcT_blind, hg_recv hK o_c_21 rfl, PcT_pre hK hH⟩ rfl rfl hl.1 rfl (lv_room (Nat.le_of_ble_eq_true rfl)) dX0_makeKind_103 ⟨Nat.zero_le _, Nat.zero_le _⟩) hS (fun q _ h => AF.mono hS.1 h) (fun q h => AF.mono hS.1 h) (fun ux_38 t H locs ht hvm hx_38 hB hz hk hS => ?_)
      have hH : HT g Ty G H := by rw [← ht]; rw [hx_38] at hB; exact hB
      refine lv_goto (tgt := 117) hx hb dX0_makeKind_106 (by decide) ?_
      exact L_117 H locs x_29 ls ry1_41 (lv_sub hl [1, 2, 0] rfl) hH hS
    refine lv_tableOut (tgt := 109) hx hb dX0_makeKind_51 (by have := lv_neT (a := 0) c_30 rfl; have := lv_neT (a := 1) c_33 rfl; have := lv_neT (a := 2) c_36 rfl; omega) (by decide) ?_
    have r_39 : rgI (1) (3) a1 := rg_w (rg_neL ry2_41 rl_0 c_30) (by decide) (by decide)
    have r_40 : rgI (2) (3) a1 := rg_w (rg_neL r_39 rl_1 c_33) (by decide) (by decide)
    have r_41 : rgI (3) (3) a1 := rg_w (rg_neL r_40 rl_2 c_36) (by decide) (by decide)
    refine lv_aload_n hx hb dX0_makeKind_109 rfl (lv_at hl 1 rfl) ?_
    refine hg_get hx hb hG igX0 hown hK o_c_17 rfl 0 (by decide) (hG _ mw_239) rfl dX0_makeKind_110 ?_
    refine lv_iload_n hx hb dX0_makeKind_113 rfl (lv_at hl 2 rfl) ?_
    refine va_callv (va_runV (As := [.int a0]) (rest := []) ⟨hx, hb, hml, hown, hts⟩ (c_X10_makeUnbindable l g Ty G H.size q_18 a0 kq_18) (cwV 1 hts (gwV mw_814 mw_815 mw_816 mw_77 mw_817) rfl rfl rfl hv_X10_makeUnbindable ⟨Nat.le_of_ble_eq_true rfl, Nat.le_of_ble_eq_true rfl⟩) ⟨PcT_blind, hg_recv hK o_c_21 rfl, PcT_pre hK hH⟩ rfl rfl hl.1 rfl (lv_room (Nat.le_of_ble_eq_true rfl)) dX0_makeKind_114 ⟨Nat.zero_le _, Nat.zero_le _⟩) hS (fun q _ h => AF.mono hS.1 h) (fun q h => AF.mono hS.1 h) (fun ux_42 t H locs ht hvm hx_42 hB hz hk hS => ?_)
    have hH : HT g Ty G H := by rw [← ht]; rw [hx_42] at hB; exact hB
    exact L_117 H locs x_29 ls ry1_41 (lv_sub hl [1, 2, 0] rfl) hH hS
  have L_20 : ∀ (H : Heap) (locs : List Loc) (ls : Array Slot), lv_has ls 4 [] → HT g Ty G H → va_S (AF Ty s.heap.size) s.heap H locs → Wm p l e (wsG yX0_makeKind cX0_makeKind 4 (some .int)) ({ frames := 5, cells := 0, slots := 0, locals := 109 }) s m [.ref h0, .int a0, .int a1] below meth c H locs (0) (0) (QwI g Ty s.heap.size (fun r u => u = (Ty, G))) 0 0 (AF Ty s.heap.size) (F0 m 20 ls []) := by
    intro H locs ls hl hH hS
    refine lv_iconst (v := (-1)) hx hb dX0_makeKind_20 (by decide) ?_
    exact W.iret hx hb hr (fun t ht hWm => ⟨⟨(-1), (Ty, G), rfl, rfl, by show HT g Ty G t.heap; rw [ht]; exact hH⟩, hS.F ht⟩) hS.2.2 dX0_makeKind_21
  refine lv_aload_n hx hb dX0_makeKind_0 rfl (lv_at hl 0 rfl) ?_
  obtain ⟨_, ⟨q_44, q_45, q_46, rfl, kq_44, kq_45, kq_46⟩, o_c_43⟩ := hH h0 _ k_h0
  refine hg_get hx hb hG igX0 hown hK o_c_43 rfl 0 (by decide) (hG _ mw_239) rfl dX0_makeKind_1 ?_
  refine lv_iload_n hx hb dX0_makeKind_4 rfl (lv_at hl 1 rfl) ?_
  obtain ⟨_, ⟨q_48, q_49, q_50, q_51, q_52, q_53, q_54, rfl, kq_48, kq_49, kq_50⟩, o_c_47⟩ := hH q_44 _ kq_44
  refine vp_callSi (W.runV (As := [.int a0]) (rest := []) ⟨hx, hb, hml, hown, hts⟩ (c_X10_has l g Ty G q_44 a0 kq_44) (cwV 1 hts (gwV mw_765 mw_604 mw_605 mw_77 mw_606) rfl rfl rfl hv_X10_has ⟨Nat.le_of_ble_eq_true rfl, Nat.le_of_ble_eq_true rfl⟩) ⟨PcH_blind, hg_recv hK o_c_47 rfl, PcH_pre hK hH⟩ rfl rfl hl.1 rfl (lv_room (Nat.le_of_ble_eq_true rfl)) dX0_makeKind_5 ⟨Nat.zero_le _, Nat.zero_le _⟩) (fun x_55 hx_55 => ?_)
  have rx_55 : rgI (0) (1) x_55 := hx_55.1
  refine lv_if_eq (tgt := 20) hx hb dX0_makeKind_8 (by decide) (fun c_56 => ?_) (fun c_56 => ?_)
  · have r_57 : rgI (0) (0) x_55 := rg_w (rg_eq rl_0 c_56) (by decide) (by decide)
    exact L_20 s.heap [] ls (lv_sub hl [] rfl) hH hS
  · have r_58 : rgI (1) (1) x_55 := rg_w (rg_neL rx_55 rl_0 c_56) (by decide) (by decide)
    have r_59 : rgI (0) (23) a0 := rg_w (hx_55.2.resolve_left c_56) (by decide) (by decide)
    refine lv_iload_n hx hb dX0_makeKind_11 rfl (lv_at hl 2 rfl) ?_
    refine lv_if_lt (tgt := 20) hx hb dX0_makeKind_12 (by decide) (fun c_60 => ?_) (fun c_60 => ?_)
    · have r_61 : rgI (-2147483648) (-1) a1 := rg_w (rg_ltL (rg_top a1) rl_0 c_60) (by decide) (by decide)
      exact L_20 s.heap [] ls (lv_sub hl [] rfl) hH hS
    · have r_62 : rgI (0) (2147483647) a1 := rg_w (rg_leR rl_0 (rg_top a1) (nlt_le c_60)) (by decide) (by decide)
      refine lv_iload_n hx hb dX0_makeKind_15 rfl (lv_at hl 2 rfl) ?_
      refine lv_iconst (v := 3) hx hb dX0_makeKind_16 (by decide) ?_
      refine lv_icmp_le (tgt := 22) hx hb dX0_makeKind_17 (by decide) (fun c_63 => ?_) (fun c_63 => ?_)
      · have r_64 : rgI (0) (3) a1 := rg_w (rg_leL r_62 rl_3 c_63) (by decide) (by decide)
        refine lv_iload_n hx hb dX0_makeKind_22 rfl (lv_at hl 2 rfl) ?_
        refine lv_iconst (v := 2) hx hb dX0_makeKind_23 (by decide) ?_
        refine lv_icmp_ne (tgt := 41) hx hb dX0_makeKind_24 (by decide) (fun c_65 => ?_) (fun c_65 => ?_)
        · exact L_41 s.heap [] ls r_59 r_64 (lv_sub hl [0, 1, 2] rfl) hH hS
        · have r_66 : rgI (2) (2) a1 := rg_w (rg_eq rl_2 c_65) (by decide) (by decide)
          refine lv_aload_n hx hb dX0_makeKind_27 rfl (lv_at hl 0 rfl) ?_
          refine hg_get hx hb hG igX0 hown hK o_c_43 rfl 0 (by decide) (hG _ mw_239) rfl dX0_makeKind_28 ?_
          refine lv_iload_n hx hb dX0_makeKind_31 rfl (lv_at hl 1 rfl) ?_
          refine vp_callSi (W.runV (As := [.int a0]) (rest := []) ⟨hx, hb, hml, hown, hts⟩ (c_X10_groupOf l g Ty G q_44 a0 kq_44) (cwV 1 hts (gwV mw_718 mw_608 mw_609 mw_77 mw_610) rfl rfl rfl hv_X10_groupOf ⟨Nat.le_of_ble_eq_true rfl, Nat.le_of_ble_eq_true rfl⟩) ⟨PcH_blind, hg_recv hK o_c_47 rfl, PcH_pre hK hH⟩ rfl rfl hl.1 rfl (lv_room (Nat.le_of_ble_eq_true rfl)) dX0_makeKind_32 ⟨Nat.zero_le _, Nat.zero_le _⟩) (fun x_67 hx_67 => ?_)
          refine lv_if_ne (tgt := 41) hx hb dX0_makeKind_35 (by decide) (fun c_68 => ?_) (fun c_68 => ?_)
          · exact L_41 s.heap [] ls r_59 (rg_w r_66 (by decide) (by decide)) (lv_sub hl [0, 1, 2] rfl) hH hS
          · have r_69 : rgI (0) (0) x_67 := rg_w (rg_eq rl_0 c_68) (by decide) (by decide)
            refine lv_bipush (v := (-2)) hx hb dX0_makeKind_38 (by decide) ?_
            exact W.iret hx hb hr (fun t ht hWm => ⟨⟨(-2), (Ty, G), rfl, rfl, by show HT g Ty G t.heap; rw [ht]; exact hH⟩, hS.F ht⟩) hS.2.2 dX0_makeKind_40
      · have r_70 : rgI (4) (2147483647) a1 := rg_w (rg_ltR rl_3 r_62 (nle_lt c_63)) (by decide) (by decide)
        exact L_20 s.heap [] ls (lv_sub hl [] rfl) hH hS

set_option maxHeartbeats 4000000 in
set_option maxRecDepth 100000 in
theorem c_X0_goers (l : Launch) (g : Gx) (Ty : TyM) (G : Gh) (sz : Nat) (h0 : Nat) (a0 : Int32) (a1 : Int32) (k_h0 : Ty h0 = some (10, 0)) : Met l yX0_goers (wsG yX0_goers cX0_goers 8 (some .int)) ({ frames := 4, cells := 0, slots := 0, locals := 92 }) (PcT g Ty G sz [.ref h0, .int a0, .int a1]) (QwI g Ty sz (fun r u => u = (Ty, G))) 0 0 (AF Ty sz) := by
  refine Met.ofW (cc := cX0_goers) (maxL := 8) (ret := (some .int)) (by decide) rfl ?_
  intro p e s m args below meth c s₁ B hml hv
  obtain ⟨rfl, hsz, hK, hH⟩ := hv
  subst hsz
  have hx := B.exec
  have hb := B.bytes
  have hr := B.returns
  have hts := atoms_spec (ws := (wsG yX0_goers cX0_goers 8 (some .int))) B.pre
  have hG : ∀ w ∈ GW, w.before ([.ref h0, .int a0, .int a1] : List Value).toArray s = true := fun w h => hts w (List.mem_cons_of_mem _ h)
  have hown : s.vm.findClass RX0 = some m.cls := findClass_of_methodNamed B.named
  have hlocks := B.notSynchronized
  have hl := lv_entry [.ref h0, .int a0, .int a1] (n := 8) (Nat.le_of_ble_eq_true rfl)
  rw [lg_entry_eq]
  generalize (lg_sl [.ref h0, .int a0, .int a1] ++ List.replicate (8 - (lg_sl [.ref h0, .int a0, .int a1]).length) Slot.unset).toArray = ls at hl ⊢
  have hl : lv_has ls 8 [(0, .ref h0), (1, .int a0), (2, .int a1)] := hl
  have hS : va_S (AF Ty s.heap.size) s.heap s.heap [] := va_S.rf
  have L_78 : ∀ (n : Nat) (H : Heap) (locs : List Loc) (y4_78 : Int32) (y5_78 : Int32) (y6_78 : Int32) (ls : Array Slot), rgI (0) (24) y6_78 → (24 - (y6_78).toInt).toNat < n → lv_has ls 8 [(0, .ref h0), (2, .int a1), (4, .int y4_78), (5, .int y5_78), (6, .int y6_78)] → HT g Ty G H → va_S (AF Ty s.heap.size) s.heap H locs → Wm p l e (wsG yX0_goers cX0_goers 8 (some .int)) ({ frames := 4, cells := 0, slots := 0, locals := 92 }) s m [.ref h0, .int a0, .int a1] below meth c H locs (0) (0) (QwI g Ty s.heap.size (fun r u => u = (Ty, G))) 0 0 (AF Ty s.heap.size) (F0 m 78 ls []) := by
    intro n
    induction n with
    | zero => intro H locs y4_78 y5_78 y6_78 ls ry6_78 hm; exact absurd hm (Nat.not_lt_zero _)
    | succ n ih_78 =>
      intro H locs y4_78 y5_78 y6_78 ls ry6_78 hm_78 hl hH hS
      have L_135 : ∀ (H : Heap) (locs : List Loc) (y4_135 : Int32) (ls : Array Slot), rgI (0) (23) y6_78 → lv_has ls 8 [(0, .ref h0), (2, .int a1), (4, .int y4_135), (5, .int y5_78), (6, .int y6_78)] → HT g Ty G H → va_S (AF Ty s.heap.size) s.heap H locs → Wm p l e (wsG yX0_goers cX0_goers 8 (some .int)) ({ frames := 4, cells := 0, slots := 0, locals := 92 }) s m [.ref h0, .int a0, .int a1] below meth c H locs (0) (0) (QwI g Ty s.heap.size (fun r u => u = (Ty, G))) 0 0 (AF Ty s.heap.size) (F0 m 135 ls []) := by
        intro H locs y4_135 ls ry6_135 hl hH hS
        obtain ⟨x_1, ex_1⟩ : ∃ y : Int32, y = y6_78 + 1 := ⟨_, rfl⟩
        have rx_1 : rgI (1) (24) x_1 := by rw [ex_1]; exact rg_w (rg_add ry6_135 rl_1 (by decide) (by decide)) (by decide) (by decide)
        have qx_1 : x_1.toInt = (y6_78 : Int32).toInt + 1 := by rw [ex_1]; exact rg_addE ry6_135 rl_1 (by decide) (by decide)
        refine lv_iinc (v := x_1) (lv' := [(6, .int x_1), (0, .ref h0), (2, .int a1), (4, .int y4_135), (5, .int y5_78)]) hx hb dX0_goers_135 hl (k := 4) rfl (by rw [ex_1]; rfl) (by decide) rfl (fun ls hl => ?_)
        refine lv_goto (tgt := 78) hx hb dX0_goers_138 (by decide) ?_
        exact ih_78 H locs y4_135 y5_78 x_1 ls (rg_w rx_1 (by decide) (by decide)) (by have h1 := qx_1; have h2 := ry6_135.1; have h3 := ry6_135.2; have h4 := hm_78; omega) (lv_sub hl [1, 2, 3, 4, 0] rfl) hH hS
      refine lv_iload hx hb dX0_goers_78 (lv_at hl 4 rfl) ?_
      refine lv_bipush (v := 24) hx hb dX0_goers_80 (by decide) ?_
      refine lv_icmp_ge (tgt := 141) hx hb dX0_goers_82 (by decide) (fun c_2 => ?_) (fun c_2 => ?_)
      · have r_3 : rgI (24) (24) y6_78 := rg_w (rg_leR rl_24 ry6_78 c_2) (by decide) (by decide)
        refine lv_iload hx hb dX0_goers_141 (lv_at hl 2 rfl) ?_
        exact W.iret hx hb hr (fun t ht hWm => ⟨⟨y4_78, (Ty, G), rfl, rfl, by show HT g Ty G t.heap; rw [ht]; exact hH⟩, hS.F ht⟩) hS.2.2 dX0_goers_143
      · have r_4 : rgI (0) (23) y6_78 := rg_w (rg_ltL ry6_78 rl_24 (nle_lt c_2)) (by decide) (by decide)
        refine lv_iload hx hb dX0_goers_85 (lv_at hl 3 rfl) ?_
        refine lv_iconst (v := 1) hx hb dX0_goers_87 (by decide) ?_
        refine lv_iload hx hb dX0_goers_88 (lv_at hl 4 rfl) ?_
        refine lv_ishl hx hb dX0_goers_90 ?_
        refine lv_topi (fun x_5 ex_5 => ?_)
        refine lv_iand hx hb dX0_goers_91 ?_
        refine lv_topi (fun x_6 ex_6 => ?_)
        refine lv_if_eq (tgt := 135) hx hb dX0_goers_92 (by decide) (fun c_7 => ?_) (fun c_7 => ?_)
        · have r_8 : rgI (0) (0) x_6 := rg_w (rg_eq rl_0 c_7) (by decide) (by decide)
          exact L_135 H locs y4_78 ls r_4 (lv_sub hl [0, 1, 2, 3, 4] rfl) hH hS
        · refine lv_aload_n hx hb dX0_goers_95 rfl (lv_at hl 0 rfl) ?_
          obtain ⟨_, ⟨q_10, q_11, q_12, rfl, kq_10, kq_11, kq_12⟩, o_c_9⟩ := hH h0 _ k_h0
          refine hg_get hx hb hG igX0 hown hK o_c_9 rfl 0 (by decide) (hG _ mw_239) rfl dX0_goers_96 ?_
          refine lv_iload hx hb dX0_goers_99 (lv_at hl 4 rfl) ?_
          refine lv_iload_n hx hb dX0_goers_101 rfl (lv_at hl 1 rfl) ?_
          obtain ⟨_, ⟨q_14, q_15, q_16, q_17, q_18, q_19, q_20, rfl, kq_14, kq_15, kq_16⟩, o_c_13⟩ := hH q_10 _ kq_10
          refine vp_callSi (W.runV (As := [.int y6_78, .int a1]) (rest := []) ⟨hx, hb, hml, hown, hts⟩ (c_X10_mountAt l g Ty G q_10 y6_78 a1 kq_10) (cwV 2 hts (gwV mw_778 mw_579 mw_580 mw_77 mw_581) rfl rfl rfl hv_X10_mountAt ⟨Nat.le_of_ble_eq_true rfl, Nat.le_of_ble_eq_true rfl⟩) ⟨PcH_blind, hg_recv hK o_c_13 rfl, PcH_pre hK hH⟩ rfl rfl hl.1 rfl (lv_room (Nat.le_of_ble_eq_true rfl)) dX0_goers_102 ⟨Nat.zero_le _, Nat.zero_le _⟩) (fun x_21 hx_21 => ?_)
          refine lv_istore (lv' := [(7, .int x_21), (0, .ref h0), (2, .int a1), (4, .int y4_78), (5, .int y5_78), (6, .int y6_78)]) hx hb dX0_goers_105 hl (by decide) rfl (fun ls hl => ?_)
          refine lv_iload hx hb dX0_goers_107 (lv_at hl 0 rfl) ?_
          refine lv_bipush (v := 24) hx hb dX0_goers_109 (by decide) ?_
          refine lv_icmp_eq (tgt := 135) hx hb dX0_goers_111 (by decide) (fun c_22 => ?_) (fun c_22 => ?_)
          · have r_23 : rgI (24) (24) x_21 := rg_w (rg_eq rl_24 c_22) (by decide) (by decide)
            exact L_135 H locs y4_78 ls r_4 (lv_sub hl [1, 2, 3, 4, 5] rfl) hH hS
          · refine lv_aload_n hx hb dX0_goers_114 rfl (lv_at hl 1 rfl) ?_
            refine hg_get hx hb hG igX0 hown hK o_c_9 rfl 0 (by decide) (hG _ mw_239) rfl dX0_goers_115 ?_
            refine lv_iload hx hb dX0_goers_118 (lv_at hl 0 rfl) ?_
            refine vp_callSi (W.runV (As := [.int x_21]) (rest := []) ⟨hx, hb, hml, hown, hts⟩ (c_X10_childrenOf l g Ty G q_10 x_21 kq_10) (cwV 1 hts (gwV mw_831 mw_687 mw_688 mw_77 mw_689) rfl rfl rfl hv_X10_childrenOf ⟨Nat.le_of_ble_eq_true rfl, Nat.le_of_ble_eq_true rfl⟩) ⟨PcH_blind, hg_recv hK o_c_13 rfl, PcH_pre hK hH⟩ rfl rfl hl.1 rfl (lv_room (Nat.le_of_ble_eq_true rfl)) dX0_goers_120 ⟨Nat.zero_le _, Nat.zero_le _⟩) (fun x_24 hx_24 => ?_)
            refine lv_if_ne (tgt := 135) hx hb dX0_goers_123 (by decide) (fun c_25 => ?_) (fun c_25 => ?_)
            · exact L_135 H locs y4_78 ls r_4 (lv_sub hl [1, 2, 3, 4, 5] rfl) hH hS
            · have r_26 : rgI (0) (0) x_24 := rg_w (rg_eq rl_0 c_25) (by decide) (by decide)
              refine lv_iload hx hb dX0_goers_126 (lv_at hl 3 rfl) ?_
              refine lv_iconst (v := 1) hx hb dX0_goers_128 (by decide) ?_
              refine lv_iload hx hb dX0_goers_129 (lv_at hl 0 rfl) ?_
              refine lv_ishl hx hb dX0_goers_131 ?_
              refine lv_topi (fun x_27 ex_27 => ?_)
              refine lv_ior hx hb dX0_goers_132 ?_
              refine lv_topi (fun x_28 ex_28 => ?_)
              refine lv_istore (lv' := [(4, .int x_28), (7, .int x_21), (0, .ref h0), (2, .int a1), (5, .int y5_78), (6, .int y6_78)]) hx hb dX0_goers_133 hl (by decide) rfl (fun ls hl => ?_)
              exact L_135 H locs x_28 ls r_4 (lv_sub hl [2, 3, 0, 4, 5] rfl) hH hS
  refine lv_aload_n hx hb dX0_goers_0 rfl (lv_at hl 0 rfl) ?_
  obtain ⟨_, ⟨q_30, q_31, q_32, rfl, kq_30, kq_31, kq_32⟩, o_c_29⟩ := hH h0 _ k_h0
  refine hg_get hx hb hG igX0 hown hK o_c_29 rfl 0 (by decide) (hG _ mw_239) rfl dX0_goers_1 ?_
  refine lv_iload_n hx hb dX0_goers_4 rfl (lv_at hl 1 rfl) ?_
  refine lv_iload_n hx hb dX0_goers_5 rfl (lv_at hl 2 rfl) ?_
  obtain ⟨_, ⟨q_34, q_35, q_36, q_37, q_38, q_39, q_40, rfl, kq_34, kq_35, kq_36⟩, o_c_33⟩ := hH q_30 _ kq_30
  refine vp_callSi (W.runV (As := [.int a0, .int a1]) (rest := []) ⟨hx, hb, hml, hown, hts⟩ (c_X10_hasPlace l g Ty G q_30 a0 a1 kq_30) (cwV 2 hts (gwV mw_640 mw_641 mw_642 mw_77 mw_643) rfl rfl rfl hv_X10_hasPlace ⟨Nat.le_of_ble_eq_true rfl, Nat.le_of_ble_eq_true rfl⟩) ⟨PcH_blind, hg_recv hK o_c_33 rfl, PcH_pre hK hH⟩ rfl rfl hl.1 rfl (lv_room (Nat.le_of_ble_eq_true rfl)) dX0_goers_6 ⟨Nat.zero_le _, Nat.zero_le _⟩) (fun x_41 hx_41 => ?_)
  have rx_41 : rgI (0) (1) x_41 := hx_41.1
  refine lv_if_ne (tgt := 14) hx hb dX0_goers_9 (by decide) (fun c_42 => ?_) (fun c_42 => ?_)
  · have r_43 : rgI (1) (1) x_41 := rg_w (rg_neL rx_41 rl_0 c_42) (by decide) (by decide)
    have r_44 : rgI (0) (23) a0 := rg_w (hx_41.2.resolve_left c_42) (by decide) (by decide)
    refine lv_aload_n hx hb dX0_goers_14 rfl (lv_at hl 0 rfl) ?_
    refine hg_get hx hb hG igX0 hown hK o_c_29 rfl 0 (by decide) (hG _ mw_239) rfl dX0_goers_15 ?_
    refine lv_iload_n hx hb dX0_goers_18 rfl (lv_at hl 1 rfl) ?_
    refine lv_iload_n hx hb dX0_goers_19 rfl (lv_at hl 2 rfl) ?_
    refine vp_callSi (W.runV (As := [.int a0, .int a1]) (rest := []) ⟨hx, hb, hml, hown, hts⟩ (c_X10_mountAt l g Ty G q_30 a0 a1 kq_30) (cwV 2 hts (gwV mw_778 mw_579 mw_580 mw_77 mw_581) rfl rfl rfl hv_X10_mountAt ⟨Nat.le_of_ble_eq_true rfl, Nat.le_of_ble_eq_true rfl⟩) ⟨PcH_blind, hg_recv hK o_c_33 rfl, PcH_pre hK hH⟩ rfl rfl hl.1 rfl (lv_room (Nat.le_of_ble_eq_true rfl)) dX0_goers_20 ⟨Nat.zero_le _, Nat.zero_le _⟩) (fun x_45 hx_45 => ?_)
    refine lv_istore_n (lv' := [(3, .int x_45), (0, .ref h0), (1, .int a0), (2, .int a1)]) hx hb dX0_goers_23 rfl hl (by decide) rfl (fun ls hl => ?_)
    refine lv_iload_n hx hb dX0_goers_24 rfl (lv_at hl 0 rfl) ?_
    refine lv_bipush (v := 24) hx hb dX0_goers_25 (by decide) ?_
    refine lv_icmp_ne (tgt := 33) hx hb dX0_goers_27 (by decide) (fun c_46 => ?_) (fun c_46 => ?_)
    · refine lv_aload_n hx hb dX0_goers_33 rfl (lv_at hl 1 rfl) ?_
      refine hg_get hx hb hG igX0 hown hK o_c_29 rfl 0 (by decide) (hG _ mw_239) rfl dX0_goers_34 ?_
      refine lv_iload_n hx hb dX0_goers_37 rfl (lv_at hl 0 rfl) ?_
      refine vp_callSi (W.runV (As := [.int x_45]) (rest := []) ⟨hx, hb, hml, hown, hts⟩ (c_X10_childrenOf l g Ty G q_30 x_45 kq_30) (cwV 1 hts (gwV mw_831 mw_687 mw_688 mw_77 mw_689) rfl rfl rfl hv_X10_childrenOf ⟨Nat.le_of_ble_eq_true rfl, Nat.le_of_ble_eq_true rfl⟩) ⟨PcH_blind, hg_recv hK o_c_33 rfl, PcH_pre hK hH⟩ rfl rfl hl.1 rfl (lv_room (Nat.le_of_ble_eq_true rfl)) dX0_goers_38 ⟨Nat.zero_le _, Nat.zero_le _⟩) (fun x_47 hx_47 => ?_)
      refine lv_if_eq (tgt := 47) hx hb dX0_goers_41 (by decide) (fun c_48 => ?_) (fun c_48 => ?_)
      · have r_49 : rgI (0) (0) x_47 := rg_w (rg_eq rl_0 c_48) (by decide) (by decide)
        refine lv_iconst (v := 1) hx hb dX0_goers_47 (by decide) ?_
        refine lv_iload_n hx hb dX0_goers_48 rfl (lv_at hl 0 rfl) ?_
        refine lv_ishl hx hb dX0_goers_49 ?_
        refine lv_topi (fun x_50 ex_50 => ?_)
        refine lv_istore (lv' := [(4, .int x_50), (3, .int x_45), (0, .ref h0), (1, .int a0), (2, .int a1)]) hx hb dX0_goers_50 hl (by decide) rfl (fun ls hl => ?_)
        refine lv_aload_n hx hb dX0_goers_52 rfl (lv_at hl 2 rfl) ?_
        refine hg_get hx hb hG igX0 hown hK o_c_29 rfl 0 (by decide) (hG _ mw_239) rfl dX0_goers_53 ?_
        refine lv_iload_n hx hb dX0_goers_56 rfl (lv_at hl 3 rfl) ?_
        refine vp_callSi (W.runV (As := [.int a0]) (rest := []) ⟨hx, hb, hml, hown, hts⟩ (c_X10_spreadOf l g Ty G q_30 a0 kq_30) (cwV 1 hts (gwV mw_649 mw_650 mw_651 mw_77 mw_652) rfl rfl rfl hv_X10_spreadOf ⟨Nat.le_of_ble_eq_true rfl, Nat.le_of_ble_eq_true rfl⟩) ⟨PcH_blind, hg_recv hK o_c_33 rfl, PcH_pre hK hH⟩ rfl rfl hl.1 rfl (lv_room (Nat.le_of_ble_eq_true rfl)) dX0_goers_57 ⟨Nat.zero_le _, Nat.zero_le _⟩) (fun x_51 hx_51 => ?_)
        refine lv_aload_n hx hb dX0_goers_60 rfl (lv_at hl 2 rfl) ?_
        refine hg_get hx hb hG igX0 hown hK o_c_29 rfl 1 (by decide) (hG _ mw_240) rfl dX0_goers_61 ?_
        refine lv_aload_n hx hb dX0_goers_64 rfl (lv_at hl 2 rfl) ?_
        refine hg_get hx hb hG igX0 hown hK o_c_29 rfl 0 (by decide) (hG _ mw_239) rfl dX0_goers_65 ?_
        refine lv_iload_n hx hb dX0_goers_68 rfl (lv_at hl 4 rfl) ?_
        obtain ⟨_, ⟨q_53, q_54, q_55, q_56, q_57, q_58, q_59, q_60, q_61, q_62, rfl, kq_53, kq_55, kq_61, kq_62, rq_54, rq_57⟩, o_c_52⟩ := hH q_31 _ kq_31
        refine va_calli (va_runV (As := [.ref q_30, .int a1]) (rest := [.int x_51]) ⟨hx, hb, hml, hown, hts⟩ (c_X8_letting l g Ty G s.heap.size q_31 q_30 a1 kq_31 kq_30) (cwV 2 hts (gwV mw_669 mw_670 mw_671 mw_81 mw_672) rfl rfl rfl hv_X8_letting ⟨Nat.le_of_ble_eq_true rfl, Nat.le_of_ble_eq_true rfl⟩) ⟨PcT_blind, hg_recv hK o_c_52 rfl, PcT_pre hK hH⟩ rfl rfl hl.1 rfl (lv_room (Nat.le_of_ble_eq_true rfl)) dX0_goers_69 ⟨Nat.zero_le _, Nat.zero_le _⟩) hS (fun q _ h => AF.mono hS.1 h) (fun q h => AF.mono hS.1 h) (fun x_63 ux_63 t H locs ht hvm hx_63 hB hz hk hS => ?_)
        have hH : HT g Ty G H := by rw [← ht]; rw [hx_63] at hB; exact hB
        refine lv_iand hx hb dX0_goers_72 ?_
        refine lv_topi (fun x_64 ex_64 => ?_)
        refine lv_istore (lv' := [(5, .int x_64), (4, .int x_50), (3, .int x_45), (0, .ref h0), (1, .int a0), (2, .int a1)]) hx hb dX0_goers_73 hl (by decide) rfl (fun ls hl => ?_)
        refine lv_iconst (v := 0) hx hb dX0_goers_75 (by decide) ?_
        refine lv_istore (lv' := [(6, .int 0), (5, .int x_64), (4, .int x_50), (3, .int x_45), (0, .ref h0), (1, .int a0), (2, .int a1)]) hx hb dX0_goers_76 hl (by decide) rfl (fun ls hl => ?_)
        exact L_78 _ H locs x_50 x_64 0 ls (rg_w rl_0 (by decide) (by decide)) (Nat.lt_succ_self _) (lv_sub hl [4, 6, 2, 1, 0] rfl) hH hS
      · refine lv_bipush (v := (-3)) hx hb dX0_goers_44 (by decide) ?_
        exact W.iret hx hb hr (fun t ht hWm => ⟨⟨(-3), (Ty, G), rfl, rfl, by show HT g Ty G t.heap; rw [ht]; exact hH⟩, hS.F ht⟩) hS.2.2 dX0_goers_46
    · have r_65 : rgI (24) (24) x_45 := rg_w (rg_eq rl_24 c_46) (by decide) (by decide)
      refine lv_bipush (v := (-2)) hx hb dX0_goers_30 (by decide) ?_
      exact W.iret hx hb hr (fun t ht hWm => ⟨⟨(-2), (Ty, G), rfl, rfl, by show HT g Ty G t.heap; rw [ht]; exact hH⟩, hS.F ht⟩) hS.2.2 dX0_goers_32
  · have r_66 : rgI (0) (0) x_41 := rg_w (rg_eq rl_0 c_42) (by decide) (by decide)
    refine lv_iconst (v := (-1)) hx hb dX0_goers_12 (by decide) ?_
    exact W.iret hx hb hr (fun t ht hWm => ⟨⟨(-1), (Ty, G), rfl, rfl, by show HT g Ty G t.heap; rw [ht]; exact hH⟩, hS.F ht⟩) hS.2.2 dX0_goers_13

set_option maxHeartbeats 4000000 in
set_option maxRecDepth 100000 in
theorem c_X0_unmount (l : Launch) (g : Gx) (Ty : TyM) (G : Gh) (sz : Nat) (h0 : Nat) (a0 : Int32) (a1 : Int32) (k_h0 : Ty h0 = some (10, 0)) : Met l yX0_unmount (wsG yX0_unmount cX0_unmount 6 (some .int)) ({ frames := 5, cells := 0, slots := 0, locals := 119 }) (PcT g Ty G sz [.ref h0, .int a0, .int a1]) (QwI g Ty sz (fun r u => u = (Ty, G))) 0 0 (AF Ty sz) := by
  refine Met.ofW (cc := cX0_unmount) (maxL := 6) (ret := (some .int)) (by decide) rfl ?_
  intro p e s m args below meth c s₁ B hml hv
  obtain ⟨rfl, hsz, hK, hH⟩ := hv
  subst hsz
  have hx := B.exec
  have hb := B.bytes
  have hr := B.returns
  have hts := atoms_spec (ws := (wsG yX0_unmount cX0_unmount 6 (some .int))) B.pre
  have hG : ∀ w ∈ GW, w.before ([.ref h0, .int a0, .int a1] : List Value).toArray s = true := fun w h => hts w (List.mem_cons_of_mem _ h)
  have hown : s.vm.findClass RX0 = some m.cls := findClass_of_methodNamed B.named
  have hlocks := B.notSynchronized
  have hl := lv_entry [.ref h0, .int a0, .int a1] (n := 6) (Nat.le_of_ble_eq_true rfl)
  rw [lg_entry_eq]
  generalize (lg_sl [.ref h0, .int a0, .int a1] ++ List.replicate (6 - (lg_sl [.ref h0, .int a0, .int a1]).length) Slot.unset).toArray = ls at hl ⊢
  have hl : lv_has ls 6 [(0, .ref h0), (1, .int a0), (2, .int a1)] := hl
  have hS : va_S (AF Ty s.heap.size) s.heap s.heap [] := va_S.rf
  have L_16 : ∀ (n : Nat) (H : Heap) (locs : List Loc) (y3_16 : Int32) (y4_16 : Int32) (ls : Array Slot), rgI (0) (2147483647) y3_16 → rgI (0) (24) y4_16 → (24 - (y4_16).toInt).toNat < n → lv_has ls 6 [(0, .ref h0), (2, .int a1), (3, .int y3_16), (4, .int y4_16)] → HT g Ty G H → va_S (AF Ty s.heap.size) s.heap H locs → Wm p l e (wsG yX0_unmount cX0_unmount 6 (some .int)) ({ frames := 5, cells := 0, slots := 0, locals := 119 }) s m [.ref h0, .int a0, .int a1] below meth c H locs (0) (0) (QwI g Ty s.heap.size (fun r u => u = (Ty, G))) 0 0 (AF Ty s.heap.size) (F0 m 16 ls []) := by
    intro n
    induction n with
    | zero => intro H locs y3_16 y4_16 ls ry3_16 ry4_16 hm; exact absurd hm (Nat.not_lt_zero _)
    | succ n ih_16 =>
      intro H locs y3_16 y4_16 ls ry3_16 ry4_16 hm_16 hl hH hS
      have L_60 : ∀ (H : Heap) (locs : List Loc) (ls : Array Slot), rgI (0) (2147483647) y3_16 → rgI (0) (23) y4_16 → lv_has ls 6 [(0, .ref h0), (2, .int a1), (3, .int y3_16), (4, .int y4_16)] → HT g Ty G H → va_S (AF Ty s.heap.size) s.heap H locs → Wm p l e (wsG yX0_unmount cX0_unmount 6 (some .int)) ({ frames := 5, cells := 0, slots := 0, locals := 119 }) s m [.ref h0, .int a0, .int a1] below meth c H locs (0) (0) (QwI g Ty s.heap.size (fun r u => u = (Ty, G))) 0 0 (AF Ty s.heap.size) (F0 m 60 ls []) := by
        intro H locs ls ry3_60 ry4_60 hl hH hS
        obtain ⟨x_1, ex_1⟩ : ∃ y : Int32, y = y4_16 + 1 := ⟨_, rfl⟩
        have rx_1 : rgI (1) (24) x_1 := by rw [ex_1]; exact rg_w (rg_add ry4_60 rl_1 (by decide) (by decide)) (by decide) (by decide)
        have qx_1 : x_1.toInt = (y4_16 : Int32).toInt + 1 := by rw [ex_1]; exact rg_addE ry4_60 rl_1 (by decide) (by decide)
        refine lv_iinc (v := x_1) (lv' := [(4, .int x_1), (0, .ref h0), (2, .int a1), (3, .int y3_16)]) hx hb dX0_unmount_60 hl (k := 3) rfl (by rw [ex_1]; rfl) (by decide) rfl (fun ls hl => ?_)
        refine lv_goto (tgt := 16) hx hb dX0_unmount_63 (by decide) ?_
        exact ih_16 H locs y3_16 x_1 ls ry3_60 (rg_w rx_1 (by decide) (by decide)) (by have h1 := qx_1; have h2 := ry4_60.1; have h3 := ry4_60.2; have h4 := hm_16; omega) (lv_sub hl [1, 2, 3, 0] rfl) hH hS
      refine lv_iload hx hb dX0_unmount_16 (lv_at hl 3 rfl) ?_
      refine lv_bipush (v := 24) hx hb dX0_unmount_18 (by decide) ?_
      refine lv_icmp_ge (tgt := 66) hx hb dX0_unmount_20 (by decide) (fun c_2 => ?_) (fun c_2 => ?_)
      · have r_3 : rgI (24) (24) y4_16 := rg_w (rg_leR rl_24 ry4_16 c_2) (by decide) (by decide)
        refine lv_aload_n hx hb dX0_unmount_66 rfl (lv_at hl 0 rfl) ?_
        obtain ⟨_, ⟨q_5, q_6, q_7, rfl, kq_5, kq_6, kq_7⟩, o_c_4⟩ := hH h0 _ k_h0
        refine hg_get hx hb hG igX0 hown hK o_c_4 rfl 0 (by decide) (hG _ mw_239) rfl dX0_unmount_67 ?_
        refine lv_dup hx hb dX0_unmount_70 rfl ?_
        obtain ⟨_, ⟨q_9, q_10, q_11, q_12, q_13, q_14, q_15, rfl, kq_9, kq_10, kq_11⟩, o_c_8⟩ := hH q_5 _ kq_5
        refine hg_getN hx hb hG igX10 hown hK o_c_8 rfl 5 (by decide) ((hK.2.1 _ nwf_125).use rfl) rfl dX0_unmount_71 ?_
        refine lv_iconst (v := 1) hx hb dX0_unmount_74 (by decide) ?_
        refine lv_iadd hx hb dX0_unmount_75 ?_
        refine lv_topi (fun x_16 ex_16 => ?_)
        refine hg_putN (ty := .int) hx hb hG igX10 tyX10 tyX10_ok nmX10 hown hK hS o_c_8 (AF.of kq_5) rfl 5 (by decide) ((hK.2.1 _ nwf_125).use rfl) rfl (by decide +kernel) rfl rfl (Nat.le_of_ble_eq_true rfl) dX0_unmount_76 (fun H locs o_c_8 hz oq hS => ?_)
        have o_c_8 : va_at g.1 vwCl (q_5, .inr (10, [.ref q_9, .ref q_10, .ref q_11, .int q_12, .int q_13, .int x_16, .int q_15])) H := o_c_8
        have hH : HT g Ty G H := hH.put kq_5 ⟨q_9, q_10, q_11, q_12, q_13, x_16, q_15, rfl, kq_9, kq_10, kq_11⟩ o_c_8 oq
        have o_c_4 := o_c_4.kept (oq _ (ne_kd k_h0 kq_5 (by decide)))
        clear oq hz
        refine lv_iload_n hx hb dX0_unmount_79 rfl (lv_at hl 2 rfl) ?_
        refine vp_callSi (W.runS (As := [.int y3_16]) (rest := []) ⟨hx, hb, hml, hown, hts⟩ (c_J6_bitCount_0f7a4 l g Ty G y3_16 ) (cwSx 1 hts hG (gwC mw_620) mw_99 mw_713 mw_619 rfl rfl rfl hd_J6_bitCount_0f7a4 ⟨Nat.le_of_ble_eq_true rfl, Nat.le_of_ble_eq_true rfl⟩) ⟨PcH_blind, PcH_pre hK hH⟩ rfl rfl hl.1 rfl (lv_room (Nat.le_of_ble_eq_true rfl)) dX0_unmount_80 ⟨Nat.zero_le _, Nat.zero_le _⟩) (fun x_17 hx_17 => ?_)
        exact W.iret hx hb hr (fun t ht hWm => ⟨⟨x_17, (Ty, G), rfl, rfl, by show HT g Ty G t.heap; rw [ht]; exact hH⟩, hS.F ht⟩) hS.2.2 dX0_unmount_83
      · have r_18 : rgI (0) (23) y4_16 := rg_w (rg_ltL ry4_16 rl_24 (nle_lt c_2)) (by decide) (by decide)
        refine lv_aload_n hx hb dX0_unmount_23 rfl (lv_at hl 0 rfl) ?_
        obtain ⟨_, ⟨q_20, q_21, q_22, rfl, kq_20, kq_21, kq_22⟩, o_c_19⟩ := hH h0 _ k_h0
        refine hg_get hx hb hG igX0 hown hK o_c_19 rfl 0 (by decide) (hG _ mw_239) rfl dX0_unmount_24 ?_
        refine lv_iload hx hb dX0_unmount_27 (lv_at hl 3 rfl) ?_
        refine lv_iload_n hx hb dX0_unmount_29 rfl (lv_at hl 1 rfl) ?_
        obtain ⟨_, ⟨q_24, q_25, q_26, q_27, q_28, q_29, q_30, rfl, kq_24, kq_25, kq_26⟩, o_c_23⟩ := hH q_20 _ kq_20
        refine vp_callSi (W.runV (As := [.int y4_16, .int a1]) (rest := []) ⟨hx, hb, hml, hown, hts⟩ (c_X10_mountAt l g Ty G q_20 y4_16 a1 kq_20) (cwV 2 hts (gwV mw_778 mw_579 mw_580 mw_77 mw_581) rfl rfl rfl hv_X10_mountAt ⟨Nat.le_of_ble_eq_true rfl, Nat.le_of_ble_eq_true rfl⟩) ⟨PcH_blind, hg_recv hK o_c_23 rfl, PcH_pre hK hH⟩ rfl rfl hl.1 rfl (lv_room (Nat.le_of_ble_eq_true rfl)) dX0_unmount_30 ⟨Nat.zero_le _, Nat.zero_le _⟩) (fun x_31 hx_31 => ?_)
        refine lv_istore (lv' := [(5, .int x_31), (0, .ref h0), (2, .int a1), (3, .int y3_16), (4, .int y4_16)]) hx hb dX0_unmount_33 hl (by decide) rfl (fun ls hl => ?_)
        refine lv_iload hx hb dX0_unmount_35 (lv_at hl 0 rfl) ?_
        refine lv_bipush (v := 24) hx hb dX0_unmount_37 (by decide) ?_
        refine lv_icmp_eq (tgt := 60) hx hb dX0_unmount_39 (by decide) (fun c_32 => ?_) (fun c_32 => ?_)
        · have r_33 : rgI (24) (24) x_31 := rg_w (rg_eq rl_24 c_32) (by decide) (by decide)
          exact L_60 H locs ls ry3_16 r_18 (lv_sub hl [1, 2, 3, 4] rfl) hH hS
        · refine lv_iload_n hx hb dX0_unmount_42 rfl (lv_at hl 3 rfl) ?_
          refine lv_iconst (v := 1) hx hb dX0_unmount_43 (by decide) ?_
          refine lv_iload hx hb dX0_unmount_44 (lv_at hl 0 rfl) ?_
          refine lv_ishl hx hb dX0_unmount_46 ?_
          refine lv_topi (fun x_34 ex_34 => ?_)
          refine lv_iand hx hb dX0_unmount_47 ?_
          refine lv_topi (fun x_35 ex_35 => ?_)
          refine lv_if_eq (tgt := 60) hx hb dX0_unmount_48 (by decide) (fun c_36 => ?_) (fun c_36 => ?_)
          · have r_37 : rgI (0) (0) x_35 := rg_w (rg_eq rl_0 c_36) (by decide) (by decide)
            exact L_60 H locs ls ry3_16 r_18 (lv_sub hl [1, 2, 3, 4] rfl) hH hS
          · refine lv_aload_n hx hb dX0_unmount_51 rfl (lv_at hl 1 rfl) ?_
            refine hg_get hx hb hG igX0 hown hK o_c_19 rfl 0 (by decide) (hG _ mw_239) rfl dX0_unmount_52 ?_
            refine lv_iload hx hb dX0_unmount_55 (lv_at hl 0 rfl) ?_
            refine va_callv (va_runV (As := [.int x_31]) (rest := []) ⟨hx, hb, hml, hown, hts⟩ (c_X10_remove l g Ty G H.size q_20 x_31 kq_20) (cwV 1 hts (gwV mw_832 mw_833 mw_834 mw_77 mw_835) rfl rfl rfl hv_X10_remove ⟨Nat.le_of_ble_eq_true rfl, Nat.le_of_ble_eq_true rfl⟩) ⟨PcT_blind, hg_recv hK o_c_23 rfl, PcT_pre hK hH⟩ rfl rfl hl.1 rfl (lv_room (Nat.le_of_ble_eq_true rfl)) dX0_unmount_57 ⟨Nat.zero_le _, Nat.zero_le _⟩) hS (fun q _ h => AF.mono hS.1 h) (fun q h => AF.mono hS.1 h) (fun ux_38 t H locs ht hvm hx_38 hB hz hk hS => ?_)
            have hH : HT g Ty G H := by rw [← ht]; rw [hx_38] at hB; exact hB
            exact L_60 H locs ls ry3_16 r_18 (lv_sub hl [1, 2, 3, 4] rfl) hH hS
  refine lv_aload_n hx hb dX0_unmount_0 rfl (lv_at hl 0 rfl) ?_
  refine lv_iload_n hx hb dX0_unmount_1 rfl (lv_at hl 1 rfl) ?_
  refine lv_iload_n hx hb dX0_unmount_2 rfl (lv_at hl 2 rfl) ?_
  obtain ⟨_, ⟨q_40, q_41, q_42, rfl, kq_40, kq_41, kq_42⟩, o_c_39⟩ := hH h0 _ k_h0
  refine va_calli (va_runV (As := [.int a0, .int a1]) (rest := []) ⟨hx, hb, hml, hown, hts⟩ (c_X0_goers l g Ty G s.heap.size h0 a0 a1 k_h0) (cwV 2 hts (gwV mw_827 mw_828 mw_829 mw_82 mw_830) rfl rfl rfl hv_X0_goers ⟨Nat.le_of_ble_eq_true rfl, Nat.le_of_ble_eq_true rfl⟩) ⟨PcT_blind, hg_recv hK o_c_39 rfl, PcT_pre hK hH⟩ rfl rfl hl.1 rfl (lv_room (Nat.le_of_ble_eq_true rfl)) dX0_unmount_3 ⟨Nat.zero_le _, Nat.zero_le _⟩) hS (fun q _ h => AF.mono hS.1 h) (fun q h => AF.mono hS.1 h) (fun x_43 ux_43 t H locs ht hvm hx_43 hB hz hk hS => ?_)
  have hH : HT g Ty G H := by rw [← ht]; rw [hx_43] at hB; exact hB
  refine lv_istore_n (lv' := [(3, .int x_43), (0, .ref h0), (1, .int a0), (2, .int a1)]) hx hb dX0_unmount_6 rfl hl (by decide) rfl (fun ls hl => ?_)
  refine lv_iload_n hx hb dX0_unmount_7 rfl (lv_at hl 0 rfl) ?_
  refine lv_if_ge (tgt := 13) hx hb dX0_unmount_8 (by decide) (fun c_44 => ?_) (fun c_44 => ?_)
  · have r_45 : rgI (0) (2147483647) x_43 := rg_w (rg_leR rl_0 (rg_top x_43) c_44) (by decide) (by decide)
    refine lv_iconst (v := 0) hx hb dX0_unmount_13 (by decide) ?_
    refine lv_istore (lv' := [(4, .int 0), (3, .int x_43), (0, .ref h0), (1, .int a0), (2, .int a1)]) hx hb dX0_unmount_14 hl (by decide) rfl (fun ls hl => ?_)
    exact L_16 _ H locs x_43 0 ls r_45 (rg_w rl_0 (by decide) (by decide)) (Nat.lt_succ_self _) (lv_sub hl [2, 4, 1, 0] rfl) hH hS
  · have r_46 : rgI (-2147483648) (-1) x_43 := rg_w (rg_ltL (rg_top x_43) rl_0 (nle_lt c_44)) (by decide) (by decide)
    refine lv_iload_n hx hb dX0_unmount_11 rfl (lv_at hl 0 rfl) ?_
    exact W.iret hx hb hr (fun t ht hWm => ⟨⟨x_43, (Ty, G), rfl, rfl, by show HT g Ty G t.heap; rw [ht]; exact hH⟩, hS.F ht⟩) hS.2.2 dX0_unmount_12

set_option maxHeartbeats 4000000 in
set_option maxRecDepth 100000 in
theorem c_X0_move (l : Launch) (g : Gx) (Ty : TyM) (G : Gh) (sz : Nat) (h0 : Nat) (a0 : Int32) (a1 : Int32) (a2 : Int32) (k_h0 : Ty h0 = some (10, 0)) : Met l yX0_move (wsG yX0_move cX0_move 6 (some .int)) ({ frames := 2, cells := 0, slots := 0, locals := 45 }) (PcT g Ty G sz [.ref h0, .int a0, .int a1, .int a2]) (QwI g Ty sz (fun r u => u = (Ty, G))) 0 0 (AF Ty sz) := by
  refine Met.ofW (cc := cX0_move) (maxL := 6) (ret := (some .int)) (by decide) rfl ?_
  intro p e s m args below meth c s₁ B hml hv
  obtain ⟨rfl, hsz, hK, hH⟩ := hv
  subst hsz
  have hx := B.exec
  have hb := B.bytes
  have hr := B.returns
  have hts := atoms_spec (ws := (wsG yX0_move cX0_move 6 (some .int))) B.pre
  have hG : ∀ w ∈ GW, w.before ([.ref h0, .int a0, .int a1, .int a2] : List Value).toArray s = true := fun w h => hts w (List.mem_cons_of_mem _ h)
  have hown : s.vm.findClass RX0 = some m.cls := findClass_of_methodNamed B.named
  have hlocks := B.notSynchronized
  have hl := lv_entry [.ref h0, .int a0, .int a1, .int a2] (n := 6) (Nat.le_of_ble_eq_true rfl)
  rw [lg_entry_eq]
  generalize (lg_sl [.ref h0, .int a0, .int a1, .int a2] ++ List.replicate (6 - (lg_sl [.ref h0, .int a0, .int a1, .int a2]).length) Slot.unset).toArray = ls at hl ⊢
  have hl : lv_has ls 6 [(0, .ref h0), (1, .int a0), (2, .int a1), (3, .int a2)] := hl
  have hS : va_S (AF Ty s.heap.size) s.heap s.heap [] := va_S.rf
  have L_63 : ∀ (H : Heap) (locs : List Loc) (ls : Array Slot), lv_has ls 6 [] → HT g Ty G H → va_S (AF Ty s.heap.size) s.heap H locs → Wm p l e (wsG yX0_move cX0_move 6 (some .int)) ({ frames := 2, cells := 0, slots := 0, locals := 45 }) s m [.ref h0, .int a0, .int a1, .int a2] below meth c H locs (0) (0) (QwI g Ty s.heap.size (fun r u => u = (Ty, G))) 0 0 (AF Ty s.heap.size) (F0 m 63 ls []) := by
    intro H locs ls hl hH hS
    refine lv_bipush (v := (-3)) hx hb dX0_move_63 (by decide) ?_
    exact W.iret hx hb hr (fun t ht hWm => ⟨⟨(-3), (Ty, G), rfl, rfl, by show HT g Ty G t.heap; rw [ht]; exact hH⟩, hS.F ht⟩) hS.2.2 dX0_move_65
  have L_23 : ∀ (H : Heap) (locs : List Loc) (ls : Array Slot), lv_has ls 6 [] → HT g Ty G H → va_S (AF Ty s.heap.size) s.heap H locs → Wm p l e (wsG yX0_move cX0_move 6 (some .int)) ({ frames := 2, cells := 0, slots := 0, locals := 45 }) s m [.ref h0, .int a0, .int a1, .int a2] below meth c H locs (0) (0) (QwI g Ty s.heap.size (fun r u => u = (Ty, G))) 0 0 (AF Ty s.heap.size) (F0 m 23 ls []) := by
    intro H locs ls hl hH hS
    refine lv_iconst (v := (-1)) hx hb dX0_move_23 (by decide) ?_
    exact W.iret hx hb hr (fun t ht hWm => ⟨⟨(-1), (Ty, G), rfl, rfl, by show HT g Ty G t.heap; rw [ht]; exact hH⟩, hS.F ht⟩) hS.2.2 dX0_move_24
  refine lv_aload_n hx hb dX0_move_0 rfl (lv_at hl 0 rfl) ?_
  obtain ⟨_, ⟨q_2, q_3, q_4, rfl, kq_2, kq_3, kq_4⟩, o_c_1⟩ := hH h0 _ k_h0
  refine hg_get hx hb hG igX0 hown hK o_c_1 rfl 0 (by decide) (hG _ mw_239) rfl dX0_move_1 ?_
  refine lv_iload_n hx hb dX0_move_4 rfl (lv_at hl 1 rfl) ?_
  obtain ⟨_, ⟨q_6, q_7, q_8, q_9, q_10, q_11, q_12, rfl, kq_6, kq_7, kq_8⟩, o_c_5⟩ := hH q_2 _ kq_2
  refine vp_callSi (W.runV (As := [.int a0]) (rest := []) ⟨hx, hb, hml, hown, hts⟩ (c_X10_has l g Ty G q_2 a0 kq_2) (cwV 1 hts (gwV mw_765 mw_604 mw_605 mw_77 mw_606) rfl rfl rfl hv_X10_has ⟨Nat.le_of_ble_eq_true rfl, Nat.le_of_ble_eq_true rfl⟩) ⟨PcH_blind, hg_recv hK o_c_5 rfl, PcH_pre hK hH⟩ rfl rfl hl.1 rfl (lv_room (Nat.le_of_ble_eq_true rfl)) dX0_move_5 ⟨Nat.zero_le _, Nat.zero_le _⟩) (fun x_13 hx_13 => ?_)
  have rx_13 : rgI (0) (1) x_13 := hx_13.1
  refine lv_if_eq (tgt := 23) hx hb dX0_move_8 (by decide) (fun c_14 => ?_) (fun c_14 => ?_)
  · have r_15 : rgI (0) (0) x_13 := rg_w (rg_eq rl_0 c_14) (by decide) (by decide)
    exact L_23 s.heap [] ls (lv_sub hl [] rfl) hH hS
  · have r_16 : rgI (1) (1) x_13 := rg_w (rg_neL rx_13 rl_0 c_14) (by decide) (by decide)
    have r_17 : rgI (0) (23) a0 := rg_w (hx_13.2.resolve_left c_14) (by decide) (by decide)
    refine lv_aload_n hx hb dX0_move_11 rfl (lv_at hl 0 rfl) ?_
    refine hg_get hx hb hG igX0 hown hK o_c_1 rfl 0 (by decide) (hG _ mw_239) rfl dX0_move_12 ?_
    refine lv_iload_n hx hb dX0_move_15 rfl (lv_at hl 2 rfl) ?_
    refine lv_iload_n hx hb dX0_move_16 rfl (lv_at hl 3 rfl) ?_
    refine vp_callSi (W.runV (As := [.int a1, .int a2]) (rest := []) ⟨hx, hb, hml, hown, hts⟩ (c_X10_hasPlace l g Ty G q_2 a1 a2 kq_2) (cwV 2 hts (gwV mw_640 mw_641 mw_642 mw_77 mw_643) rfl rfl rfl hv_X10_hasPlace ⟨Nat.le_of_ble_eq_true rfl, Nat.le_of_ble_eq_true rfl⟩) ⟨PcH_blind, hg_recv hK o_c_5 rfl, PcH_pre hK hH⟩ rfl rfl hl.1 rfl (lv_room (Nat.le_of_ble_eq_true rfl)) dX0_move_17 ⟨Nat.zero_le _, Nat.zero_le _⟩) (fun x_18 hx_18 => ?_)
    have rx_18 : rgI (0) (1) x_18 := hx_18.1
    refine lv_if_ne (tgt := 25) hx hb dX0_move_20 (by decide) (fun c_19 => ?_) (fun c_19 => ?_)
    · have r_20 : rgI (1) (1) x_18 := rg_w (rg_neL rx_18 rl_0 c_19) (by decide) (by decide)
      have r_21 : rgI (0) (23) a1 := rg_w (hx_18.2.resolve_left c_19) (by decide) (by decide)
      refine lv_aload_n hx hb dX0_move_25 rfl (lv_at hl 0 rfl) ?_
      refine hg_get hx hb hG igX0 hown hK o_c_1 rfl 0 (by decide) (hG _ mw_239) rfl dX0_move_26 ?_
      refine lv_iload_n hx hb dX0_move_29 rfl (lv_at hl 2 rfl) ?_
      refine lv_iload_n hx hb dX0_move_30 rfl (lv_at hl 3 rfl) ?_
      refine vp_callSi (W.runV (As := [.int a1, .int a2]) (rest := []) ⟨hx, hb, hml, hown, hts⟩ (c_X10_mountAt l g Ty G q_2 a1 a2 kq_2) (cwV 2 hts (gwV mw_778 mw_579 mw_580 mw_77 mw_581) rfl rfl rfl hv_X10_mountAt ⟨Nat.le_of_ble_eq_true rfl, Nat.le_of_ble_eq_true rfl⟩) ⟨PcH_blind, hg_recv hK o_c_5 rfl, PcH_pre hK hH⟩ rfl rfl hl.1 rfl (lv_room (Nat.le_of_ble_eq_true rfl)) dX0_move_31 ⟨Nat.zero_le _, Nat.zero_le _⟩) (fun x_22 hx_22 => ?_)
      refine lv_bipush (v := 24) hx hb dX0_move_34 (by decide) ?_
      refine lv_icmp_eq (tgt := 42) hx hb dX0_move_36 (by decide) (fun c_23 => ?_) (fun c_23 => ?_)
      · have r_24 : rgI (24) (24) x_22 := rg_w (rg_eq rl_24 c_23) (by decide) (by decide)
        refine lv_iload_n hx hb dX0_move_42 rfl (lv_at hl 1 rfl) ?_
        refine lv_if_eq (tgt := 63) hx hb dX0_move_43 (by decide) (fun c_25 => ?_) (fun c_25 => ?_)
        · have r_26 : rgI (0) (0) a0 := rg_w (rg_eq rl_0 c_25) (by decide) (by decide)
          exact L_63 s.heap [] ls (lv_sub hl [] rfl) hH hS
        · have r_27 : rgI (1) (23) a0 := rg_w (rg_neL r_17 rl_0 c_25) (by decide) (by decide)
          refine lv_iload_n hx hb dX0_move_46 rfl (lv_at hl 1 rfl) ?_
          refine lv_iload_n hx hb dX0_move_47 rfl (lv_at hl 2 rfl) ?_
          refine lv_icmp_eq (tgt := 63) hx hb dX0_move_48 (by decide) (fun c_28 => ?_) (fun c_28 => ?_)
          · exact L_63 s.heap [] ls (lv_sub hl [] rfl) hH hS
          · refine lv_aload_n hx hb dX0_move_51 rfl (lv_at hl 0 rfl) ?_
            refine hg_get hx hb hG igX0 hown hK o_c_1 rfl 0 (by decide) (hG _ mw_239) rfl dX0_move_52 ?_
            refine lv_iload_n hx hb dX0_move_55 rfl (lv_at hl 2 rfl) ?_
            refine lv_iload_n hx hb dX0_move_56 rfl (lv_at hl 1 rfl) ?_
            refine vp_callSi (W.runV (As := [.int a1, .int a0]) (rest := []) ⟨hx, hb, hml, hown, hts⟩ (c_X10_isIn l g Ty G q_2 a1 a0 kq_2) (cwV 2 hts (gwV mw_844 mw_845 mw_846 mw_77 mw_847) rfl rfl rfl hv_X10_isIn ⟨Nat.le_of_ble_eq_true rfl, Nat.le_of_ble_eq_true rfl⟩) ⟨PcH_blind, hg_recv hK o_c_5 rfl, PcH_pre hK hH⟩ rfl rfl hl.1 rfl (lv_room (Nat.le_of_ble_eq_true rfl)) dX0_move_57 ⟨Nat.zero_le _, Nat.zero_le _⟩) (fun x_29 hx_29 => ?_)
            have rx_29 : rgI (0) (1) x_29 := hx_29
            refine lv_if_eq (tgt := 66) hx hb dX0_move_60 (by decide) (fun c_30 => ?_) (fun c_30 => ?_)
            · have r_31 : rgI (0) (0) x_29 := rg_w (rg_eq rl_0 c_30) (by decide) (by decide)
              refine lv_aload_n hx hb dX0_move_66 rfl (lv_at hl 0 rfl) ?_
              refine hg_get hx hb hG igX0 hown hK o_c_1 rfl 0 (by decide) (hG _ mw_239) rfl dX0_move_67 ?_
              refine lv_iload_n hx hb dX0_move_70 rfl (lv_at hl 1 rfl) ?_
              refine vp_callSi (W.runV (As := [.int a0]) (rest := []) ⟨hx, hb, hml, hown, hts⟩ (c_X10_parentOf l g Ty G q_2 a0 kq_2) (cwV 1 hts (gwV mw_783 mw_683 mw_684 mw_77 mw_685) rfl rfl rfl hv_X10_parentOf ⟨Nat.le_of_ble_eq_true rfl, Nat.le_of_ble_eq_true rfl⟩) ⟨PcH_blind, hg_recv hK o_c_5 rfl, PcH_pre hK hH⟩ rfl rfl hl.1 rfl (lv_room (Nat.le_of_ble_eq_true rfl)) dX0_move_71 ⟨Nat.zero_le _, Nat.zero_le _⟩) (fun x_32 hx_32 => ?_)
              refine lv_istore (lv' := [(4, .int x_32), (0, .ref h0), (1, .int a0), (2, .int a1), (3, .int a2)]) hx hb dX0_move_74 hl (by decide) rfl (fun ls hl => ?_)
              refine lv_aload_n hx hb dX0_move_76 rfl (lv_at hl 1 rfl) ?_
              refine hg_get hx hb hG igX0 hown hK o_c_1 rfl 0 (by decide) (hG _ mw_239) rfl dX0_move_77 ?_
              refine lv_iload hx hb dX0_move_80 (lv_at hl 0 rfl) ?_
              refine vp_callSi (W.runV (As := [.int x_32]) (rest := []) ⟨hx, hb, hml, hown, hts⟩ (c_X10_groupOf l g Ty G q_2 x_32 kq_2) (cwV 1 hts (gwV mw_718 mw_608 mw_609 mw_77 mw_610) rfl rfl rfl hv_X10_groupOf ⟨Nat.le_of_ble_eq_true rfl, Nat.le_of_ble_eq_true rfl⟩) ⟨PcH_blind, hg_recv hK o_c_5 rfl, PcH_pre hK hH⟩ rfl rfl hl.1 rfl (lv_room (Nat.le_of_ble_eq_true rfl)) dX0_move_82 ⟨Nat.zero_le _, Nat.zero_le _⟩) (fun x_33 hx_33 => ?_)
              refine lv_if_eq (tgt := 91) hx hb dX0_move_85 (by decide) (fun c_34 => ?_) (fun c_34 => ?_)
              · have r_35 : rgI (0) (0) x_33 := rg_w (rg_eq rl_0 c_34) (by decide) (by decide)
                refine lv_aload_n hx hb dX0_move_91 rfl (lv_at hl 1 rfl) ?_
                refine hg_get hx hb hG igX0 hown hK o_c_1 rfl 0 (by decide) (hG _ mw_239) rfl dX0_move_92 ?_
                refine lv_iload_n hx hb dX0_move_95 rfl (lv_at hl 3 rfl) ?_
                refine vp_callSi (W.runV (As := [.int a1]) (rest := []) ⟨hx, hb, hml, hown, hts⟩ (c_X10_groupOf l g Ty G q_2 a1 kq_2) (cwV 1 hts (gwV mw_718 mw_608 mw_609 mw_77 mw_610) rfl rfl rfl hv_X10_groupOf ⟨Nat.le_of_ble_eq_true rfl, Nat.le_of_ble_eq_true rfl⟩) ⟨PcH_blind, hg_recv hK o_c_5 rfl, PcH_pre hK hH⟩ rfl rfl hl.1 rfl (lv_room (Nat.le_of_ble_eq_true rfl)) dX0_move_96 ⟨Nat.zero_le _, Nat.zero_le _⟩) (fun x_36 hx_36 => ?_)
                refine lv_if_eq (tgt := 105) hx hb dX0_move_99 (by decide) (fun c_37 => ?_) (fun c_37 => ?_)
                · have r_38 : rgI (0) (0) x_36 := rg_w (rg_eq rl_0 c_37) (by decide) (by decide)
                  refine lv_bipush (v := 100) hx hb dX0_move_105 (by decide) ?_
                  refine lv_iload hx hb dX0_move_107 (lv_at hl 0 rfl) ?_
                  refine lv_imul hx hb dX0_move_109 ?_
                  refine lv_topi (fun x_39 ex_39 => ?_)
                  refine lv_aload_n hx hb dX0_move_110 rfl (lv_at hl 1 rfl) ?_
                  refine hg_get hx hb hG igX0 hown hK o_c_1 rfl 0 (by decide) (hG _ mw_239) rfl dX0_move_111 ?_
                  refine lv_iload_n hx hb dX0_move_114 rfl (lv_at hl 2 rfl) ?_
                  refine vp_callSi (W.runV (As := [.int a0]) (rest := [.int x_39]) ⟨hx, hb, hml, hown, hts⟩ (c_X10_dirOf l g Ty G q_2 a0 kq_2) (cwV 1 hts (gwV mw_848 mw_849 mw_850 mw_77 mw_851) rfl rfl rfl hv_X10_dirOf ⟨Nat.le_of_ble_eq_true rfl, Nat.le_of_ble_eq_true rfl⟩) ⟨PcH_blind, hg_recv hK o_c_5 rfl, PcH_pre hK hH⟩ rfl rfl hl.1 rfl (lv_room (Nat.le_of_ble_eq_true rfl)) dX0_move_115 ⟨Nat.zero_le _, Nat.zero_le _⟩) (fun x_40 hx_40 => ?_)
                  refine lv_iadd hx hb dX0_move_118 ?_
                  refine lv_topi (fun x_41 ex_41 => ?_)
                  refine lv_istore (lv' := [(5, .int x_41), (4, .int x_32), (0, .ref h0), (1, .int a0), (2, .int a1), (3, .int a2)]) hx hb dX0_move_119 hl (by decide) rfl (fun ls hl => ?_)
                  refine lv_aload_n hx hb dX0_move_121 rfl (lv_at hl 2 rfl) ?_
                  refine hg_get hx hb hG igX0 hown hK o_c_1 rfl 0 (by decide) (hG _ mw_239) rfl dX0_move_122 ?_
                  refine lv_iload_n hx hb dX0_move_125 rfl (lv_at hl 3 rfl) ?_
                  refine lv_iload_n hx hb dX0_move_126 rfl (lv_at hl 4 rfl) ?_
                  refine lv_iload_n hx hb dX0_move_127 rfl (lv_at hl 5 rfl) ?_
                  refine va_callv (va_runV (As := [.int a0, .int a1, .int a2]) (rest := []) ⟨hx, hb, hml, hown, hts⟩ (c_X10_carry l g Ty G s.heap.size q_2 a0 a1 a2 kq_2) (cwV 3 hts (gwV mw_852 mw_853 mw_854 mw_77 mw_855) rfl rfl rfl hv_X10_carry ⟨Nat.le_of_ble_eq_true rfl, Nat.le_of_ble_eq_true rfl⟩) ⟨PcT_blind, hg_recv hK o_c_5 rfl, PcT_pre hK hH⟩ rfl rfl hl.1 rfl (lv_room (Nat.le_of_ble_eq_true rfl)) dX0_move_128 ⟨Nat.zero_le _, Nat.zero_le _⟩) hS (fun q _ h => AF.mono hS.1 h) (fun q h => AF.mono hS.1 h) (fun ux_42 t H locs ht hvm hx_42 hB hz hk hS => ?_)
                  have hH : HT g Ty G H := by rw [← ht]; rw [hx_42] at hB; exact hB
                  refine lv_aload_n hx hb dX0_move_131 rfl (lv_at hl 2 rfl) ?_
                  obtain ⟨_, ⟨q_44, q_45, q_46, rfl, kq_44, kq_45, kq_46⟩, o_c_43⟩ := hH h0 _ k_h0
                  refine hg_get hx hb hG igX0 hown hK o_c_43 rfl 0 (by decide) (hG _ mw_239) rfl dX0_move_132 ?_
                  refine lv_dup hx hb dX0_move_135 rfl ?_
                  obtain ⟨_, ⟨q_48, q_49, q_50, q_51, q_52, q_53, q_54, rfl, kq_48, kq_49, kq_50⟩, o_c_47⟩ := hH q_44 _ kq_44
                  refine hg_getN hx hb hG igX10 hown hK o_c_47 rfl 5 (by decide) ((hK.2.1 _ nwf_125).use rfl) rfl dX0_move_136 ?_
                  refine lv_iconst (v := 1) hx hb dX0_move_139 (by decide) ?_
                  refine lv_iadd hx hb dX0_move_140 ?_
                  refine lv_topi (fun x_55 ex_55 => ?_)
                  refine hg_putN (ty := .int) hx hb hG igX10 tyX10 tyX10_ok nmX10 hown hK hS o_c_47 (AF.of kq_44) rfl 5 (by decide) ((hK.2.1 _ nwf_125).use rfl) rfl (by decide +kernel) rfl rfl (Nat.le_of_ble_eq_true rfl) dX0_move_141 (fun H locs o_c_47 hz oq hS => ?_)
                  have o_c_47 : va_at g.1 vwCl (q_44, .inr (10, [.ref q_48, .ref q_49, .ref q_50, .int q_51, .int q_52, .int x_55, .int q_54])) H := o_c_47
                  have hH : HT g Ty G H := hH.put kq_44 ⟨q_48, q_49, q_50, q_51, q_52, x_55, q_54, rfl, kq_48, kq_49, kq_50⟩ o_c_47 oq
                  have o_c_43 := o_c_43.kept (oq _ (ne_kd k_h0 kq_44 (by decide)))
                  clear oq hz
                  refine lv_iload hx hb dX0_move_144 (lv_at hl 0 rfl) ?_
                  exact W.iret hx hb hr (fun t ht hWm => ⟨⟨x_41, (Ty, G), rfl, rfl, by show HT g Ty G t.heap; rw [ht]; exact hH⟩, hS.F ht⟩) hS.2.2 dX0_move_146
                · refine lv_bipush (v := (-6)) hx hb dX0_move_102 (by decide) ?_
                  exact W.iret hx hb hr (fun t ht hWm => ⟨⟨(-6), (Ty, G), rfl, rfl, by show HT g Ty G t.heap; rw [ht]; exact hH⟩, hS.F ht⟩) hS.2.2 dX0_move_104
              · refine lv_bipush (v := (-5)) hx hb dX0_move_88 (by decide) ?_
                exact W.iret hx hb hr (fun t ht hWm => ⟨⟨(-5), (Ty, G), rfl, rfl, by show HT g Ty G t.heap; rw [ht]; exact hH⟩, hS.F ht⟩) hS.2.2 dX0_move_90
            · have r_56 : rgI (1) (1) x_29 := rg_w (rg_neL rx_29 rl_0 c_30) (by decide) (by decide)
              exact L_63 s.heap [] ls (lv_sub hl [] rfl) hH hS
      · refine lv_bipush (v := (-2)) hx hb dX0_move_39 (by decide) ?_
        exact W.iret hx hb hr (fun t ht hWm => ⟨⟨(-2), (Ty, G), rfl, rfl, by show HT g Ty G t.heap; rw [ht]; exact hH⟩, hS.F ht⟩) hS.2.2 dX0_move_41
    · have r_57 : rgI (0) (0) x_18 := rg_w (rg_eq rl_0 c_19) (by decide) (by decide)
      exact L_23 s.heap [] ls (lv_sub hl [] rfl) hH hS
