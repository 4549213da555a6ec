set_option maxHeartbeats 4000000 in
set_option maxRecDepth 100000 in
theorem c_X2_dueBehindAct (l : Launch) (g : Gx) (Ty : TyM) (G : Gh) (a0 : Int32) : Met l yX2_dueBehindAct (wsG yX2_dueBehindAct cX2_dueBehindAct 1 (some .int)) ({ frames := 0, cells := 0, slots := 0, locals := 0 }) (PcH g Ty G [.int a0]) (vp_Si (fun r => True)) 0 0 (fun _ => False) := by
  refine Met.ofW (cc := cX2_dueBehindAct) (maxL := 1) (ret := (some .int)) (by decide) rfl ?_
  intro p e s m args below meth c s₁ B hml hv
  obtain ⟨rfl, hK, hH⟩ := hv
  have hx := B.exec
  have hb := B.bytes
  have hr := B.returns
  have hts := atoms_spec (ws := (wsG yX2_dueBehindAct cX2_dueBehindAct 1 (some .int))) B.pre
  have hG : ∀ w ∈ GW, w.before ([.int a0] : List Value).toArray s = true := fun w h => hts w (List.mem_cons_of_mem _ h)
  have hown : s.vm.findClass RX2 = some m.cls := findClass_of_methodNamed B.named
  have hlocks := B.notSynchronized
  have hl := lv_entry [.int a0] (n := 1) (Nat.le_of_ble_eq_true rfl)
  rw [lg_entry_eq]
  generalize (lg_sl [.int a0] ++ List.replicate (1 - (lg_sl [.int a0]).length) Slot.unset).toArray = ls at hl ⊢
  have hl : lv_has ls 1 [(0, .int a0)] := hl
  refine lv_iload_n hx hb dX2_dueBehindAct_0 rfl (lv_at hl 0 rfl) ?_
  by_cases c_1 : a0 = 98
  · refine lv_lookup (tgt := 62) (off := 61) hx hb dX2_dueBehindAct_1 (by decide) (by rw [c_1]; rfl) (by decide) ?_
    have r_2 : rgI (98) (98) a0 := rg_w (rg_eq rl_98 c_1) (by decide) (by decide)
    refine lv_iconst (v := 3) hx hb dX2_dueBehindAct_62 (by decide) ?_
    exact W.iret hx hb hr (fun t ht hW => ⟨3, rfl, trivial, ht⟩) (fun q h => by cases h) dX2_dueBehindAct_63
  by_cases c_3 : a0 = 107
  · refine lv_lookup (tgt := 64) (off := 63) hx hb dX2_dueBehindAct_1 (by decide) (by rw [c_3]; rfl) (by decide) ?_
    have r_4 : rgI (107) (107) a0 := rg_w (rg_eq rl_107 c_3) (by decide) (by decide)
    refine lv_iconst (v := 1) hx hb dX2_dueBehindAct_64 (by decide) ?_
    exact W.iret hx hb hr (fun t ht hW => ⟨1, rfl, trivial, ht⟩) (fun q h => by cases h) dX2_dueBehindAct_65
  by_cases c_5 : a0 = 109
  · refine lv_lookup (tgt := 60) (off := 59) hx hb dX2_dueBehindAct_1 (by decide) (by rw [c_5]; rfl) (by decide) ?_
    have r_6 : rgI (109) (109) a0 := rg_w (rg_eq rl_109 c_5) (by decide) (by decide)
    refine lv_iconst (v := 2) hx hb dX2_dueBehindAct_60 (by decide) ?_
    exact W.iret hx hb hr (fun t ht hW => ⟨2, rfl, trivial, ht⟩) (fun q h => by cases h) dX2_dueBehindAct_61
  by_cases c_7 : a0 = 114
  · refine lv_lookup (tgt := 62) (off := 61) hx hb dX2_dueBehindAct_1 (by decide) (by rw [c_7]; rfl) (by decide) ?_
    have r_8 : rgI (114) (114) a0 := rg_w (rg_eq rl_114 c_7) (by decide) (by decide)
    refine lv_iconst (v := 3) hx hb dX2_dueBehindAct_62 (by decide) ?_
    exact W.iret hx hb hr (fun t ht hW => ⟨3, rfl, trivial, ht⟩) (fun q h => by cases h) dX2_dueBehindAct_63
  by_cases c_9 : a0 = 117
  · refine lv_lookup (tgt := 60) (off := 59) hx hb dX2_dueBehindAct_1 (by decide) (by rw [c_9]; rfl) (by decide) ?_
    have r_10 : rgI (117) (117) a0 := rg_w (rg_eq rl_117 c_9) (by decide) (by decide)
    refine lv_iconst (v := 2) hx hb dX2_dueBehindAct_60 (by decide) ?_
    exact W.iret hx hb hr (fun t ht hW => ⟨2, rfl, trivial, ht⟩) (fun q h => by cases h) dX2_dueBehindAct_61
  by_cases c_11 : a0 = 118
  · refine lv_lookup (tgt := 62) (off := 61) hx hb dX2_dueBehindAct_1 (by decide) (by rw [c_11]; rfl) (by decide) ?_
    have r_12 : rgI (118) (118) a0 := rg_w (rg_eq rl_118 c_11) (by decide) (by decide)
    refine lv_iconst (v := 3) hx hb dX2_dueBehindAct_62 (by decide) ?_
    exact W.iret hx hb hr (fun t ht hW => ⟨3, rfl, trivial, ht⟩) (fun q h => by cases h) dX2_dueBehindAct_63
  refine lv_lookup (tgt := 66) (off := 65) hx hb dX2_dueBehindAct_1 (by decide) ((lv_osw c_1 rfl).trans ((lv_osw c_3 rfl).trans ((lv_osw c_5 rfl).trans ((lv_osw c_7 rfl).trans ((lv_osw c_9 rfl).trans ((lv_osw c_11 rfl).trans (rfl))))))) (by decide) ?_
  refine lv_iconst (v := 5) hx hb dX2_dueBehindAct_66 (by decide) ?_
  exact W.iret hx hb hr (fun t ht hW => ⟨5, rfl, trivial, ht⟩) (fun q h => by cases h) dX2_dueBehindAct_67

set_option maxHeartbeats 4000000 in
set_option maxRecDepth 100000 in
theorem c_X2_dueInPath (l : Launch) (g : Gx) (Ty : TyM) (G : Gh) (sz : Nat) (h0 : Nat) (a0 : Int32) (a1 : Int32) (a2 : Int32) (k_h0 : Ty h0 = some (12, 0)) : Met l yX2_dueInPath (wsG yX2_dueInPath cX2_dueInPath 4 (some .int)) ({ frames := 0, cells := 0, slots := 0, locals := 0 }) (PcT g Ty G sz [.ref h0, .int a0, .int a1, .int a2]) (QwI g Ty sz (fun r u => u = (Ty, G))) 0 0 (AF Ty sz) := by
  refine Met.ofW (cc := cX2_dueInPath) (maxL := 4) (ret := (some .int)) (by decide) rfl ?_
  intro p e s m args below meth c s₁ B hml hv
  obtain ⟨rfl, hsz, hK, hH⟩ := hv
  subst hsz
  have hx := B.exec
  have hb := B.bytes
  have hr := B.returns
  have hts := atoms_spec (ws := (wsG yX2_dueInPath cX2_dueInPath 4 (some .int))) B.pre
  have hG : ∀ w ∈ GW, w.before ([.ref h0, .int a0, .int a1, .int a2] : List Value).toArray s = true := fun w h => hts w (List.mem_cons_of_mem _ h)
  have hown : s.vm.findClass RX2 = some m.cls := findClass_of_methodNamed B.named
  have hlocks := B.notSynchronized
  have hl := lv_entry [.ref h0, .int a0, .int a1, .int a2] (n := 4) (Nat.le_of_ble_eq_true rfl)
  rw [lg_entry_eq]
  generalize (lg_sl [.ref h0, .int a0, .int a1, .int a2] ++ List.replicate (4 - (lg_sl [.ref h0, .int a0, .int a1, .int a2]).length) Slot.unset).toArray = ls at hl ⊢
  have hl : lv_has ls 4 [(0, .ref h0), (1, .int a0), (2, .int a1), (3, .int a2)] := hl
  have hS : va_S (AF Ty s.heap.size) s.heap s.heap [] := va_S.rf
  have L_48 : ∀ (H : Heap) (locs : List Loc) (ls : Array Slot), lv_has ls 4 [] → HT g Ty G H → va_S (AF Ty s.heap.size) s.heap H locs → Wm p l e (wsG yX2_dueInPath cX2_dueInPath 4 (some .int)) ({ frames := 0, cells := 0, slots := 0, locals := 0 }) s m [.ref h0, .int a0, .int a1, .int a2] below meth c H locs (0) (0) (QwI g Ty s.heap.size (fun r u => u = (Ty, G))) 0 0 (AF Ty s.heap.size) (F0 m 48 ls []) := by
    intro H locs ls hl hH hS
    refine lv_iconst (v := 5) hx hb dX2_dueInPath_48 (by decide) ?_
    exact W.iret hx hb hr (fun t ht hWm => ⟨⟨5, (Ty, G), rfl, rfl, by show HT g Ty G t.heap; rw [ht]; exact hH⟩, hS.F ht⟩) hS.2.2 dX2_dueInPath_49
  have L_45 : ∀ (H : Heap) (locs : List Loc) (z0_45 : Int32) (ls : Array Slot), rgI (46) (58) z0_45 → lv_has ls 4 [(0, .ref h0), (1, .int a0)] → HT g Ty G H → va_S (AF Ty s.heap.size) s.heap H locs → Wm p l e (wsG yX2_dueInPath cX2_dueInPath 4 (some .int)) ({ frames := 0, cells := 0, slots := 0, locals := 0 }) s m [.ref h0, .int a0, .int a1, .int a2] below meth c H locs (0) (0) (QwI g Ty s.heap.size (fun r u => u = (Ty, G))) 0 0 (AF Ty s.heap.size) (F0 m 45 ls [.int z0_45, .int a1]) := by
    intro H locs z0_45 ls rz0_45 hl hH hS
    refine lv_icmp_eq (tgt := 50) hx hb dX2_dueInPath_45 (by decide) (fun c_1 => ?_) (fun c_1 => ?_)
    · have r_2 : rgI (46) (58) a1 := rg_w (rg_eq rz0_45 c_1) (by decide) (by decide)
      refine lv_aload_n hx hb dX2_dueInPath_50 rfl (lv_at hl 0 rfl) ?_
      refine lv_iconst (v := 0) hx hb dX2_dueInPath_51 (by decide) ?_
      obtain ⟨_, ⟨q_4, q_5, q_6, q_7, q_8, rfl, kq_4, kq_5, kq_6⟩, o_c_3⟩ := hH h0 _ k_h0
      refine hg_put (ty := .int) hx hb hG igX2 tyX2 tyX2_ok nmX2 hown hK hS o_c_3 (AF.of k_h0) rfl 3 (by decide) (hG _ mw_275) rfl (by decide +kernel) rfl rfl (Nat.le_of_ble_eq_true rfl) dX2_dueInPath_52 (fun H locs o_c_3 hz oq hS => ?_)
      have o_c_3 : va_at g.1 vwCl (h0, .inr (2, [.ref q_4, .ref q_5, .ref q_6, .int 0, .int q_8])) H := o_c_3
      have hH : HT g Ty G H := hH.put k_h0 ⟨q_4, q_5, q_6, 0, q_8, rfl, kq_4, kq_5, kq_6⟩ o_c_3 oq
      clear oq hz
      refine lv_iload_n hx hb dX2_dueInPath_55 rfl (lv_at hl 1 rfl) ?_
      refine lv_iconst (v := 3) hx hb dX2_dueInPath_56 (by decide) ?_
      refine lv_icmp_ne (tgt := 64) hx hb dX2_dueInPath_57 (by decide) (fun c_9 => ?_) (fun c_9 => ?_)
      · refine lv_iconst (v := 0) hx hb dX2_dueInPath_64 (by decide) ?_
        exact W.iret hx hb hr (fun t ht hWm => ⟨⟨0, (Ty, G), rfl, rfl, by show HT g Ty G t.heap; rw [ht]; exact hH⟩, hS.F ht⟩) hS.2.2 dX2_dueInPath_65
      · have r_10 : rgI (3) (3) a0 := rg_w (rg_eq rl_3 c_9) (by decide) (by decide)
        refine lv_iconst (v := 4) hx hb dX2_dueInPath_60 (by decide) ?_
        refine lv_goto (tgt := 65) hx hb dX2_dueInPath_61 (by decide) ?_
        exact W.iret hx hb hr (fun t ht hWm => ⟨⟨4, (Ty, G), rfl, rfl, by show HT g Ty G t.heap; rw [ht]; exact hH⟩, hS.F ht⟩) hS.2.2 dX2_dueInPath_65
    · exact L_48 H locs ls (lv_sub hl [] rfl) hH hS
  have L_25 : ∀ (H : Heap) (locs : List Loc) (ls : Array Slot), lv_has ls 4 [(0, .ref h0), (1, .int a0), (2, .int a1)] → HT g Ty G H → va_S (AF Ty s.heap.size) s.heap H locs → Wm p l e (wsG yX2_dueInPath cX2_dueInPath 4 (some .int)) ({ frames := 0, cells := 0, slots := 0, locals := 0 }) s m [.ref h0, .int a0, .int a1, .int a2] below meth c H locs (0) (0) (QwI g Ty s.heap.size (fun r u => u = (Ty, G))) 0 0 (AF Ty s.heap.size) (F0 m 25 ls []) := by
    intro H locs ls hl hH hS
    refine lv_aload_n hx hb dX2_dueInPath_25 rfl (lv_at hl 0 rfl) ?_
    obtain ⟨_, ⟨q_12, q_13, q_14, q_15, q_16, rfl, kq_12, kq_13, kq_14⟩, o_c_11⟩ := hH h0 _ k_h0
    refine hg_get hx hb hG igX2 hown hK o_c_11 rfl 3 (by decide) (hG _ mw_275) rfl dX2_dueInPath_26 ?_
    refine lv_if_eq (tgt := 48) hx hb dX2_dueInPath_29 (by decide) (fun c_17 => ?_) (fun c_17 => ?_)
    · have r_18 : rgI (0) (0) q_15 := rg_w (rg_eq rl_0 c_17) (by decide) (by decide)
      exact L_48 H locs ls (lv_sub hl [] rfl) hH hS
    · refine lv_iload_n hx hb dX2_dueInPath_32 rfl (lv_at hl 2 rfl) ?_
      refine lv_iload_n hx hb dX2_dueInPath_33 rfl (lv_at hl 1 rfl) ?_
      refine lv_iconst (v := 3) hx hb dX2_dueInPath_34 (by decide) ?_
      refine lv_icmp_ne (tgt := 43) hx hb dX2_dueInPath_35 (by decide) (fun c_19 => ?_) (fun c_19 => ?_)
      · refine lv_bipush (v := 46) hx hb dX2_dueInPath_43 (by decide) ?_
        exact L_45 H locs 46 ls (rg_w rl_46 (by decide) (by decide)) (lv_sub hl [0, 1] rfl) hH hS
      · have r_20 : rgI (3) (3) a0 := rg_w (rg_eq rl_3 c_19) (by decide) (by decide)
        refine lv_bipush (v := 58) hx hb dX2_dueInPath_38 (by decide) ?_
        refine lv_goto (tgt := 45) hx hb dX2_dueInPath_40 (by decide) ?_
        exact L_45 H locs 58 ls (rg_w rl_58 (by decide) (by decide)) (lv_sub hl [0, 1] rfl) hH hS
  refine lv_iload_n hx hb dX2_dueInPath_0 rfl (lv_at hl 3 rfl) ?_
  refine lv_if_eq (tgt := 25) hx hb dX2_dueInPath_1 (by decide) (fun c_21 => ?_) (fun c_21 => ?_)
  · have r_22 : rgI (0) (0) a2 := rg_w (rg_eq rl_0 c_21) (by decide) (by decide)
    exact L_25 s.heap [] ls (lv_sub hl [0, 1, 2] rfl) hH hS
  · refine lv_aload_n hx hb dX2_dueInPath_4 rfl (lv_at hl 0 rfl) ?_
    obtain ⟨_, ⟨q_24, q_25, q_26, q_27, q_28, rfl, kq_24, kq_25, kq_26⟩, o_c_23⟩ := hH h0 _ k_h0
    refine hg_get hx hb hG igX2 hown hK o_c_23 rfl 3 (by decide) (hG _ mw_275) rfl dX2_dueInPath_5 ?_
    refine lv_bipush (v := 12) hx hb dX2_dueInPath_8 (by decide) ?_
    refine lv_icmp_ge (tgt := 25) hx hb dX2_dueInPath_10 (by decide) (fun c_29 => ?_) (fun c_29 => ?_)
    · have r_30 : rgI (12) (2147483647) q_27 := rg_w (rg_leR rl_12 (rg_top q_27) c_29) (by decide) (by decide)
      exact L_25 s.heap [] ls (lv_sub hl [0, 1, 2] rfl) hH hS
    · have r_31 : rgI (-2147483648) (11) q_27 := rg_w (rg_ltL (rg_top q_27) rl_12 (nle_lt c_29)) (by decide) (by decide)
      refine lv_aload_n hx hb dX2_dueInPath_13 rfl (lv_at hl 0 rfl) ?_
      refine lv_dup hx hb dX2_dueInPath_14 rfl ?_
      refine hg_get hx hb hG igX2 hown hK o_c_23 rfl 3 (by decide) (hG _ mw_275) rfl dX2_dueInPath_15 ?_
      refine lv_iconst (v := 1) hx hb dX2_dueInPath_18 (by decide) ?_
      refine lv_iadd hx hb dX2_dueInPath_19 ?_
      refine lv_topi (fun x_32 ex_32 => ?_)
      have rx_32 : rgI (-2147483647) (12) x_32 := by rw [ex_32]; exact rg_w (rg_add r_31 rl_1 (by decide) (by decide)) (by decide) (by decide)
      have qx_32 : x_32.toInt = (q_27 : Int32).toInt + 1 := by rw [ex_32]; exact rg_addE r_31 rl_1 (by decide) (by decide)
      refine hg_put (ty := .int) hx hb hG igX2 tyX2 tyX2_ok nmX2 hown hK hS o_c_23 (AF.of k_h0) rfl 3 (by decide) (hG _ mw_275) rfl (by decide +kernel) rfl rfl (Nat.le_of_ble_eq_true rfl) dX2_dueInPath_20 (fun H locs o_c_23 hz oq hS => ?_)
      have o_c_23 : va_at g.1 vwCl (h0, .inr (2, [.ref q_24, .ref q_25, .ref q_26, .int x_32, .int q_28])) H := o_c_23
      have hH : HT g Ty G H := hH.put k_h0 ⟨q_24, q_25, q_26, x_32, q_28, rfl, kq_24, kq_25, kq_26⟩ o_c_23 oq
      clear oq hz
      refine lv_iload_n hx hb dX2_dueInPath_23 rfl (lv_at hl 1 rfl) ?_
      exact W.iret hx hb hr (fun t ht hWm => ⟨⟨a0, (Ty, G), rfl, rfl, by show HT g Ty G t.heap; rw [ht]; exact hH⟩, hS.F ht⟩) hS.2.2 dX2_dueInPath_24

set_option maxHeartbeats 4000000 in
set_option maxRecDepth 100000 in
theorem c_X2_dueBehind (l : Launch) (g : Gx) (Ty : TyM) (G : Gh) (sz : Nat) (h0 : Nat) (a0 : Int32) (a1 : Int32) (a2 : Int32) (k_h0 : Ty h0 = some (12, 0)) : Met l yX2_dueBehind (wsG yX2_dueBehind cX2_dueBehind 4 (some .int)) ({ frames := 1, cells := 0, slots := 0, locals := 23 }) (PcT g Ty G sz [.ref h0, .int a0, .int a1, .int a2]) (QwI g Ty sz (fun r u => u = (Ty, G))) 0 0 (AF Ty sz) := by
  refine Met.ofW (cc := cX2_dueBehind) (maxL := 4) (ret := (some .int)) (by decide) rfl ?_
  intro p e s m args below meth c s₁ B hml hv
  obtain ⟨rfl, hsz, hK, hH⟩ := hv
  subst hsz
  have hx := B.exec
  have hb := B.bytes
  have hr := B.returns
  have hts := atoms_spec (ws := (wsG yX2_dueBehind cX2_dueBehind 4 (some .int))) B.pre
  have hG : ∀ w ∈ GW, w.before ([.ref h0, .int a0, .int a1, .int a2] : List Value).toArray s = true := fun w h => hts w (List.mem_cons_of_mem _ h)
  have hown : s.vm.findClass RX2 = some m.cls := findClass_of_methodNamed B.named
  have hlocks := B.notSynchronized
  have hl := lv_entry [.ref h0, .int a0, .int a1, .int a2] (n := 4) (Nat.le_of_ble_eq_true rfl)
  rw [lg_entry_eq]
  generalize (lg_sl [.ref h0, .int a0, .int a1, .int a2] ++ List.replicate (4 - (lg_sl [.ref h0, .int a0, .int a1, .int a2]).length) Slot.unset).toArray = ls at hl ⊢
  have hl : lv_has ls 4 [(0, .ref h0), (1, .int a0), (2, .int a1), (3, .int a2)] := hl
  have hS : va_S (AF Ty s.heap.size) s.heap s.heap [] := va_S.rf
  have L_54 : ∀ (H : Heap) (locs : List Loc) (ls : Array Slot), lv_has ls 4 [] → HT g Ty G H → va_S (AF Ty s.heap.size) s.heap H locs → Wm p l e (wsG yX2_dueBehind cX2_dueBehind 4 (some .int)) ({ frames := 1, cells := 0, slots := 0, locals := 23 }) s m [.ref h0, .int a0, .int a1, .int a2] below meth c H locs (0) (0) (QwI g Ty s.heap.size (fun r u => u = (Ty, G))) 0 0 (AF Ty s.heap.size) (F0 m 54 ls []) := by
    intro H locs ls hl hH hS
    refine lv_iconst (v := 5) hx hb dX2_dueBehind_54 (by decide) ?_
    exact W.iret hx hb hr (fun t ht hWm => ⟨⟨5, (Ty, G), rfl, rfl, by show HT g Ty G t.heap; rw [ht]; exact hH⟩, hS.F ht⟩) hS.2.2 dX2_dueBehind_55
  refine lv_iload_n hx hb dX2_dueBehind_0 rfl (lv_at hl 1 rfl) ?_
  by_cases c_1 : a0 = 0
  · refine lv_lookup (tgt := 28) (off := 27) hx hb dX2_dueBehind_1 (by decide) (by rw [c_1]; rfl) (by decide) ?_
    have r_2 : rgI (0) (0) a0 := rg_w (rg_eq rl_0 c_1) (by decide) (by decide)
    refine lv_aload_n hx hb dX2_dueBehind_28 rfl (lv_at hl 0 rfl) ?_
    refine lv_iconst (v := 0) hx hb dX2_dueBehind_29 (by decide) ?_
    obtain ⟨_, ⟨q_4, q_5, q_6, q_7, q_8, rfl, kq_4, kq_5, kq_6⟩, o_c_3⟩ := hH h0 _ k_h0
    refine hg_put (ty := .int) hx hb hG igX2 tyX2 tyX2_ok nmX2 hown hK hS o_c_3 (AF.of k_h0) rfl 3 (by decide) (hG _ mw_275) rfl (by decide +kernel) rfl rfl (Nat.le_of_ble_eq_true rfl) dX2_dueBehind_30 (fun H locs o_c_3 hz oq hS => ?_)
    have o_c_3 : va_at g.1 vwCl (h0, .inr (2, [.ref q_4, .ref q_5, .ref q_6, .int 0, .int q_8])) H := o_c_3
    have hH : HT g Ty G H := hH.put k_h0 ⟨q_4, q_5, q_6, 0, q_8, rfl, kq_4, kq_5, kq_6⟩ o_c_3 oq
    clear oq hz
    refine lv_iload_n hx hb dX2_dueBehind_33 rfl (lv_at hl 2 rfl) ?_
    refine vp_callSi (W.runS (As := [.int a1]) (rest := []) ⟨hx, hb, hml, hown, hts⟩ (c_X2_dueBehindAct l g Ty G a1 ) (cwSx 1 hts hG (gwC mw_872) mw_84 mw_870 mw_871 rfl rfl rfl hd_X2_dueBehindAct ⟨Nat.le_of_ble_eq_true rfl, Nat.le_of_ble_eq_true rfl⟩) ⟨PcH_blind, PcH_pre hK hH⟩ rfl rfl hl.1 rfl (lv_room (Nat.le_of_ble_eq_true rfl)) dX2_dueBehind_34 ⟨Nat.zero_le _, Nat.zero_le _⟩) (fun x_9 hx_9 => ?_)
    exact W.iret hx hb hr (fun t ht hWm => ⟨⟨x_9, (Ty, G), rfl, rfl, by show HT g Ty G t.heap; rw [ht]; exact hH⟩, hS.F ht⟩) hS.2.2 dX2_dueBehind_37
  by_cases c_10 : a0 = 1
  · refine lv_lookup (tgt := 38) (off := 37) hx hb dX2_dueBehind_1 (by decide) (by rw [c_10]; rfl) (by decide) ?_
    have r_11 : rgI (1) (1) a0 := rg_w (rg_eq rl_1 c_10) (by decide) (by decide)
    refine lv_iload_n hx hb dX2_dueBehind_38 rfl (lv_at hl 2 rfl) ?_
    refine lv_bipush (v := 48) hx hb dX2_dueBehind_39 (by decide) ?_
    refine lv_icmp_lt (tgt := 54) hx hb dX2_dueBehind_41 (by decide) (fun c_12 => ?_) (fun c_12 => ?_)
    · have r_13 : rgI (-2147483648) (47) a1 := rg_w (rg_ltL (rg_top a1) rl_48 c_12) (by decide) (by decide)
      exact L_54 s.heap [] ls (lv_sub hl [] rfl) hH hS
    · have r_14 : rgI (48) (2147483647) a1 := rg_w (rg_leR rl_48 (rg_top a1) (nlt_le c_12)) (by decide) (by decide)
      refine lv_iload_n hx hb dX2_dueBehind_44 rfl (lv_at hl 2 rfl) ?_
      refine lv_bipush (v := 51) hx hb dX2_dueBehind_45 (by decide) ?_
      refine lv_icmp_gt (tgt := 54) hx hb dX2_dueBehind_47 (by decide) (fun c_15 => ?_) (fun c_15 => ?_)
      · have r_16 : rgI (52) (2147483647) a1 := rg_w (rg_ltR rl_51 r_14 c_15) (by decide) (by decide)
        exact L_54 s.heap [] ls (lv_sub hl [] rfl) hH hS
      · have r_17 : rgI (48) (51) a1 := rg_w (rg_leL r_14 rl_51 (nlt_le c_15)) (by decide) (by decide)
        refine lv_iconst (v := 2) hx hb dX2_dueBehind_50 (by decide) ?_
        refine lv_goto (tgt := 55) hx hb dX2_dueBehind_51 (by decide) ?_
        exact W.iret hx hb hr (fun t ht hWm => ⟨⟨2, (Ty, G), rfl, rfl, by show HT g Ty G t.heap; rw [ht]; exact hH⟩, hS.F ht⟩) hS.2.2 dX2_dueBehind_55
  refine lv_lookup (tgt := 56) (off := 55) hx hb dX2_dueBehind_1 (by decide) ((lv_osw c_1 rfl).trans ((lv_osw c_10 rfl).trans (rfl))) (by decide) ?_
  refine lv_aload_n hx hb dX2_dueBehind_56 rfl (lv_at hl 0 rfl) ?_
  refine lv_iload_n hx hb dX2_dueBehind_57 rfl (lv_at hl 1 rfl) ?_
  refine lv_iload_n hx hb dX2_dueBehind_58 rfl (lv_at hl 2 rfl) ?_
  refine lv_iload_n hx hb dX2_dueBehind_59 rfl (lv_at hl 3 rfl) ?_
  obtain ⟨_, ⟨q_19, q_20, q_21, q_22, q_23, rfl, kq_19, kq_20, kq_21⟩, o_c_18⟩ := hH h0 _ k_h0
  refine va_calli (va_runV (As := [.int a0, .int a1, .int a2]) (rest := []) ⟨hx, hb, hml, hown, hts⟩ (c_X2_dueInPath l g Ty G s.heap.size h0 a0 a1 a2 k_h0) (cwV 3 hts (gwV mw_873 mw_875 mw_20 mw_84 mw_876) rfl rfl rfl hv_X2_dueInPath ⟨Nat.le_of_ble_eq_true rfl, Nat.le_of_ble_eq_true rfl⟩) ⟨PcT_blind, hg_recv hK o_c_18 rfl, PcT_pre hK hH⟩ rfl rfl hl.1 rfl (lv_room (Nat.le_of_ble_eq_true rfl)) dX2_dueBehind_60 ⟨Nat.zero_le _, Nat.zero_le _⟩) hS (fun q _ h => AF.mono hS.1 h) (fun q h => AF.mono hS.1 h) (fun x_24 ux_24 t H locs ht hvm hx_24 hB hz hk hS => ?_)
  have hH : HT g Ty G H := by rw [← ht]; rw [hx_24] at hB; exact hB
  exact W.iret hx hb hr (fun t ht hWm => ⟨⟨x_24, (Ty, G), rfl, rfl, by show HT g Ty G t.heap; rw [ht]; exact hH⟩, hS.F ht⟩) hS.2.2 dX2_dueBehind_63

set_option maxHeartbeats 4000000 in
set_option maxRecDepth 100000 in
theorem c_X2_begin (l : Launch) (g : Gx) (Ty : TyM) (G : Gh) (sz : Nat) (h0 : Nat) (k_h0 : Ty h0 = some (12, 0)) : Met l yX2_begin (wsG yX2_begin cX2_begin 1 none) ({ frames := 0, cells := 0, slots := 0, locals := 0 }) (PcT g Ty G sz [.ref h0]) (QwV g Ty sz (fun u => u = (Ty, G))) 0 0 (AF Ty sz) := by
  refine Met.ofW (cc := cX2_begin) (maxL := 1) (ret := none) (by decide) rfl ?_
  intro p e s m args below meth c s₁ B hml hv
  obtain ⟨rfl, hsz, hK, hH⟩ := hv
  subst hsz
  have hx := B.exec
  have hb := B.bytes
  have hr := B.returns
  have hts := atoms_spec (ws := (wsG yX2_begin cX2_begin 1 none)) B.pre
  have hG : ∀ w ∈ GW, w.before ([.ref h0] : List Value).toArray s = true := fun w h => hts w (List.mem_cons_of_mem _ h)
  have hown : s.vm.findClass RX2 = some m.cls := findClass_of_methodNamed B.named
  have hlocks := B.notSynchronized
  have hl := lv_entry [.ref h0] (n := 1) (Nat.le_of_ble_eq_true rfl)
  rw [lg_entry_eq]
  generalize (lg_sl [.ref h0] ++ List.replicate (1 - (lg_sl [.ref h0]).length) Slot.unset).toArray = ls at hl ⊢
  have hl : lv_has ls 1 [(0, .ref h0)] := hl
  have hS : va_S (AF Ty s.heap.size) s.heap s.heap [] := va_S.rf
  refine lv_aload_n hx hb dX2_begin_0 rfl (lv_at hl 0 rfl) ?_
  refine lv_iconst (v := 0) hx hb dX2_begin_1 (by decide) ?_
  obtain ⟨_, ⟨q_2, q_3, q_4, q_5, q_6, rfl, kq_2, kq_3, kq_4⟩, o_c_1⟩ := hH h0 _ k_h0
  refine hg_put (ty := .int) hx hb hG igX2 tyX2 tyX2_ok nmX2 hown hK hS o_c_1 (AF.of k_h0) rfl 4 (by decide) (hG _ mw_276) rfl (by decide +kernel) rfl rfl (Nat.le_of_ble_eq_true rfl) dX2_begin_2 (fun H locs o_c_1 hz oq hS => ?_)
  have o_c_1 : va_at g.1 vwCl (h0, .inr (2, [.ref q_2, .ref q_3, .ref q_4, .int q_5, .int 0])) H := o_c_1
  have hH : HT g Ty G H := hH.put k_h0 ⟨q_2, q_3, q_4, q_5, 0, rfl, kq_2, kq_3, kq_4⟩ o_c_1 oq
  clear oq hz
  exact W.vret hx hb hr (fun t ht hWm => ⟨⟨(Ty, G), rfl, rfl, by show HT g Ty G t.heap; rw [ht]; exact hH⟩, hS.F ht⟩) hS.2.2 dX2_begin_5

set_option maxHeartbeats 4000000 in
set_option maxRecDepth 100000 in
theorem c_X2_hasMore (l : Launch) (g : Gx) (Ty : TyM) (G : Gh) (h0 : Nat) (b0 : Nat) (k_h0 : Ty h0 = some (12, 0)) (k_b0 : Ty b0 = some (19, 0)) : Met l yX2_hasMore (wsG yX2_hasMore cX2_hasMore 2 (some .boolean)) ({ frames := 0, cells := 0, slots := 0, locals := 0 }) (PcH g Ty G [.ref h0, .ref b0]) (vp_Si (fun r => rgI (0) (1) r)) 0 0 (fun _ => False) := by
  refine Met.ofW (cc := cX2_hasMore) (maxL := 2) (ret := (some .boolean)) (by decide) rfl ?_
  intro p e s m args below meth c s₁ B hml hv
  obtain ⟨rfl, hK, hH⟩ := hv
  have hx := B.exec
  have hb := B.bytes
  have hr := B.returns
  have hts := atoms_spec (ws := (wsG yX2_hasMore cX2_hasMore 2 (some .boolean))) B.pre
  have hG : ∀ w ∈ GW, w.before ([.ref h0, .ref b0] : List Value).toArray s = true := fun w h => hts w (List.mem_cons_of_mem _ h)
  have hown : s.vm.findClass RX2 = some m.cls := findClass_of_methodNamed B.named
  have hlocks := B.notSynchronized
  have hl := lv_entry [.ref h0, .ref b0] (n := 2) (Nat.le_of_ble_eq_true rfl)
  rw [lg_entry_eq]
  generalize (lg_sl [.ref h0, .ref b0] ++ List.replicate (2 - (lg_sl [.ref h0, .ref b0]).length) Slot.unset).toArray = ls at hl ⊢
  have hl : lv_has ls 2 [(0, .ref h0), (1, .ref b0)] := hl
  refine lv_aload_n hx hb dX2_hasMore_0 rfl (lv_at hl 0 rfl) ?_
  obtain ⟨_, ⟨q_2, q_3, q_4, q_5, q_6, rfl, kq_2, kq_3, kq_4⟩, o_c_1⟩ := hH h0 _ k_h0
  refine hg_get hx hb hG igX2 hown hK o_c_1 rfl 4 (by decide) (hG _ mw_276) rfl dX2_hasMore_1 ?_
  refine lv_aload_n hx hb dX2_hasMore_4 rfl (lv_at hl 1 rfl) ?_
  obtain ⟨_, ⟨q_8, rfl, kq_8, rq_9, t_10⟩, o_c_7⟩ := hH b0 _ k_b0
  refine hg_getN hx hb hG igX9 hown hK o_c_7 rfl 1 (by decide) ((hK.2.1 _ nwf_173).use rfl) rfl dX2_hasMore_5 ?_
  refine lv_icmp_ge (tgt := 15) hx hb dX2_hasMore_8 (by decide) (fun c_11 => ?_) (fun c_11 => ?_)
  · have r_12 : rgI (0) (2147483647) q_6 := rg_w (rg_leR rq_9 (rg_top q_6) c_11) (by decide) (by decide)
    refine lv_iconst (v := 0) hx hb dX2_hasMore_15 (by decide) ?_
    exact W.zret hx hb hr rfl (fun t ht hW => ⟨0, rfl, rg_w rl_0 (by decide) (by decide), ht⟩) (fun q h => by cases h) dX2_hasMore_16
  · have r_13 : rgI (-2147483648) (79) q_6 := rg_w (rg_ltL (rg_top q_6) rq_9 (nle_lt c_11)) (by decide) (by decide)
    refine lv_iconst (v := 1) hx hb dX2_hasMore_11 (by decide) ?_
    refine lv_goto (tgt := 16) hx hb dX2_hasMore_12 (by decide) ?_
    exact W.zret hx hb hr rfl (fun t ht hW => ⟨1, rfl, rg_w rl_1 (by decide) (by decide), ht⟩) (fun q h => by cases h) dX2_hasMore_16

set_option maxHeartbeats 4000000 in
set_option maxRecDepth 100000 in
theorem c_X2_read (l : Launch) (g : Gx) (Ty : TyM) (G : Gh) (sz : Nat) (h0 : Nat) (b0 : Nat) (k_h0 : Ty h0 = some (12, 0)) (k_b0 : Ty b0 = some (19, 0)) : Met l yX2_read (wsG yX2_read cX2_read 4 (some .int)) ({ frames := 2, cells := 0, slots := 0, locals := 46 }) (PcT g Ty G sz [.ref h0, .ref b0]) (QwI g Ty sz (fun r u => u = (Ty, G))) 0 0 (AF Ty sz) := by
  refine Met.ofW (cc := cX2_read) (maxL := 4) (ret := (some .int)) (by decide) rfl ?_
  intro p e s m args below meth c s₁ B hml hv
  obtain ⟨rfl, hsz, hK, hH⟩ := hv
  subst hsz
  have hx := B.exec
  have hb := B.bytes
  have hr := B.returns
  have hts := atoms_spec (ws := (wsG yX2_read cX2_read 4 (some .int))) B.pre
  have hG : ∀ w ∈ GW, w.before ([.ref h0, .ref b0] : List Value).toArray s = true := fun w h => hts w (List.mem_cons_of_mem _ h)
  have hown : s.vm.findClass RX2 = some m.cls := findClass_of_methodNamed B.named
  have hlocks := B.notSynchronized
  have hl := lv_entry [.ref h0, .ref b0] (n := 4) (Nat.le_of_ble_eq_true rfl)
  rw [lg_entry_eq]
  generalize (lg_sl [.ref h0, .ref b0] ++ List.replicate (4 - (lg_sl [.ref h0, .ref b0]).length) Slot.unset).toArray = ls at hl ⊢
  have hl : lv_has ls 4 [(0, .ref h0), (1, .ref b0)] := hl
  have hS : va_S (AF Ty s.heap.size) s.heap s.heap [] := va_S.rf
  have L_56 : ∀ (H : Heap) (locs : List Loc) (y2_56 : Int32) (ls : Array Slot), lv_has ls 4 [(1, .ref b0), (2, .int y2_56)] → HT g Ty G H → va_S (AF Ty s.heap.size) s.heap H locs → Wm p l e (wsG yX2_read cX2_read 4 (some .int)) ({ frames := 2, cells := 0, slots := 0, locals := 46 }) s m [.ref h0, .ref b0] below meth c H locs (0) (0) (QwI g Ty s.heap.size (fun r u => u = (Ty, G))) 0 0 (AF Ty s.heap.size) (F0 m 56 ls []) := by
    intro H locs y2_56 ls hl hH hS
    refine lv_aload_n hx hb dX2_read_56 rfl (lv_at hl 0 rfl) ?_
    obtain ⟨_, ⟨q_2, rfl, kq_2, rq_3, t_4⟩, o_c_1⟩ := hH b0 _ k_b0
    refine hg_getN hx hb hG igX9 hown hK o_c_1 rfl 1 (by decide) ((hK.2.1 _ nwf_173).use rfl) rfl dX2_read_57 ?_
    refine lv_bipush (v := 72) hx hb dX2_read_60 (by decide) ?_
    refine lv_icmp_le (tgt := 68) hx hb dX2_read_62 (by decide) (fun c_5 => ?_) (fun c_5 => ?_)
    · have r_6 : rgI (0) (72) (G.1 0) := rg_w (rg_leL rq_3 rl_72 c_5) (by decide) (by decide)
      refine lv_iload_n hx hb dX2_read_68 rfl (lv_at hl 1 rfl) ?_
      refine lv_if_ne (tgt := 76) hx hb dX2_read_69 (by decide) (fun c_7 => ?_) (fun c_7 => ?_)
      · refine lv_aload_n hx hb dX2_read_76 rfl (lv_at hl 0 rfl) ?_
        refine hg_getN hx hb hG igX9 hown hK o_c_1 rfl 1 (by decide) ((hK.2.1 _ nwf_173).use rfl) rfl dX2_read_77 ?_
        exact W.iret hx hb hr (fun t ht hWm => ⟨⟨(G.1 0), (Ty, G), rfl, rfl, by show HT g Ty G t.heap; rw [ht]; exact hH⟩, hS.F ht⟩) hS.2.2 dX2_read_80
      · have r_8 : rgI (0) (0) y2_56 := rg_w (rg_eq rl_0 c_7) (by decide) (by decide)
        refine lv_iconst (v := (-1)) hx hb dX2_read_72 (by decide) ?_
        refine lv_goto (tgt := 80) hx hb dX2_read_73 (by decide) ?_
        exact W.iret hx hb hr (fun t ht hWm => ⟨⟨(-1), (Ty, G), rfl, rfl, by show HT g Ty G t.heap; rw [ht]; exact hH⟩, hS.F ht⟩) hS.2.2 dX2_read_80
    · have r_9 : rgI (73) (80) (G.1 0) := rg_w (rg_ltR rl_72 rq_3 (nle_lt c_5)) (by decide) (by decide)
      refine lv_bipush (v := 72) hx hb dX2_read_65 (by decide) ?_
      exact W.iret hx hb hr (fun t ht hWm => ⟨⟨72, (Ty, G), rfl, rfl, by show HT g Ty G t.heap; rw [ht]; exact hH⟩, hS.F ht⟩) hS.2.2 dX2_read_67
  have L_4 : ∀ (n : Nat) (H : Heap) (locs : List Loc) (y2_4 : Int32) (y3_4 : Int32) (ls : Array Slot), rgI (0) (72) y3_4 → (72 - (y3_4).toInt).toNat < n → lv_has ls 4 [(0, .ref h0), (1, .ref b0), (2, .int y2_4), (3, .int y3_4)] → HT g Ty G H → va_S (AF Ty s.heap.size) s.heap H locs → Wm p l e (wsG yX2_read cX2_read 4 (some .int)) ({ frames := 2, cells := 0, slots := 0, locals := 46 }) s m [.ref h0, .ref b0] below meth c H locs (0) (0) (QwI g Ty s.heap.size (fun r u => u = (Ty, G))) 0 0 (AF Ty s.heap.size) (F0 m 4 ls []) := by
    intro n
    induction n with
    | zero => intro H locs y2_4 y3_4 ls ry3_4 hm; exact absurd hm (Nat.not_lt_zero _)
    | succ n ih_4 =>
      intro H locs y2_4 y3_4 ls ry3_4 hm_4 hl hH hS
      have L_39 : ∀ (H : Heap) (locs : List Loc) (z0_39 : Int32) (z1_39 : Int32) (ls : Array Slot), rgI (0) (71) y3_4 → rgI (0) (1) z0_39 → lv_has ls 4 [(0, .ref h0), (1, .ref b0), (3, .int y3_4)] → HT g Ty G H → va_S (AF Ty s.heap.size) s.heap H locs → Wm p l e (wsG yX2_read cX2_read 4 (some .int)) ({ frames := 2, cells := 0, slots := 0, locals := 46 }) s m [.ref h0, .ref b0] below meth c H locs (0) (0) (QwI g Ty s.heap.size (fun r u => u = (Ty, G))) 0 0 (AF Ty s.heap.size) (F0 m 39 ls [.int z0_39, .int z1_39, .int y2_4, .ref h0]) := by
        intro H locs z0_39 z1_39 ls ry3_39 rz0_39 hl hH hS
        obtain ⟨_, ⟨q_11, q_12, q_13, q_14, q_15, rfl, kq_11, kq_12, kq_13⟩, o_c_10⟩ := hH h0 _ k_h0
        refine va_calli (va_runV (As := [.int y2_4, .int z1_39, .int z0_39]) (rest := []) ⟨hx, hb, hml, hown, hts⟩ (c_X2_dueBehind l g Ty G H.size h0 y2_4 z1_39 z0_39 k_h0) (cwV 3 hts (gwV mw_866 mw_868 mw_19 mw_84 mw_869) rfl rfl rfl hv_X2_dueBehind ⟨Nat.le_of_ble_eq_true rfl, Nat.le_of_ble_eq_true rfl⟩) ⟨PcT_blind, hg_recv hK o_c_10 rfl, PcT_pre hK hH⟩ rfl rfl hl.1 rfl (lv_room (Nat.le_of_ble_eq_true rfl)) dX2_read_39 ⟨Nat.zero_le _, Nat.zero_le _⟩) hS (fun q _ h => AF.mono hS.1 h) (fun q h => AF.mono hS.1 h) (fun x_16 ux_16 t H locs ht hvm hx_16 hB hz hk hS => ?_)
        have hH : HT g Ty G H := by rw [← ht]; rw [hx_16] at hB; exact hB
        refine lv_istore_n (lv' := [(2, .int x_16), (0, .ref h0), (1, .ref b0), (3, .int y3_4)]) hx hb dX2_read_42 rfl hl (by decide) rfl (fun ls hl => ?_)
        refine lv_iload_n hx hb dX2_read_43 rfl (lv_at hl 0 rfl) ?_
        refine lv_iconst (v := 5) hx hb dX2_read_44 (by decide) ?_
        refine lv_icmp_ne (tgt := 50) hx hb dX2_read_45 (by decide) (fun c_17 => ?_) (fun c_17 => ?_)
        · obtain ⟨x_18, ex_18⟩ : ∃ y : Int32, y = y3_4 + 1 := ⟨_, rfl⟩
          have rx_18 : rgI (1) (72) x_18 := by rw [ex_18]; exact rg_w (rg_add ry3_39 rl_1 (by decide) (by decide)) (by decide) (by decide)
          have qx_18 : x_18.toInt = (y3_4 : Int32).toInt + 1 := by rw [ex_18]; exact rg_addE ry3_39 rl_1 (by decide) (by decide)
          refine lv_iinc (v := x_18) (lv' := [(3, .int x_18), (2, .int x_16), (0, .ref h0), (1, .ref b0)]) hx hb dX2_read_50 hl (k := 3) rfl (by rw [ex_18]; rfl) (by decide) rfl (fun ls hl => ?_)
          refine lv_goto (tgt := 4) hx hb dX2_read_53 (by decide) ?_
          exact ih_4 H locs x_16 x_18 ls (rg_w rx_18 (by decide) (by decide)) (by have h1 := qx_18; have h2 := ry3_39.1; have h3 := ry3_39.2; have h4 := hm_4; omega) (lv_sub hl [2, 3, 1, 0] rfl) hH hS
        · have r_19 : rgI (5) (5) x_16 := rg_w (rg_eq rl_5 c_17) (by decide) (by decide)
          refine lv_iload_n hx hb dX2_read_48 rfl (lv_at hl 3 rfl) ?_
          exact W.iret hx hb hr (fun t ht hWm => ⟨⟨y3_4, (Ty, G), rfl, rfl, by show HT g Ty G t.heap; rw [ht]; exact hH⟩, hS.F ht⟩) hS.2.2 dX2_read_49
      refine lv_iload_n hx hb dX2_read_4 rfl (lv_at hl 3 rfl) ?_
      refine lv_aload_n hx hb dX2_read_5 rfl (lv_at hl 1 rfl) ?_
      obtain ⟨_, ⟨q_21, rfl, kq_21, rq_22, t_23⟩, o_c_20⟩ := hH b0 _ k_b0
      refine hg_getN hx hb hG igX9 hown hK o_c_20 rfl 1 (by decide) ((hK.2.1 _ nwf_173).use rfl) rfl dX2_read_6 ?_
      refine lv_icmp_ge (tgt := 56) hx hb dX2_read_9 (by decide) (fun c_24 => ?_) (fun c_24 => ?_)
      · have r_25 : rgI (0) (72) (G.1 0) := rg_w (rg_leL rq_22 ry3_4 c_24) (by decide) (by decide)
        exact L_56 H locs y2_4 ls (lv_sub hl [1, 2] rfl) hH hS
      · have r_26 : rgI (1) (80) (G.1 0) := rg_w (rg_ltR ry3_4 rq_22 (nle_lt c_24)) (by decide) (by decide)
        refine lv_iload_n hx hb dX2_read_12 rfl (lv_at hl 3 rfl) ?_
        refine lv_bipush (v := 72) hx hb dX2_read_13 (by decide) ?_
        refine lv_icmp_ge (tgt := 56) hx hb dX2_read_15 (by decide) (fun c_27 => ?_) (fun c_27 => ?_)
        · have r_28 : rgI (72) (72) y3_4 := rg_w (rg_leR rl_72 ry3_4 c_27) (by decide) (by decide)
          exact L_56 H locs y2_4 ls (lv_sub hl [1, 2] rfl) hH hS
        · have r_29 : rgI (0) (71) y3_4 := rg_w (rg_ltL ry3_4 rl_72 (nle_lt c_27)) (by decide) (by decide)
          refine lv_aload_n hx hb dX2_read_18 rfl (lv_at hl 0 rfl) ?_
          refine lv_iload_n hx hb dX2_read_19 rfl (lv_at hl 2 rfl) ?_
          refine lv_aload_n hx hb dX2_read_20 rfl (lv_at hl 1 rfl) ?_
          refine lv_iload_n hx hb dX2_read_21 rfl (lv_at hl 3 rfl) ?_
          refine vp_callSi (W.runV (As := [.int y3_4]) (rest := [.int y2_4, .ref h0]) ⟨hx, hb, hml, hown, hts⟩ (c_X9_signAt l g Ty G b0 y3_4 k_b0) (cwV 1 hts (gwV mw_864 mw_428 mw_429 mw_79 mw_430) rfl rfl rfl hv_X9_signAt ⟨Nat.le_of_ble_eq_true rfl, Nat.le_of_ble_eq_true rfl⟩) ⟨PcH_blind, hg_recv hK o_c_20 rfl, PcH_pre hK hH⟩ rfl rfl hl.1 rfl (lv_room (Nat.le_of_ble_eq_true rfl)) dX2_read_22 ⟨Nat.zero_le _, Nat.zero_le _⟩) (fun x_30 hx_30 => ?_)
          refine lv_aload_n hx hb dX2_read_25 rfl (lv_at hl 1 rfl) ?_
          refine lv_iload_n hx hb dX2_read_26 rfl (lv_at hl 3 rfl) ?_
          refine vp_callSi (W.runV (As := [.int y3_4]) (rest := [.int x_30, .int y2_4, .ref h0]) ⟨hx, hb, hml, hown, hts⟩ (c_X9_dirAt l g Ty G b0 y3_4 k_b0) (cwV 1 hts (gwV mw_865 mw_574 mw_575 mw_79 mw_576) rfl rfl rfl hv_X9_dirAt ⟨Nat.le_of_ble_eq_true rfl, Nat.le_of_ble_eq_true rfl⟩) ⟨PcH_blind, hg_recv hK o_c_20 rfl, PcH_pre hK hH⟩ rfl rfl hl.1 rfl (lv_room (Nat.le_of_ble_eq_true rfl)) dX2_read_27 ⟨Nat.zero_le _, Nat.zero_le _⟩) (fun x_31 hx_31 => ?_)
          have rx_31 : rgI (-1) (3) x_31 := hx_31
          refine lv_iconst (v := (-1)) hx hb dX2_read_30 (by decide) ?_
          refine lv_icmp_eq (tgt := 38) hx hb dX2_read_31 (by decide) (fun c_32 => ?_) (fun c_32 => ?_)
          · have r_33 : rgI (-1) (-1) x_31 := rg_w (rg_eq rl_m1 c_32) (by decide) (by decide)
            refine lv_iconst (v := 0) hx hb dX2_read_38 (by decide) ?_
            exact L_39 H locs 0 x_30 ls r_29 (rg_w rl_0 (by decide) (by decide)) (lv_sub hl [0, 1, 3] rfl) hH hS
          · have r_34 : rgI (0) (3) x_31 := rg_w (rg_neL rx_31 rl_m1 c_32) (by decide) (by decide)
            refine lv_iconst (v := 1) hx hb dX2_read_34 (by decide) ?_
            refine lv_goto (tgt := 39) hx hb dX2_read_35 (by decide) ?_
            exact L_39 H locs 1 x_30 ls r_29 (rg_w rl_1 (by decide) (by decide)) (lv_sub hl [0, 1, 3] rfl) hH hS
  refine lv_iconst (v := 0) hx hb dX2_read_0 (by decide) ?_
  refine lv_istore_n (lv' := [(2, .int 0), (0, .ref h0), (1, .ref b0)]) hx hb dX2_read_1 rfl hl (by decide) rfl (fun ls hl => ?_)
  refine lv_iconst (v := 0) hx hb dX2_read_2 (by decide) ?_
  refine lv_istore_n (lv' := [(3, .int 0), (2, .int 0), (0, .ref h0), (1, .ref b0)]) hx hb dX2_read_3 rfl hl (by decide) rfl (fun ls hl => ?_)
  exact L_4 _ s.heap [] 0 0 ls (rg_w rl_0 (by decide) (by decide)) (Nat.lt_succ_self _) (lv_sub hl [2, 3, 1, 0] rfl) hH hS

set_option maxHeartbeats 4000000 in
set_option maxRecDepth 100000 in
theorem c_X2_walks (l : Launch) (g : Gx) (Ty : TyM) (G : Gh) (sz : Nat) (h0 : Nat) (b0 : Nat) (k_h0 : Ty h0 = some (12, 0)) (k_b0 : Ty b0 = some (19, 0)) : Met l yX2_walks (wsG yX2_walks cX2_walks 3 (some .boolean)) ({ frames := 3, cells := 0, slots := 0, locals := 69 }) (PcT g Ty G sz [.ref h0, .ref b0]) (QwI g Ty sz (fun r u => (rgI (0) (1) r) ∧ u = (Ty, G))) 0 0 (AF Ty sz) := by
  refine Met.ofW (cc := cX2_walks) (maxL := 3) (ret := (some .boolean)) (by decide) rfl ?_
  intro p e s m args below meth c s₁ B hml hv
  obtain ⟨rfl, hsz, hK, hH⟩ := hv
  subst hsz
  have hx := B.exec
  have hb := B.bytes
  have hr := B.returns
  have hts := atoms_spec (ws := (wsG yX2_walks cX2_walks 3 (some .boolean))) B.pre
  have hG : ∀ w ∈ GW, w.before ([.ref h0, .ref b0] : List Value).toArray s = true := fun w h => hts w (List.mem_cons_of_mem _ h)
  have hown : s.vm.findClass RX2 = some m.cls := findClass_of_methodNamed B.named
  have hlocks := B.notSynchronized
  have hl := lv_entry [.ref h0, .ref b0] (n := 3) (Nat.le_of_ble_eq_true rfl)
  rw [lg_entry_eq]
  generalize (lg_sl [.ref h0, .ref b0] ++ List.replicate (3 - (lg_sl [.ref h0, .ref b0]).length) Slot.unset).toArray = ls at hl ⊢
  have hl : lv_has ls 3 [(0, .ref h0), (1, .ref b0)] := hl
  have hS : va_S (AF Ty s.heap.size) s.heap s.heap [] := va_S.rf
  refine lv_aload_n hx hb dX2_walks_0 rfl (lv_at hl 0 rfl) ?_
  obtain ⟨_, ⟨q_2, q_3, q_4, q_5, q_6, rfl, kq_2, kq_3, kq_4⟩, o_c_1⟩ := hH h0 _ k_h0
  refine hg_get hx hb hG igX2 hown hK o_c_1 rfl 2 (by decide) (hG _ mw_274) rfl dX2_walks_1 ?_
  refine lv_aload_n hx hb dX2_walks_4 rfl (lv_at hl 0 rfl) ?_
  refine hg_get hx hb hG igX2 hown hK o_c_1 rfl 0 (by decide) (hG _ mw_272) rfl dX2_walks_5 ?_
  refine lv_aload_n hx hb dX2_walks_8 rfl (lv_at hl 1 rfl) ?_
  refine lv_aload_n hx hb dX2_walks_9 rfl (lv_at hl 0 rfl) ?_
  refine hg_get hx hb hG igX2 hown hK o_c_1 rfl 4 (by decide) (hG _ mw_276) rfl dX2_walks_10 ?_
  obtain ⟨_, ⟨q_8, q_9, rfl⟩, o_c_7⟩ := hH q_4 _ kq_4
  refine va_calli (va_runV (As := [.ref q_2, .ref b0, .int q_6]) (rest := []) ⟨hx, hb, hml, hown, hts⟩ (c_X6_walk l g Ty G s.heap.size q_4 q_2 b0 q_6 kq_4 kq_2 k_b0) (cwV 3 hts (gwV mw_893 mw_570 mw_571 mw_83 mw_572) rfl rfl rfl hv_X6_walk ⟨Nat.le_of_ble_eq_true rfl, Nat.le_of_ble_eq_true rfl⟩) ⟨PcT_blind, hg_recv hK o_c_7 rfl, PcT_pre hK hH⟩ rfl rfl hl.1 rfl (lv_room (Nat.le_of_ble_eq_true rfl)) dX2_walks_13 ⟨Nat.zero_le _, Nat.zero_le _⟩) hS (fun q _ h => AF.mono hS.1 h) (fun q h => AF.mono hS.1 h) (fun x_10 ux_10 t H locs ht hvm hx_10 hB hz hk hS => ?_)
  have hH : HT g Ty G H := by rw [← ht]; rw [hx_10] at hB; exact hB
  refine lv_istore_n (lv' := [(2, .int x_10), (0, .ref h0), (1, .ref b0)]) hx hb dX2_walks_16 rfl hl (by decide) rfl (fun ls hl => ?_)
  refine lv_aload_n hx hb dX2_walks_17 rfl (lv_at hl 1 rfl) ?_
  refine lv_iload_n hx hb dX2_walks_18 rfl (lv_at hl 0 rfl) ?_
  refine lv_iconst (v := 1) hx hb dX2_walks_19 (by decide) ?_
  refine lv_iadd hx hb dX2_walks_20 ?_
  refine lv_topi (fun x_11 ex_11 => ?_)
  obtain ⟨_, ⟨q_13, q_14, q_15, q_16, q_17, rfl, kq_13, kq_14, kq_15⟩, o_c_12⟩ := hH h0 _ k_h0
  refine hg_put (ty := .int) hx hb hG igX2 tyX2 tyX2_ok nmX2 hown hK hS o_c_12 (AF.of k_h0) rfl 4 (by decide) (hG _ mw_276) rfl (by decide +kernel) rfl rfl (Nat.le_of_ble_eq_true rfl) dX2_walks_21 (fun H locs o_c_12 hz oq hS => ?_)
  have o_c_12 : va_at g.1 vwCl (h0, .inr (2, [.ref q_13, .ref q_14, .ref q_15, .int q_16, .int x_11])) H := o_c_12
  have hH : HT g Ty G H := hH.put k_h0 ⟨q_13, q_14, q_15, q_16, x_11, rfl, kq_13, kq_14, kq_15⟩ o_c_12 oq
  clear oq hz
  refine lv_aload_n hx hb dX2_walks_24 rfl (lv_at hl 2 rfl) ?_
  refine lv_iload_n hx hb dX2_walks_25 rfl (lv_at hl 0 rfl) ?_
  obtain ⟨_, ⟨q_19, rfl, kq_19, rq_20, t_21⟩, o_c_18⟩ := hH b0 _ k_b0
  refine vp_callSi (W.runV (As := [.int x_10]) (rest := []) ⟨hx, hb, hml, hown, hts⟩ (c_X9_dirAt l g Ty G b0 x_10 k_b0) (cwV 1 hts (gwV mw_865 mw_574 mw_575 mw_79 mw_576) rfl rfl rfl hv_X9_dirAt ⟨Nat.le_of_ble_eq_true rfl, Nat.le_of_ble_eq_true rfl⟩) ⟨PcH_blind, hg_recv hK o_c_18 rfl, PcH_pre hK hH⟩ rfl rfl hl.1 rfl (lv_room (Nat.le_of_ble_eq_true rfl)) dX2_walks_26 ⟨Nat.zero_le _, Nat.zero_le _⟩) (fun x_22 hx_22 => ?_)
  have rx_22 : rgI (-1) (3) x_22 := hx_22
  refine lv_iconst (v := (-1)) hx hb dX2_walks_29 (by decide) ?_
  refine lv_icmp_ne (tgt := 37) hx hb dX2_walks_30 (by decide) (fun c_23 => ?_) (fun c_23 => ?_)
  · have r_24 : rgI (0) (3) x_22 := rg_w (rg_neL rx_22 rl_m1 c_23) (by decide) (by decide)
    refine lv_iconst (v := 0) hx hb dX2_walks_37 (by decide) ?_
    exact W.zret hx hb hr rfl (fun t ht hWm => ⟨⟨0, (Ty, G), rfl, ⟨rg_w rl_0 (by decide) (by decide), rfl⟩, by show HT g Ty G t.heap; rw [ht]; exact hH⟩, hS.F ht⟩) hS.2.2 dX2_walks_38
  · have r_25 : rgI (-1) (-1) x_22 := rg_w (rg_eq rl_m1 c_23) (by decide) (by decide)
    refine lv_iconst (v := 1) hx hb dX2_walks_33 (by decide) ?_
    refine lv_goto (tgt := 38) hx hb dX2_walks_34 (by decide) ?_
    exact W.zret hx hb hr rfl (fun t ht hWm => ⟨⟨1, (Ty, G), rfl, ⟨rg_w rl_1 (by decide) (by decide), rfl⟩, by show HT g Ty G t.heap; rw [ht]; exact hH⟩, hS.F ht⟩) hS.2.2 dX2_walks_38
