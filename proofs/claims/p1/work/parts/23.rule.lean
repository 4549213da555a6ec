set_option maxHeartbeats 4000000 in
set_option maxRecDepth 100000 in
theorem c_X8_isDigit (l : Launch) (g : Gx) (Ty : TyM) (G : Gh) (a0 : Int32) : Met l yX8_isDigit (wsG yX8_isDigit cX8_isDigit 1 (some .boolean)) ({ frames := 0, cells := 0, slots := 0, locals := 0 }) (PcH g Ty G [.int a0]) (vp_Si (fun r => rgI (0) (1) r)) 0 0 (fun _ => False) := by
  refine Met.ofW (cc := cX8_isDigit) (maxL := 1) (ret := (some .boolean)) (by decide) rfl ?_
  intro p e s m args below meth c s₁ B hml hv
  obtain ⟨rfl, hK, hH⟩ := hv
  have hx := B.exec
  have hb := B.bytes
  have hr := B.returns
  have hts := atoms_spec (ws := (wsG yX8_isDigit cX8_isDigit 1 (some .boolean))) B.pre
  have hG : ∀ w ∈ GW, w.before ([.int a0] : List Value).toArray s = true := fun w h => hts w (List.mem_cons_of_mem _ h)
  have hown : s.vm.findClass RX8 = some m.cls := findClass_of_methodNamed B.named
  have hlocks := B.notSynchronized
  have hl := lv_entry [.int a0] (n := 1) (Nat.le_of_ble_eq_true rfl)
  rw [lg_entry_eq]
  generalize (lg_sl [.int a0] ++ List.replicate (1 - (lg_sl [.int a0]).length) Slot.unset).toArray = ls at hl ⊢
  have hl : lv_has ls 1 [(0, .int a0)] := hl
  have L_16 : ∀ (ls : Array Slot), lv_has ls 1 [] → Wm p l e (wsG yX8_isDigit cX8_isDigit 1 (some .boolean)) ({ frames := 0, cells := 0, slots := 0, locals := 0 }) s m [.int a0] below meth c s.heap [] (0) (0) (vp_Si (fun r => rgI (0) (1) r)) 0 0 (fun _ => False) (F0 m 16 ls []) := by
    intro ls hl
    refine lv_iconst (v := 0) hx hb dX8_isDigit_16 (by decide) ?_
    exact W.zret hx hb hr rfl (fun t ht hW => ⟨0, rfl, rg_w rl_0 (by decide) (by decide), ht⟩) (fun q h => by cases h) dX8_isDigit_17
  refine lv_iload_n hx hb dX8_isDigit_0 rfl (lv_at hl 0 rfl) ?_
  refine lv_bipush (v := 48) hx hb dX8_isDigit_1 (by decide) ?_
  refine lv_icmp_lt (tgt := 16) hx hb dX8_isDigit_3 (by decide) (fun c_1 => ?_) (fun c_1 => ?_)
  · have r_2 : rgI (-2147483648) (47) a0 := rg_w (rg_ltL (rg_top a0) rl_48 c_1) (by decide) (by decide)
    exact L_16  ls (lv_sub hl [] rfl)
  · have r_3 : rgI (48) (2147483647) a0 := rg_w (rg_leR rl_48 (rg_top a0) (nlt_le c_1)) (by decide) (by decide)
    refine lv_iload_n hx hb dX8_isDigit_6 rfl (lv_at hl 0 rfl) ?_
    refine lv_bipush (v := 57) hx hb dX8_isDigit_7 (by decide) ?_
    refine lv_icmp_gt (tgt := 16) hx hb dX8_isDigit_9 (by decide) (fun c_4 => ?_) (fun c_4 => ?_)
    · have r_5 : rgI (58) (2147483647) a0 := rg_w (rg_ltR rl_57 r_3 c_4) (by decide) (by decide)
      exact L_16  ls (lv_sub hl [] rfl)
    · have r_6 : rgI (48) (57) a0 := rg_w (rg_leL r_3 rl_57 (nlt_le c_4)) (by decide) (by decide)
      refine lv_iconst (v := 1) hx hb dX8_isDigit_12 (by decide) ?_
      refine lv_goto (tgt := 17) hx hb dX8_isDigit_13 (by decide) ?_
      exact W.zret hx hb hr rfl (fun t ht hW => ⟨1, rfl, rg_w rl_1 (by decide) (by decide), ht⟩) (fun q h => by cases h) dX8_isDigit_17

set_option maxHeartbeats 4000000 in
set_option maxRecDepth 100000 in
theorem c_X8_rankOf (l : Launch) (g : Gx) (Ty : TyM) (G : Gh) (a0 : Int32) : Met l yX8_rankOf (wsG yX8_rankOf cX8_rankOf 1 (some .int)) ({ frames := 0, cells := 0, slots := 0, locals := 0 }) (PcH g Ty G [.int a0]) (vp_Si (fun r => True)) 0 0 (fun _ => False) := by
  refine Met.ofW (cc := cX8_rankOf) (maxL := 1) (ret := (some .int)) (by decide) rfl ?_
  intro p e s m args below meth c s₁ B hml hv
  obtain ⟨rfl, hK, hH⟩ := hv
  have hx := B.exec
  have hb := B.bytes
  have hr := B.returns
  have hts := atoms_spec (ws := (wsG yX8_rankOf cX8_rankOf 1 (some .int))) B.pre
  have hG : ∀ w ∈ GW, w.before ([.int a0] : List Value).toArray s = true := fun w h => hts w (List.mem_cons_of_mem _ h)
  have hown : s.vm.findClass RX8 = some m.cls := findClass_of_methodNamed B.named
  have hlocks := B.notSynchronized
  have hl := lv_entry [.int a0] (n := 1) (Nat.le_of_ble_eq_true rfl)
  rw [lg_entry_eq]
  generalize (lg_sl [.int a0] ++ List.replicate (1 - (lg_sl [.int a0]).length) Slot.unset).toArray = ls at hl ⊢
  have hl : lv_has ls 1 [(0, .int a0)] := hl
  refine lv_iload_n hx hb dX8_rankOf_0 rfl (lv_at hl 0 rfl) ?_
  by_cases c_1 : a0 = 42
  · refine lv_lookup (tgt := 80) (off := 79) hx hb dX8_rankOf_1 (by decide) (by rw [c_1]; rfl) (by decide) ?_
    have r_2 : rgI (42) (42) a0 := rg_w (rg_eq rl_42 c_1) (by decide) (by decide)
    refine lv_iconst (v := 3) hx hb dX8_rankOf_80 (by decide) ?_
    exact W.iret hx hb hr (fun t ht hW => ⟨3, rfl, trivial, ht⟩) (fun q h => by cases h) dX8_rankOf_81
  by_cases c_3 : a0 = 43
  · refine lv_lookup (tgt := 78) (off := 77) hx hb dX8_rankOf_1 (by decide) (by rw [c_3]; rfl) (by decide) ?_
    have r_4 : rgI (43) (43) a0 := rg_w (rg_eq rl_43 c_3) (by decide) (by decide)
    refine lv_iconst (v := 2) hx hb dX8_rankOf_78 (by decide) ?_
    exact W.iret hx hb hr (fun t ht hW => ⟨2, rfl, trivial, ht⟩) (fun q h => by cases h) dX8_rankOf_79
  by_cases c_5 : a0 = 45
  · refine lv_lookup (tgt := 78) (off := 77) hx hb dX8_rankOf_1 (by decide) (by rw [c_5]; rfl) (by decide) ?_
    have r_6 : rgI (45) (45) a0 := rg_w (rg_eq rl_45 c_5) (by decide) (by decide)
    refine lv_iconst (v := 2) hx hb dX8_rankOf_78 (by decide) ?_
    exact W.iret hx hb hr (fun t ht hW => ⟨2, rfl, trivial, ht⟩) (fun q h => by cases h) dX8_rankOf_79
  by_cases c_7 : a0 = 47
  · refine lv_lookup (tgt := 80) (off := 79) hx hb dX8_rankOf_1 (by decide) (by rw [c_7]; rfl) (by decide) ?_
    have r_8 : rgI (47) (47) a0 := rg_w (rg_eq rl_47 c_7) (by decide) (by decide)
    refine lv_iconst (v := 3) hx hb dX8_rankOf_80 (by decide) ?_
    exact W.iret hx hb hr (fun t ht hW => ⟨3, rfl, trivial, ht⟩) (fun q h => by cases h) dX8_rankOf_81
  by_cases c_9 : a0 = 60
  · refine lv_lookup (tgt := 76) (off := 75) hx hb dX8_rankOf_1 (by decide) (by rw [c_9]; rfl) (by decide) ?_
    have r_10 : rgI (60) (60) a0 := rg_w (rg_eq rl_60 c_9) (by decide) (by decide)
    refine lv_iconst (v := 1) hx hb dX8_rankOf_76 (by decide) ?_
    exact W.iret hx hb hr (fun t ht hW => ⟨1, rfl, trivial, ht⟩) (fun q h => by cases h) dX8_rankOf_77
  by_cases c_11 : a0 = 61
  · refine lv_lookup (tgt := 76) (off := 75) hx hb dX8_rankOf_1 (by decide) (by rw [c_11]; rfl) (by decide) ?_
    have r_12 : rgI (61) (61) a0 := rg_w (rg_eq rl_61 c_11) (by decide) (by decide)
    refine lv_iconst (v := 1) hx hb dX8_rankOf_76 (by decide) ?_
    exact W.iret hx hb hr (fun t ht hW => ⟨1, rfl, trivial, ht⟩) (fun q h => by cases h) dX8_rankOf_77
  by_cases c_13 : a0 = 62
  · refine lv_lookup (tgt := 76) (off := 75) hx hb dX8_rankOf_1 (by decide) (by rw [c_13]; rfl) (by decide) ?_
    have r_14 : rgI (62) (62) a0 := rg_w (rg_eq rl_62 c_13) (by decide) (by decide)
    refine lv_iconst (v := 1) hx hb dX8_rankOf_76 (by decide) ?_
    exact W.iret hx hb hr (fun t ht hW => ⟨1, rfl, trivial, ht⟩) (fun q h => by cases h) dX8_rankOf_77
  by_cases c_15 : a0 = 256
  · refine lv_lookup (tgt := 82) (off := 81) hx hb dX8_rankOf_1 (by decide) (by rw [c_15]; rfl) (by decide) ?_
    have r_16 : rgI (256) (256) a0 := rg_w (rg_eq rl_256 c_15) (by decide) (by decide)
    refine lv_iconst (v := 4) hx hb dX8_rankOf_82 (by decide) ?_
    exact W.iret hx hb hr (fun t ht hW => ⟨4, rfl, trivial, ht⟩) (fun q h => by cases h) dX8_rankOf_83
  refine lv_lookup (tgt := 84) (off := 83) hx hb dX8_rankOf_1 (by decide) ((lv_osw c_1 rfl).trans ((lv_osw c_3 rfl).trans ((lv_osw c_5 rfl).trans ((lv_osw c_7 rfl).trans ((lv_osw c_9 rfl).trans ((lv_osw c_11 rfl).trans ((lv_osw c_13 rfl).trans ((lv_osw c_15 rfl).trans (rfl))))))))) (by decide) ?_
  refine lv_iconst (v := 0) hx hb dX8_rankOf_84 (by decide) ?_
  exact W.iret hx hb hr (fun t ht hW => ⟨0, rfl, trivial, ht⟩) (fun q h => by cases h) dX8_rankOf_85

set_option maxHeartbeats 4000000 in
set_option maxRecDepth 100000 in
theorem c_X8_joined (l : Launch) (g : Gx) (Ty : TyM) (G : Gh) (a0 : Int32) (a1 : Int32) (a2 : Int32) : Met l yX8_joined (wsG yX8_joined cX8_joined 3 (some .int)) ({ frames := 0, cells := 0, slots := 0, locals := 0 }) (PcH g Ty G [.int a0, .int a1, .int a2]) (vp_Si (fun r => True)) 0 0 (fun _ => False) := by
  refine Met.ofW (cc := cX8_joined) (maxL := 3) (ret := (some .int)) (by decide) rfl ?_
  intro p e s m args below meth c s₁ B hml hv
  obtain ⟨rfl, hK, hH⟩ := hv
  have hx := B.exec
  have hb := B.bytes
  have hr := B.returns
  have hts := atoms_spec (ws := (wsG yX8_joined cX8_joined 3 (some .int))) B.pre
  have hG : ∀ w ∈ GW, w.before ([.int a0, .int a1, .int a2] : List Value).toArray s = true := fun w h => hts w (List.mem_cons_of_mem _ h)
  have hown : s.vm.findClass RX8 = some m.cls := findClass_of_methodNamed B.named
  have hlocks := B.notSynchronized
  have hl := lv_entry [.int a0, .int a1, .int a2] (n := 3) (Nat.le_of_ble_eq_true rfl)
  rw [lg_entry_eq]
  generalize (lg_sl [.int a0, .int a1, .int a2] ++ List.replicate (3 - (lg_sl [.int a0, .int a1, .int a2]).length) Slot.unset).toArray = ls at hl ⊢
  have hl : lv_has ls 3 [(0, .int a0), (1, .int a1), (2, .int a2)] := hl
  refine lv_iload_n hx hb dX8_joined_0 rfl (lv_at hl 0 rfl) ?_
  by_cases c_1 : a0 = 42
  · refine lv_lookup (tgt := 101) (off := 100) hx hb dX8_joined_1 (by decide) (by rw [c_1]; rfl) (by decide) ?_
    have r_2 : rgI (42) (42) a0 := rg_w (rg_eq rl_42 c_1) (by decide) (by decide)
    refine lv_iload_n hx hb dX8_joined_101 rfl (lv_at hl 1 rfl) ?_
    refine lv_iload_n hx hb dX8_joined_102 rfl (lv_at hl 2 rfl) ?_
    refine lv_imul hx hb dX8_joined_103 ?_
    refine lv_topi (fun x_3 ex_3 => ?_)
    exact W.iret hx hb hr (fun t ht hW => ⟨x_3, rfl, trivial, ht⟩) (fun q h => by cases h) dX8_joined_104
  by_cases c_4 : a0 = 43
  · refine lv_lookup (tgt := 93) (off := 92) hx hb dX8_joined_1 (by decide) (by rw [c_4]; rfl) (by decide) ?_
    have r_5 : rgI (43) (43) a0 := rg_w (rg_eq rl_43 c_4) (by decide) (by decide)
    refine lv_iload_n hx hb dX8_joined_93 rfl (lv_at hl 1 rfl) ?_
    refine lv_iload_n hx hb dX8_joined_94 rfl (lv_at hl 2 rfl) ?_
    refine lv_iadd hx hb dX8_joined_95 ?_
    refine lv_topi (fun x_6 ex_6 => ?_)
    exact W.iret hx hb hr (fun t ht hW => ⟨x_6, rfl, trivial, ht⟩) (fun q h => by cases h) dX8_joined_96
  by_cases c_7 : a0 = 45
  · refine lv_lookup (tgt := 97) (off := 96) hx hb dX8_joined_1 (by decide) (by rw [c_7]; rfl) (by decide) ?_
    have r_8 : rgI (45) (45) a0 := rg_w (rg_eq rl_45 c_7) (by decide) (by decide)
    refine lv_iload_n hx hb dX8_joined_97 rfl (lv_at hl 1 rfl) ?_
    refine lv_iload_n hx hb dX8_joined_98 rfl (lv_at hl 2 rfl) ?_
    refine lv_isub hx hb dX8_joined_99 ?_
    refine lv_topi (fun x_9 ex_9 => ?_)
    exact W.iret hx hb hr (fun t ht hW => ⟨x_9, rfl, trivial, ht⟩) (fun q h => by cases h) dX8_joined_100
  by_cases c_10 : a0 = 60
  · refine lv_lookup (tgt := 60) (off := 59) hx hb dX8_joined_1 (by decide) (by rw [c_10]; rfl) (by decide) ?_
    have r_11 : rgI (60) (60) a0 := rg_w (rg_eq rl_60 c_10) (by decide) (by decide)
    refine lv_iload_n hx hb dX8_joined_60 rfl (lv_at hl 1 rfl) ?_
    refine lv_iload_n hx hb dX8_joined_61 rfl (lv_at hl 2 rfl) ?_
    refine lv_icmp_ge (tgt := 69) hx hb dX8_joined_62 (by decide) (fun c_12 => ?_) (fun c_12 => ?_)
    · refine lv_iconst (v := 0) hx hb dX8_joined_69 (by decide) ?_
      exact W.iret hx hb hr (fun t ht hW => ⟨0, rfl, trivial, ht⟩) (fun q h => by cases h) dX8_joined_70
    · have r_13 : rgI (-2147483648) (2147483646) a1 := rg_w (rg_ltL (rg_top a1) (rg_top a2) (nle_lt c_12)) (by decide) (by decide)
      have r_14 : rgI (-2147483647) (2147483647) a2 := rg_w (rg_ltR (rg_top a1) (rg_top a2) (nle_lt c_12)) (by decide) (by decide)
      refine lv_iconst (v := 1) hx hb dX8_joined_65 (by decide) ?_
      refine lv_goto (tgt := 70) hx hb dX8_joined_66 (by decide) ?_
      exact W.iret hx hb hr (fun t ht hW => ⟨1, rfl, trivial, ht⟩) (fun q h => by cases h) dX8_joined_70
  by_cases c_15 : a0 = 61
  · refine lv_lookup (tgt := 82) (off := 81) hx hb dX8_joined_1 (by decide) (by rw [c_15]; rfl) (by decide) ?_
    have r_16 : rgI (61) (61) a0 := rg_w (rg_eq rl_61 c_15) (by decide) (by decide)
    refine lv_iload_n hx hb dX8_joined_82 rfl (lv_at hl 1 rfl) ?_
    refine lv_iload_n hx hb dX8_joined_83 rfl (lv_at hl 2 rfl) ?_
    refine lv_icmp_ne (tgt := 91) hx hb dX8_joined_84 (by decide) (fun c_17 => ?_) (fun c_17 => ?_)
    · refine lv_iconst (v := 0) hx hb dX8_joined_91 (by decide) ?_
      exact W.iret hx hb hr (fun t ht hW => ⟨0, rfl, trivial, ht⟩) (fun q h => by cases h) dX8_joined_92
    · refine lv_iconst (v := 1) hx hb dX8_joined_87 (by decide) ?_
      refine lv_goto (tgt := 92) hx hb dX8_joined_88 (by decide) ?_
      exact W.iret hx hb hr (fun t ht hW => ⟨1, rfl, trivial, ht⟩) (fun q h => by cases h) dX8_joined_92
  by_cases c_18 : a0 = 62
  · refine lv_lookup (tgt := 71) (off := 70) hx hb dX8_joined_1 (by decide) (by rw [c_18]; rfl) (by decide) ?_
    have r_19 : rgI (62) (62) a0 := rg_w (rg_eq rl_62 c_18) (by decide) (by decide)
    refine lv_iload_n hx hb dX8_joined_71 rfl (lv_at hl 1 rfl) ?_
    refine lv_iload_n hx hb dX8_joined_72 rfl (lv_at hl 2 rfl) ?_
    refine lv_icmp_le (tgt := 80) hx hb dX8_joined_73 (by decide) (fun c_20 => ?_) (fun c_20 => ?_)
    · refine lv_iconst (v := 0) hx hb dX8_joined_80 (by decide) ?_
      exact W.iret hx hb hr (fun t ht hW => ⟨0, rfl, trivial, ht⟩) (fun q h => by cases h) dX8_joined_81
    · have r_21 : rgI (-2147483648) (2147483646) a2 := rg_w (rg_ltL (rg_top a2) (rg_top a1) (nle_lt c_20)) (by decide) (by decide)
      have r_22 : rgI (-2147483647) (2147483647) a1 := rg_w (rg_ltR (rg_top a2) (rg_top a1) (nle_lt c_20)) (by decide) (by decide)
      refine lv_iconst (v := 1) hx hb dX8_joined_76 (by decide) ?_
      refine lv_goto (tgt := 81) hx hb dX8_joined_77 (by decide) ?_
      exact W.iret hx hb hr (fun t ht hW => ⟨1, rfl, trivial, ht⟩) (fun q h => by cases h) dX8_joined_81
  refine lv_lookup (tgt := 105) (off := 104) hx hb dX8_joined_1 (by decide) ((lv_osw c_1 rfl).trans ((lv_osw c_4 rfl).trans ((lv_osw c_7 rfl).trans ((lv_osw c_10 rfl).trans ((lv_osw c_15 rfl).trans ((lv_osw c_18 rfl).trans (rfl))))))) (by decide) ?_
  refine lv_iload_n hx hb dX8_joined_105 rfl (lv_at hl 2 rfl) ?_
  refine lv_if_ne (tgt := 113) hx hb dX8_joined_106 (by decide) (fun c_23 => ?_) (fun c_23 => ?_)
  · refine lv_iload_n hx hb dX8_joined_113 rfl (lv_at hl 1 rfl) ?_
    refine lv_iload_n hx hb dX8_joined_114 rfl (lv_at hl 2 rfl) ?_
    refine lv_idiv hx hb dX8_joined_115 c_23 ?_
    refine lv_topi (fun x_24 ex_24 => ?_)
    exact W.iret hx hb hr (fun t ht hW => ⟨x_24, rfl, trivial, ht⟩) (fun q h => by cases h) dX8_joined_116
  · have r_25 : rgI (0) (0) a2 := rg_w (rg_eq rl_0 c_23) (by decide) (by decide)
    refine lv_iconst (v := 0) hx hb dX8_joined_109 (by decide) ?_
    refine lv_goto (tgt := 116) hx hb dX8_joined_110 (by decide) ?_
    exact W.iret hx hb hr (fun t ht hW => ⟨0, rfl, trivial, ht⟩) (fun q h => by cases h) dX8_joined_116

set_option maxHeartbeats 4000000 in
set_option maxRecDepth 100000 in
theorem c_X8_thing_o (l : Launch) (g : Gx) (Ty : TyM) (G : Gh) (h0 : Nat) (a0 : Int32) (k_h0 : Ty h0 = some (23, 0)) : Met l yX8_thing (wsG yX8_thing cX8_thing 3 (some .int)) ({ frames := 0, cells := 0, slots := 0, locals := 0 }) (PcH g Ty G [.ref h0, .int a0]) (vp_Si (fun r => True)) 0 0 (fun _ => False) := by
  refine Met.ofW (cc := cX8_thing) (maxL := 3) (ret := (some .int)) (by decide) rfl ?_
  intro p e s m args below meth c s₁ B hml hv
  obtain ⟨rfl, hK, hH⟩ := hv
  have hx := B.exec
  have hb := B.bytes
  have hr := B.returns
  have hts := atoms_spec (ws := (wsG yX8_thing cX8_thing 3 (some .int))) B.pre
  have hG : ∀ w ∈ GW, w.before ([.ref h0, .int a0] : List Value).toArray s = true := fun w h => hts w (List.mem_cons_of_mem _ h)
  have hown : s.vm.findClass RX8 = some m.cls := findClass_of_methodNamed B.named
  have hlocks := B.notSynchronized
  have hl := lv_entry [.ref h0, .int a0] (n := 3) (Nat.le_of_ble_eq_true rfl)
  rw [lg_entry_eq]
  generalize (lg_sl [.ref h0, .int a0] ++ List.replicate (3 - (lg_sl [.ref h0, .int a0]).length) Slot.unset).toArray = ls at hl ⊢
  have hl : lv_has ls 3 [(0, .ref h0), (1, .int a0)] := hl
  have L_16 : ∀ (ls : Array Slot), lv_has ls 3 [(1, .int a0)] → Wm p l e (wsG yX8_thing cX8_thing 3 (some .int)) ({ frames := 0, cells := 0, slots := 0, locals := 0 }) s m [.ref h0, .int a0] below meth c s.heap [] (0) (0) (vp_Si (fun r => True)) 0 0 (fun _ => False) (F0 m 16 ls []) := by
    intro ls hl
    refine lv_iload_n hx hb dX8_thing_16 rfl (lv_at hl 0 rfl) ?_
    refine lv_goto (tgt := 26) hx hb dX8_thing_17 (by decide) ?_
    exact W.iret hx hb hr (fun t ht hW => ⟨a0, rfl, trivial, ht⟩) (fun q h => by cases h) dX8_thing_26
  refine lv_iload_n hx hb dX8_thing_0 rfl (lv_at hl 1 rfl) ?_
  refine lv_sipush (v := 1000) hx hb dX8_thing_1 (by decide) ?_
  refine lv_isub hx hb dX8_thing_4 ?_
  refine lv_topi (fun x_1 ex_1 => ?_)
  refine lv_istore_n (lv' := [(2, .int x_1), (0, .ref h0), (1, .int a0)]) hx hb dX8_thing_5 rfl hl (by decide) rfl (fun ls hl => ?_)
  refine lv_iload_n hx hb dX8_thing_6 rfl (lv_at hl 0 rfl) ?_
  refine lv_if_lt (tgt := 16) hx hb dX8_thing_7 (by decide) (fun c_2 => ?_) (fun c_2 => ?_)
  · have r_3 : rgI (-2147483648) (-1) x_1 := rg_w (rg_ltL (rg_top x_1) rl_0 c_2) (by decide) (by decide)
    exact L_16  ls (lv_sub hl [2] rfl)
  · have r_4 : rgI (0) (2147483647) x_1 := rg_w (rg_leR rl_0 (rg_top x_1) (nlt_le c_2)) (by decide) (by decide)
    refine lv_iload_n hx hb dX8_thing_10 rfl (lv_at hl 0 rfl) ?_
    refine lv_bipush (v := 7) hx hb dX8_thing_11 (by decide) ?_
    refine lv_icmp_lt (tgt := 20) hx hb dX8_thing_13 (by decide) (fun c_5 => ?_) (fun c_5 => ?_)
    · have r_6 : rgI (0) (6) x_1 := rg_w (rg_ltL r_4 rl_7 c_5) (by decide) (by decide)
      refine lv_aload_n hx hb dX8_thing_20 rfl (lv_at hl 1 rfl) ?_
      obtain ⟨_, ⟨q_8, q_9, q_12, q_13, q_15, q_16, q_17, rfl, kq_8, kq_10, kq_16, kq_17, rq_9, rq_12, t_18⟩, o_c_7⟩ := hH h0 _ k_h0
      refine hg_get hx hb hG igX8 hown hK o_c_7 rfl 8 (by decide) (hG _ mw_210) rfl dX8_thing_21 ?_
      refine lv_iload_n hx hb dX8_thing_24 rfl (lv_at hl 0 rfl) ?_
      obtain ⟨_, ⟨f_20, rfl⟩, o_c_19⟩ := hH q_16 _ kq_16
      refine hg_iald hx hb hK o_c_19 (rg_in (n := 7) r_6 (by decide) (by decide)) dX8_thing_25 ?_
      refine lv_topi (fun x_21 ex_21 => ?_)
      exact W.iret hx hb hr (fun t ht hW => ⟨x_21, rfl, trivial, ht⟩) (fun q h => by cases h) dX8_thing_26
    · have r_22 : rgI (7) (2147483647) x_1 := rg_w (rg_leR rl_7 r_4 (nlt_le c_5)) (by decide) (by decide)
      exact L_16  ls (lv_sub hl [2] rfl)

set_option maxHeartbeats 4000000 in
set_option maxRecDepth 100000 in
theorem c_X8_value_o (l : Launch) (g : Gx) (Ty : TyM) (G : Gh) (sz : Nat) (h0 : Nat) (k_h0 : Ty h0 = some (23, 0)) : Met l yX8_value (wsG yX8_value cX8_value 4 (some .int)) ({ frames := 1, cells := 0, slots := 0, locals := 22 }) (PcT g Ty G sz [.ref h0]) (QwI g Ty sz (fun r u => u = (Ty, G))) 0 0 (AF Ty sz) := by
  refine Met.ofW (cc := cX8_value) (maxL := 4) (ret := (some .int)) (by decide) rfl ?_
  intro p e s m args below meth c s₁ B hml hv
  obtain ⟨rfl, hsz, hK, hH⟩ := hv
  subst hsz
  have hx := B.exec
  have hb := B.bytes
  have hr := B.returns
  have hts := atoms_spec (ws := (wsG yX8_value cX8_value 4 (some .int))) B.pre
  have hG : ∀ w ∈ GW, w.before ([.ref h0] : List Value).toArray s = true := fun w h => hts w (List.mem_cons_of_mem _ h)
  have hown : s.vm.findClass RX8 = some m.cls := findClass_of_methodNamed B.named
  have hlocks := B.notSynchronized
  have hl := lv_entry [.ref h0] (n := 4) (Nat.le_of_ble_eq_true rfl)
  rw [lg_entry_eq]
  generalize (lg_sl [.ref h0] ++ List.replicate (4 - (lg_sl [.ref h0]).length) Slot.unset).toArray = ls at hl ⊢
  have hl : lv_has ls 4 [(0, .ref h0)] := hl
  have hS : va_S (AF Ty s.heap.size) s.heap s.heap [] := va_S.rf
  have L_137 : ∀ (H : Heap) (locs : List Loc) (ls : Array Slot), lv_has ls 4 [(0, .ref h0)] → HT g Ty G H → va_S (AF Ty s.heap.size) s.heap H locs → Wm p l e (wsG yX8_value cX8_value 4 (some .int)) ({ frames := 1, cells := 0, slots := 0, locals := 22 }) s m [.ref h0] below meth c H locs (0) (0) (QwI g Ty s.heap.size (fun r u => u = (Ty, G))) 0 0 (AF Ty s.heap.size) (F0 m 137 ls []) := by
    intro H locs ls hl hH hS
    refine lv_aload_n hx hb dX8_value_137 rfl (lv_at hl 0 rfl) ?_
    obtain ⟨_, ⟨q_2, q_3, q_6, q_7, q_9, q_10, q_11, rfl, kq_2, kq_4, kq_10, kq_11, rq_3, rq_6, t_12⟩, o_c_1⟩ := hH h0 _ k_h0
    refine hg_get hx hb hG igX8 hown hK o_c_1 rfl 9 (by decide) (hG _ mw_211) rfl dX8_value_138 ?_
    refine lv_iconst (v := 0) hx hb dX8_value_141 (by decide) ?_
    obtain ⟨_, ⟨f_14, rfl⟩, o_c_13⟩ := hH q_11 _ kq_11
    refine hg_iald hx hb hK o_c_13 (rg_in (n := 40) rl_0 (by decide) (by decide)) dX8_value_142 ?_
    refine lv_topi (fun x_15 ex_15 => ?_)
    exact W.iret hx hb hr (fun t ht hWm => ⟨⟨x_15, (Ty, G), rfl, rfl, by show HT g Ty G t.heap; rw [ht]; exact hH⟩, hS.F ht⟩) hS.2.2 dX8_value_143
  have L_4 : ∀ (n : Nat) (H : Heap) (locs : List Loc) (y1_4 : Int32) (y2_4 : Int32) (ls : Array Slot), rgI (0) (40) y1_4 → rgI (0) (40) y2_4 → (40 - (y2_4).toInt).toNat < n → lv_has ls 4 [(0, .ref h0), (1, .int y1_4), (2, .int y2_4)] → HT g Ty G H → va_S (AF Ty s.heap.size) s.heap H locs → Wm p l e (wsG yX8_value cX8_value 4 (some .int)) ({ frames := 1, cells := 0, slots := 0, locals := 22 }) s m [.ref h0] below meth c H locs (0) (0) (QwI g Ty s.heap.size (fun r u => u = (Ty, G))) 0 0 (AF Ty s.heap.size) (F0 m 4 ls []) := by
    intro n
    induction n with
    | zero => intro H locs y1_4 y2_4 ls ry1_4 ry2_4 hm; exact absurd hm (Nat.not_lt_zero _)
    | succ n ih_4 =>
      intro H locs y1_4 y2_4 ls ry1_4 ry2_4 hm_4 hl hH hS
      have L_131 : ∀ (H : Heap) (locs : List Loc) (y1_131 : Int32) (ls : Array Slot), rgI (0) (40) y1_131 → rgI (0) (39) y2_4 → lv_has ls 4 [(0, .ref h0), (1, .int y1_131), (2, .int y2_4)] → HT g Ty G H → va_S (AF Ty s.heap.size) s.heap H locs → Wm p l e (wsG yX8_value cX8_value 4 (some .int)) ({ frames := 1, cells := 0, slots := 0, locals := 22 }) s m [.ref h0] below meth c H locs (0) (0) (QwI g Ty s.heap.size (fun r u => u = (Ty, G))) 0 0 (AF Ty s.heap.size) (F0 m 131 ls []) := by
        intro H locs y1_131 ls ry1_131 ry2_131 hl hH hS
        obtain ⟨x_16, ex_16⟩ : ∃ y : Int32, y = y2_4 + 1 := ⟨_, rfl⟩
        have rx_16 : rgI (1) (40) x_16 := by rw [ex_16]; exact rg_w (rg_add ry2_131 rl_1 (by decide) (by decide)) (by decide) (by decide)
        have qx_16 : x_16.toInt = (y2_4 : Int32).toInt + 1 := by rw [ex_16]; exact rg_addE ry2_131 rl_1 (by decide) (by decide)
        refine lv_iinc (v := x_16) (lv' := [(2, .int x_16), (0, .ref h0), (1, .int y1_131)]) hx hb dX8_value_131 hl (k := 2) rfl (by rw [ex_16]; rfl) (by decide) rfl (fun ls hl => ?_)
        refine lv_goto (tgt := 4) hx hb dX8_value_134 (by decide) ?_
        exact ih_4 H locs y1_131 x_16 ls ry1_131 (rg_w rx_16 (by decide) (by decide)) (by have h1 := qx_16; have h2 := ry2_131.1; have h3 := ry2_131.2; have h4 := hm_4; omega) (lv_sub hl [1, 2, 0] rfl) hH hS
      have L_86 : ∀ (H : Heap) (locs : List Loc) (y3_86 : Int32) (ls : Array Slot), rgI (0) (40) y1_4 → rgI (0) (39) y2_4 → lv_has ls 4 [(0, .ref h0), (1, .int y1_4), (2, .int y2_4), (3, .int y3_86)] → HT g Ty G H → va_S (AF Ty s.heap.size) s.heap H locs → Wm p l e (wsG yX8_value cX8_value 4 (some .int)) ({ frames := 1, cells := 0, slots := 0, locals := 22 }) s m [.ref h0] below meth c H locs (0) (0) (QwI g Ty s.heap.size (fun r u => u = (Ty, G))) 0 0 (AF Ty s.heap.size) (F0 m 86 ls []) := by
        intro H locs y3_86 ls ry1_86 ry2_86 hl hH hS
        refine lv_iload_n hx hb dX8_value_86 rfl (lv_at hl 3 rfl) ?_
        refine lv_sipush (v := 2000) hx hb dX8_value_87 (by decide) ?_
        refine lv_icmp_lt (tgt := 131) hx hb dX8_value_90 (by decide) (fun c_17 => ?_) (fun c_17 => ?_)
        · have r_18 : rgI (-2147483648) (1999) y3_86 := rg_w (rg_ltL (rg_top y3_86) rl_2000 c_17) (by decide) (by decide)
          exact L_131 H locs y1_4 ls ry1_86 ry2_86 (lv_sub hl [0, 1, 2] rfl) hH hS
        · have r_19 : rgI (2000) (2147483647) y3_86 := rg_w (rg_leR rl_2000 (rg_top y3_86) (nlt_le c_17)) (by decide) (by decide)
          refine lv_iload_n hx hb dX8_value_93 rfl (lv_at hl 1 rfl) ?_
          refine lv_iconst (v := 1) hx hb dX8_value_94 (by decide) ?_
          refine lv_icmp_le (tgt := 131) hx hb dX8_value_95 (by decide) (fun c_20 => ?_) (fun c_20 => ?_)
          · have r_21 : rgI (0) (1) y1_4 := rg_w (rg_leL ry1_86 rl_1 c_20) (by decide) (by decide)
            exact L_131 H locs y1_4 ls (rg_w r_21 (by decide) (by decide)) ry2_86 (lv_sub hl [0, 1, 2] rfl) hH hS
          · have r_22 : rgI (2) (40) y1_4 := rg_w (rg_ltR rl_1 ry1_86 (nle_lt c_20)) (by decide) (by decide)
            obtain ⟨x_23, ex_23⟩ : ∃ y : Int32, y = y1_4 + (-1) := ⟨_, rfl⟩
            have rx_23 : rgI (1) (39) x_23 := by rw [ex_23]; exact rg_w (rg_add r_22 rl_m1 (by decide) (by decide)) (by decide) (by decide)
            have qx_23 : x_23.toInt = (y1_4 : Int32).toInt + (-1) := by rw [ex_23]; exact rg_addE r_22 rl_m1 (by decide) (by decide)
            refine lv_iinc (v := x_23) (lv' := [(1, .int x_23), (0, .ref h0), (2, .int y2_4), (3, .int y3_86)]) hx hb dX8_value_98 hl (k := 1) rfl (by rw [ex_23]; rfl) (by decide) rfl (fun ls hl => ?_)
            refine lv_aload_n hx hb dX8_value_101 rfl (lv_at hl 1 rfl) ?_
            obtain ⟨_, ⟨q_25, q_26, q_29, q_30, q_32, q_33, q_34, rfl, kq_25, kq_27, kq_33, kq_34, rq_26, rq_29, t_35⟩, o_c_24⟩ := hH h0 _ k_h0
            refine hg_get hx hb hG igX8 hown hK o_c_24 rfl 9 (by decide) (hG _ mw_211) rfl dX8_value_102 ?_
            refine lv_iload_n hx hb dX8_value_105 rfl (lv_at hl 0 rfl) ?_
            refine lv_iconst (v := 1) hx hb dX8_value_106 (by decide) ?_
            refine lv_isub hx hb dX8_value_107 ?_
            refine lv_topi (fun x_36 ex_36 => ?_)
            have rx_36 : rgI (0) (38) x_36 := by rw [ex_36]; exact rg_w (rg_sub rx_23 rl_1 (by decide) (by decide)) (by decide) (by decide)
            refine lv_iload_n hx hb dX8_value_108 rfl (lv_at hl 3 rfl) ?_
            refine lv_sipush (v := 2000) hx hb dX8_value_109 (by decide) ?_
            refine lv_isub hx hb dX8_value_112 ?_
            refine lv_topi (fun x_37 ex_37 => ?_)
            have rx_37 : rgI (0) (2147481647) x_37 := by rw [ex_37]; exact rg_w (rg_sub r_19 rl_2000 (by decide) (by decide)) (by decide) (by decide)
            refine lv_aload_n hx hb dX8_value_113 rfl (lv_at hl 1 rfl) ?_
            refine hg_get hx hb hG igX8 hown hK o_c_24 rfl 9 (by decide) (hG _ mw_211) rfl dX8_value_114 ?_
            refine lv_iload_n hx hb dX8_value_117 rfl (lv_at hl 0 rfl) ?_
            refine lv_iconst (v := 1) hx hb dX8_value_118 (by decide) ?_
            refine lv_isub hx hb dX8_value_119 ?_
            refine lv_topi (fun x_38 ex_38 => ?_)
            have rx_38 : rgI (0) (38) x_38 := by rw [ex_38]; exact rg_w (rg_sub rx_23 rl_1 (by decide) (by decide)) (by decide) (by decide)
            obtain ⟨_, ⟨f_40, rfl⟩, o_c_39⟩ := hH q_34 _ kq_34
            refine hg_iald hx hb hK o_c_39 (rg_in (n := 40) rx_38 (by decide) (by decide)) dX8_value_120 ?_
            refine lv_topi (fun x_41 ex_41 => ?_)
            refine lv_aload_n hx hb dX8_value_121 rfl (lv_at hl 1 rfl) ?_
            refine hg_get hx hb hG igX8 hown hK o_c_24 rfl 9 (by decide) (hG _ mw_211) rfl dX8_value_122 ?_
            refine lv_iload_n hx hb dX8_value_125 rfl (lv_at hl 0 rfl) ?_
            refine hg_iald hx hb hK o_c_39 (rg_in (n := 40) rx_23 (by decide) (by decide)) dX8_value_126 ?_
            refine lv_topi (fun x_42 ex_42 => ?_)
            refine vp_callSi (W.runS (As := [.int x_37, .int x_41, .int x_42]) (rest := [.int x_36, .ref q_34]) ⟨hx, hb, hml, hown, hts⟩ (c_X8_joined l g Ty G x_37 x_41 x_42 ) (cwSx 3 hts hG (gwC mw_707) mw_81 mw_705 mw_706 rfl rfl rfl hd_X8_joined ⟨Nat.le_of_ble_eq_true rfl, Nat.le_of_ble_eq_true rfl⟩) ⟨PcH_blind, PcH_pre hK hH⟩ rfl rfl hl.1 rfl (lv_room (Nat.le_of_ble_eq_true rfl)) dX8_value_127 ⟨Nat.zero_le _, Nat.zero_le _⟩) (fun x_43 hx_43 => ?_)
            refine hg_iast hx hb hK hS o_c_39 (AF.of kq_34) (rg_in (n := 40) rx_36 (by decide) (by decide)) dX8_value_130 (fun H locs o_c_39 hz oq hS => ?_)
            generalize hff_44 : upd f_40 _ x_43 = f_44 at o_c_39
            have hH : HT g Ty G H := hH.put kq_34 ⟨_, rfl⟩ o_c_39 oq
            have o_c_24 := o_c_24.kept (oq _ (ne_kd k_h0 kq_34 (by decide)))
            clear oq hz
            exact L_131 H locs x_23 ls (rg_w rx_23 (by decide) (by decide)) ry2_86 (lv_sub hl [1, 0, 2] rfl) hH hS
      have L_55 : ∀ (H : Heap) (locs : List Loc) (y3_55 : Int32) (ls : Array Slot), rgI (0) (40) y1_4 → rgI (0) (39) y2_4 → lv_has ls 4 [(0, .ref h0), (1, .int y1_4), (2, .int y2_4), (3, .int y3_55)] → HT g Ty G H → va_S (AF Ty s.heap.size) s.heap H locs → Wm p l e (wsG yX8_value cX8_value 4 (some .int)) ({ frames := 1, cells := 0, slots := 0, locals := 22 }) s m [.ref h0] below meth c H locs (0) (0) (QwI g Ty s.heap.size (fun r u => u = (Ty, G))) 0 0 (AF Ty s.heap.size) (F0 m 55 ls []) := by
        intro H locs y3_55 ls ry1_55 ry2_55 hl hH hS
        refine lv_iload_n hx hb dX8_value_55 rfl (lv_at hl 3 rfl) ?_
        refine lv_sipush (v := 2256) hx hb dX8_value_56 (by decide) ?_
        refine lv_icmp_ne (tgt := 86) hx hb dX8_value_59 (by decide) (fun c_45 => ?_) (fun c_45 => ?_)
        · exact L_86 H locs y3_55 ls ry1_55 ry2_55 (lv_sub hl [0, 1, 2, 3] rfl) hH hS
        · have r_46 : rgI (2256) (2256) y3_55 := rg_w (rg_eq rl_2256 c_45) (by decide) (by decide)
          refine lv_iload_n hx hb dX8_value_62 rfl (lv_at hl 1 rfl) ?_
          refine lv_if_le (tgt := 86) hx hb dX8_value_63 (by decide) (fun c_47 => ?_) (fun c_47 => ?_)
          · have r_48 : rgI (0) (0) y1_4 := rg_w (rg_leL ry1_55 rl_0 c_47) (by decide) (by decide)
            exact L_86 H locs y3_55 ls (rg_w r_48 (by decide) (by decide)) ry2_55 (lv_sub hl [0, 1, 2, 3] rfl) hH hS
          · have r_49 : rgI (1) (40) y1_4 := rg_w (rg_ltR rl_0 ry1_55 (nle_lt c_47)) (by decide) (by decide)
            refine lv_aload_n hx hb dX8_value_66 rfl (lv_at hl 0 rfl) ?_
            obtain ⟨_, ⟨q_51, q_52, q_55, q_56, q_58, q_59, q_60, rfl, kq_51, kq_53, kq_59, kq_60, rq_52, rq_55, t_61⟩, o_c_50⟩ := hH h0 _ k_h0
            refine hg_get hx hb hG igX8 hown hK o_c_50 rfl 9 (by decide) (hG _ mw_211) rfl dX8_value_67 ?_
            refine lv_iload_n hx hb dX8_value_70 rfl (lv_at hl 1 rfl) ?_
            refine lv_iconst (v := 1) hx hb dX8_value_71 (by decide) ?_
            refine lv_isub hx hb dX8_value_72 ?_
            refine lv_topi (fun x_62 ex_62 => ?_)
            have rx_62 : rgI (0) (39) x_62 := by rw [ex_62]; exact rg_w (rg_sub r_49 rl_1 (by decide) (by decide)) (by decide) (by decide)
            refine lv_aload_n hx hb dX8_value_73 rfl (lv_at hl 0 rfl) ?_
            refine hg_get hx hb hG igX8 hown hK o_c_50 rfl 9 (by decide) (hG _ mw_211) rfl dX8_value_74 ?_
            refine lv_iload_n hx hb dX8_value_77 rfl (lv_at hl 1 rfl) ?_
            refine lv_iconst (v := 1) hx hb dX8_value_78 (by decide) ?_
            refine lv_isub hx hb dX8_value_79 ?_
            refine lv_topi (fun x_63 ex_63 => ?_)
            have rx_63 : rgI (0) (39) x_63 := by rw [ex_63]; exact rg_w (rg_sub r_49 rl_1 (by decide) (by decide)) (by decide) (by decide)
            obtain ⟨_, ⟨f_65, rfl⟩, o_c_64⟩ := hH q_60 _ kq_60
            refine hg_iald hx hb hK o_c_64 (rg_in (n := 40) rx_63 (by decide) (by decide)) dX8_value_80 ?_
            refine lv_topi (fun x_66 ex_66 => ?_)
            refine lv_ineg hx hb dX8_value_81 ?_
            refine lv_topi (fun x_67 ex_67 => ?_)
            refine hg_iast hx hb hK hS o_c_64 (AF.of kq_60) (rg_in (n := 40) rx_62 (by decide) (by decide)) dX8_value_82 (fun H locs o_c_64 hz oq hS => ?_)
            generalize hff_68 : upd f_65 _ x_67 = f_68 at o_c_64
            have hH : HT g Ty G H := hH.put kq_60 ⟨_, rfl⟩ o_c_64 oq
            have o_c_50 := o_c_50.kept (oq _ (ne_kd k_h0 kq_60 (by decide)))
            clear oq hz
            refine lv_goto (tgt := 131) hx hb dX8_value_83 (by decide) ?_
            exact L_131 H locs y1_4 ls (rg_w r_49 (by decide) (by decide)) ry2_55 (lv_sub hl [0, 1, 2] rfl) hH hS
      refine lv_iload_n hx hb dX8_value_4 rfl (lv_at hl 2 rfl) ?_
      refine lv_aload_n hx hb dX8_value_5 rfl (lv_at hl 0 rfl) ?_
      obtain ⟨_, ⟨q_70, q_71, q_74, q_75, q_77, q_78, q_79, rfl, kq_70, kq_72, kq_78, kq_79, rq_71, rq_74, t_80⟩, o_c_69⟩ := hH h0 _ k_h0
      refine hg_get hx hb hG igX8 hown hK o_c_69 rfl 1 (by decide) (hG _ mw_203) rfl dX8_value_6 ?_
      refine lv_icmp_ge (tgt := 137) hx hb dX8_value_9 (by decide) (fun c_81 => ?_) (fun c_81 => ?_)
      · exact L_137 H locs ls (lv_sub hl [0] rfl) hH hS
      · have r_82 : rgI (0) (39) y2_4 := rg_w (rg_ltL ry2_4 rq_71 (nle_lt c_81)) (by decide) (by decide)
        have r_83 : rgI (1) (40) q_71 := rg_w (rg_ltR ry2_4 rq_71 (nle_lt c_81)) (by decide) (by decide)
        refine lv_iload_n hx hb dX8_value_12 rfl (lv_at hl 2 rfl) ?_
        refine lv_bipush (v := 40) hx hb dX8_value_13 (by decide) ?_
        refine lv_icmp_ge (tgt := 137) hx hb dX8_value_15 (by decide) (fun c_84 => ?_) (fun c_84 => ?_)
        · exact rg_no2 rl_40 r_82 c_84 (by decide)
        · refine lv_aload_n hx hb dX8_value_18 rfl (lv_at hl 0 rfl) ?_
          refine hg_get hx hb hG igX8 hown hK o_c_69 rfl 0 (by decide) (hG _ mw_202) rfl dX8_value_19 ?_
          refine lv_iload_n hx hb dX8_value_22 rfl (lv_at hl 2 rfl) ?_
          obtain ⟨_, ⟨f_86, rfl⟩, o_c_85⟩ := hH q_70 _ kq_70
          refine hg_iald hx hb hK o_c_85 (rg_in (n := 40) r_82 (by decide) (by decide)) dX8_value_23 ?_
          refine lv_topi (fun x_87 ex_87 => ?_)
          refine lv_istore_n (lv' := [(3, .int x_87), (0, .ref h0), (1, .int y1_4), (2, .int y2_4)]) hx hb dX8_value_24 rfl hl (by decide) rfl (fun ls hl => ?_)
          refine lv_iload_n hx hb dX8_value_25 rfl (lv_at hl 0 rfl) ?_
          refine lv_sipush (v := 2000) hx hb dX8_value_26 (by decide) ?_
          refine lv_icmp_ge (tgt := 55) hx hb dX8_value_29 (by decide) (fun c_88 => ?_) (fun c_88 => ?_)
          · have r_89 : rgI (2000) (2147483647) x_87 := rg_w (rg_leR rl_2000 (rg_top x_87) c_88) (by decide) (by decide)
            exact L_55 H locs x_87 ls ry1_4 r_82 (lv_sub hl [1, 2, 3, 0] rfl) hH hS
          · have r_90 : rgI (-2147483648) (1999) x_87 := rg_w (rg_ltL (rg_top x_87) rl_2000 (nle_lt c_88)) (by decide) (by decide)
            refine lv_iload_n hx hb dX8_value_32 rfl (lv_at hl 2 rfl) ?_
            refine lv_bipush (v := 40) hx hb dX8_value_33 (by decide) ?_
            refine lv_icmp_ge (tgt := 55) hx hb dX8_value_35 (by decide) (fun c_91 => ?_) (fun c_91 => ?_)
            · have r_92 : rgI (40) (40) y1_4 := rg_w (rg_leR rl_40 ry1_4 c_91) (by decide) (by decide)
              exact L_55 H locs x_87 ls (rg_w r_92 (by decide) (by decide)) r_82 (lv_sub hl [1, 2, 3, 0] rfl) hH hS
            · have r_93 : rgI (0) (39) y1_4 := rg_w (rg_ltL ry1_4 rl_40 (nle_lt c_91)) (by decide) (by decide)
              refine lv_aload_n hx hb dX8_value_38 rfl (lv_at hl 1 rfl) ?_
              refine hg_get hx hb hG igX8 hown hK o_c_69 rfl 9 (by decide) (hG _ mw_211) rfl dX8_value_39 ?_
              refine lv_iload_n hx hb dX8_value_42 rfl (lv_at hl 2 rfl) ?_
              refine lv_aload_n hx hb dX8_value_43 rfl (lv_at hl 1 rfl) ?_
              refine lv_iload_n hx hb dX8_value_44 rfl (lv_at hl 0 rfl) ?_
              refine vp_callSi (W.runV (As := [.int x_87]) (rest := [.int y1_4, .ref q_79]) ⟨hx, hb, hml, hown, hts⟩ (c_X8_thing_o l g Ty G h0 x_87 k_h0) (cwV 1 hts (gwV mw_701 mw_703 mw_11 mw_81 mw_704) rfl rfl rfl hv_X8_thing ⟨Nat.le_of_ble_eq_true rfl, Nat.le_of_ble_eq_true rfl⟩) ⟨PcH_blind, hg_recv hK o_c_69 rfl, PcH_pre hK hH⟩ rfl rfl hl.1 rfl (lv_room (Nat.le_of_ble_eq_true rfl)) dX8_value_45 ⟨Nat.zero_le _, Nat.zero_le _⟩) (fun x_94 hx_94 => ?_)
              obtain ⟨_, ⟨f_96, rfl⟩, o_c_95⟩ := hH q_79 _ kq_79
              refine hg_iast hx hb hK hS o_c_95 (AF.of kq_79) (rg_in (n := 40) r_93 (by decide) (by decide)) dX8_value_48 (fun H locs o_c_95 hz oq hS => ?_)
              generalize hff_97 : upd f_96 _ x_94 = f_97 at o_c_95
              have hH : HT g Ty G H := hH.put kq_79 ⟨_, rfl⟩ o_c_95 oq
              have o_c_69 := o_c_69.kept (oq _ (ne_kd k_h0 kq_79 (by decide)))
              clear oq hz
              obtain ⟨x_98, ex_98⟩ : ∃ y : Int32, y = y1_4 + 1 := ⟨_, rfl⟩
              have rx_98 : rgI (1) (40) x_98 := by rw [ex_98]; exact rg_w (rg_add r_93 rl_1 (by decide) (by decide)) (by decide) (by decide)
              have qx_98 : x_98.toInt = (y1_4 : Int32).toInt + 1 := by rw [ex_98]; exact rg_addE r_93 rl_1 (by decide) (by decide)
              refine lv_iinc (v := x_98) (lv' := [(1, .int x_98), (3, .int x_87), (0, .ref h0), (2, .int y2_4)]) hx hb dX8_value_49 hl (k := 2) rfl (by rw [ex_98]; rfl) (by decide) rfl (fun ls hl => ?_)
              refine lv_goto (tgt := 131) hx hb dX8_value_52 (by decide) ?_
              exact L_131 H locs x_98 ls (rg_w rx_98 (by decide) (by decide)) r_82 (lv_sub hl [2, 0, 3] rfl) hH hS
  refine lv_iconst (v := 0) hx hb dX8_value_0 (by decide) ?_
  refine lv_istore_n (lv' := [(1, .int 0), (0, .ref h0)]) hx hb dX8_value_1 rfl hl (by decide) rfl (fun ls hl => ?_)
  refine lv_iconst (v := 0) hx hb dX8_value_2 (by decide) ?_
  refine lv_istore_n (lv' := [(2, .int 0), (1, .int 0), (0, .ref h0)]) hx hb dX8_value_3 rfl hl (by decide) rfl (fun ls hl => ?_)
  exact L_4 _ s.heap [] 0 0 ls (rg_w rl_0 (by decide) (by decide)) (rg_w rl_0 (by decide) (by decide)) (Nat.lt_succ_self _) (lv_sub hl [2, 1, 0] rfl) hH hS
