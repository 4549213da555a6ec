set_option maxHeartbeats 4000000 in
set_option maxRecDepth 100000 in
theorem c_X8_take (l : Launch) (g : Gx) (Ty : TyM) (G : Gh) (sz : Nat) (h0 : Nat) (b0 : Nat) (k_h0 : Ty h0 = some (18, 0)) (k_b0 : Ty b0 = some (23, 0)) : Met l yX8_take (wsG yX8_take cX8_take 3 none) ({ frames := 0, cells := 0, slots := 0, locals := 0 }) (PcT g Ty G sz [.ref h0, .ref b0]) (QwV g Ty sz (fun u => u = (Ty, G))) 0 0 (AF Ty sz) := by
  refine Met.ofW (cc := cX8_take) (maxL := 3) (ret := none) (by decide) rfl ?_
  intro p e s m args below meth c s₁ B hml hv
  obtain ⟨rfl, hsz, hK, hH⟩ := hv
  subst hsz
  have hx := B.exec
  have hb := B.bytes
  have hr := B.returns
  have hts := atoms_spec (ws := (wsG yX8_take cX8_take 3 none)) B.pre
  have hG : ∀ w ∈ GW, w.before ([.ref h0, .ref b0] : List Value).toArray s = true := fun w h => hts w (List.mem_cons_of_mem _ h)
  have hown : s.vm.findClass RX8 = some m.cls := findClass_of_methodNamed B.named
  have hlocks := B.notSynchronized
  have hl := lv_entry [.ref h0, .ref b0] (n := 3) (Nat.le_of_ble_eq_true rfl)
  rw [lg_entry_eq]
  generalize (lg_sl [.ref h0, .ref b0] ++ List.replicate (3 - (lg_sl [.ref h0, .ref b0]).length) Slot.unset).toArray = ls at hl ⊢
  have hl : lv_has ls 3 [(0, .ref h0), (1, .ref b0)] := hl
  have hS : va_S (AF Ty s.heap.size) s.heap s.heap [] := va_S.rf
  have L_2 : ∀ (n : Nat) (H : Heap) (locs : List Loc) (y2_2 : Int32) (ls : Array Slot), rgI (0) (40) y2_2 → (40 - (y2_2).toInt).toNat < n → lv_has ls 3 [(0, .ref h0), (1, .ref b0), (2, .int y2_2)] → HT g Ty G H → va_S (AF Ty s.heap.size) s.heap H locs → Wm p l e (wsG yX8_take cX8_take 3 none) ({ frames := 0, cells := 0, slots := 0, locals := 0 }) s m [.ref h0, .ref b0] below meth c H locs (0) (0) (QwV g Ty s.heap.size (fun u => u = (Ty, G))) 0 0 (AF Ty s.heap.size) (F0 m 2 ls []) := by
    intro n
    induction n with
    | zero => intro H locs y2_2 ls ry2_2 hm; exact absurd hm (Nat.not_lt_zero _)
    | succ n ih_2 =>
      intro H locs y2_2 ls ry2_2 hm_2 hl hH hS
      refine lv_iload_n hx hb dX8_take_2 rfl (lv_at hl 2 rfl) ?_
      refine lv_bipush (v := 40) hx hb dX8_take_3 (by decide) ?_
      refine lv_icmp_ge (tgt := 26) hx hb dX8_take_5 (by decide) (fun c_1 => ?_) (fun c_1 => ?_)
      · have r_2 : rgI (40) (40) y2_2 := rg_w (rg_leR rl_40 ry2_2 c_1) (by decide) (by decide)
        refine lv_aload_n hx hb dX8_take_26 rfl (lv_at hl 0 rfl) ?_
        refine lv_aload_n hx hb dX8_take_27 rfl (lv_at hl 1 rfl) ?_
        obtain ⟨_, ⟨q_4, q_5, q_8, q_9, q_11, q_12, q_13, rfl, kq_4, kq_6, kq_12, kq_13, rq_5, rq_8, t_14⟩, o_c_3⟩ := hH b0 _ k_b0
        refine hg_get hx hb hG igX8 hown hK o_c_3 rfl 1 (by decide) (hG _ mw_203) rfl dX8_take_28 ?_
        obtain ⟨_, ⟨q_16, q_17, q_18, q_19, q_20, q_21, q_22, q_23, q_24, q_25, rfl, kq_16, kq_18, kq_24, kq_25, rq_17, rq_20⟩, o_c_15⟩ := hH h0 _ k_h0
        refine hg_put (ty := .int) hx hb hG igX8 tyX8 tyX8_ok nmX8 hown hK hS o_c_15 (AF.of k_h0) rfl 1 (by decide) (hG _ mw_203) rfl (by decide +kernel) rfl rfl (Nat.le_of_ble_eq_true rfl) dX8_take_31 (fun H locs o_c_15 hz oq hS => ?_)
        have o_c_15 : va_at g.1 vwCl (h0, .inr (8, [.ref q_16, .int q_5, .ref q_18, .int q_19, .int q_20, .int q_21, .int q_22, .int q_23, .ref q_24, .ref q_25])) H := o_c_15
        have hH : HT g Ty G H := hH.put k_h0 ⟨q_16, q_5, q_18, q_19, q_20, q_21, q_22, q_23, q_24, q_25, rfl, kq_16, kq_18, kq_24, kq_25, rq_5, rq_20⟩ o_c_15 oq
        have o_c_3 := o_c_3.kept (oq _ (ne_kd k_b0 k_h0 (by decide)))
        clear oq hz
        exact W.vret hx hb hr (fun t ht hWm => ⟨⟨(Ty, G), rfl, rfl, by show HT g Ty G t.heap; rw [ht]; exact hH⟩, hS.F ht⟩) hS.2.2 dX8_take_34
      · have r_26 : rgI (0) (39) y2_2 := rg_w (rg_ltL ry2_2 rl_40 (nle_lt c_1)) (by decide) (by decide)
        refine lv_aload_n hx hb dX8_take_8 rfl (lv_at hl 0 rfl) ?_
        obtain ⟨_, ⟨q_28, q_29, q_30, q_31, q_32, q_33, q_34, q_35, q_36, q_37, rfl, kq_28, kq_30, kq_36, kq_37, rq_29, rq_32⟩, o_c_27⟩ := hH h0 _ k_h0
        refine hg_get hx hb hG igX8 hown hK o_c_27 rfl 0 (by decide) (hG _ mw_202) rfl dX8_take_9 ?_
        refine lv_iload_n hx hb dX8_take_12 rfl (lv_at hl 2 rfl) ?_
        refine lv_aload_n hx hb dX8_take_13 rfl (lv_at hl 1 rfl) ?_
        obtain ⟨_, ⟨q_39, q_40, q_43, q_44, q_46, q_47, q_48, rfl, kq_39, kq_41, kq_47, kq_48, rq_40, rq_43, t_49⟩, o_c_38⟩ := hH b0 _ k_b0
        refine hg_get hx hb hG igX8 hown hK o_c_38 rfl 0 (by decide) (hG _ mw_202) rfl dX8_take_14 ?_
        refine lv_iload_n hx hb dX8_take_17 rfl (lv_at hl 2 rfl) ?_
        obtain ⟨_, ⟨f_51, rfl⟩, o_c_50⟩ := hH q_39 _ kq_39
        refine hg_iald hx hb hK o_c_50 (rg_in (n := 40) r_26 (by decide) (by decide)) dX8_take_18 ?_
        refine lv_topi (fun x_52 ex_52 => ?_)
        obtain ⟨_, ⟨f_54, rfl⟩, o_c_53⟩ := hH q_28 _ kq_28
        refine hg_iast hx hb hK hS o_c_53 (AF.of kq_28) (rg_in (n := 40) r_26 (by decide) (by decide)) dX8_take_19 (fun H locs o_c_53 hz oq hS => ?_)
        generalize hff_55 : upd f_54 _ x_52 = f_55 at o_c_53
        have hH : HT g Ty G H := hH.put kq_28 ⟨_, rfl⟩ o_c_53 oq
        have o_c_27 := o_c_27.kept (oq _ (ne_kd k_h0 kq_28 (by decide)))
        have o_c_38 := o_c_38.kept (oq _ (ne_kd k_b0 kq_28 (by decide)))
        clear oq hz
        obtain ⟨x_56, ex_56⟩ : ∃ y : Int32, y = y2_2 + 1 := ⟨_, rfl⟩
        have rx_56 : rgI (1) (40) x_56 := by rw [ex_56]; exact rg_w (rg_add r_26 rl_1 (by decide) (by decide)) (by decide) (by decide)
        have qx_56 : x_56.toInt = (y2_2 : Int32).toInt + 1 := by rw [ex_56]; exact rg_addE r_26 rl_1 (by decide) (by decide)
        refine lv_iinc (v := x_56) (lv' := [(2, .int x_56), (0, .ref h0), (1, .ref b0)]) hx hb dX8_take_20 hl (k := 2) rfl (by rw [ex_56]; rfl) (by decide) rfl (fun ls hl => ?_)
        refine lv_goto (tgt := 2) hx hb dX8_take_23 (by decide) ?_
        exact ih_2 H locs x_56 ls (rg_w rx_56 (by decide) (by decide)) (by have h1 := qx_56; have h2 := r_26.1; have h3 := r_26.2; have h4 := hm_2; omega) (lv_sub hl [1, 2, 0] rfl) hH hS
  refine lv_iconst (v := 0) hx hb dX8_take_0 (by decide) ?_
  refine lv_istore_n (lv' := [(2, .int 0), (0, .ref h0), (1, .ref b0)]) hx hb dX8_take_1 rfl hl (by decide) rfl (fun ls hl => ?_)
  exact L_2 _ s.heap [] 0 ls (rg_w rl_0 (by decide) (by decide)) (Nat.lt_succ_self _) (lv_sub hl [1, 2, 0] rfl) hH hS

set_option maxHeartbeats 4000000 in
set_option maxRecDepth 100000 in
theorem c_X8_isDigit (l : Launch) (g : Gx) (Ty : TyM) (G : Gh) (a0 : Int32) : Met l yX8_isDigit (wsG yX8_isDigit cX8_isDigit 1 (some .boolean)) ({ frames := 0, cells := 0, slots := 0, locals := 0 }) (PcH g Ty G [.int a0]) (vp_Si (fun r => rgI (0) (1) r)) 0 0 (fun _ => False) := by
  refine Met.ofW (cc := cX8_isDigit) (maxL := 1) (ret := (some .boolean)) (by decide) rfl ?_
  intro p e s m args below meth c s₁ B hml hv
  obtain ⟨rfl, hK, hH⟩ := hv
  have hx := B.exec
  have hb := B.bytes
  have hr := B.returns
  have hts := atoms_spec (ws := (wsG yX8_isDigit cX8_isDigit 1 (some .boolean))) B.pre
  have hG : ∀ w ∈ GW, w.before ([.int a0] : List Value).toArray s = true := fun w h => hts w (List.mem_cons_of_mem _ h)
  have hown : s.vm.findClass RX8 = some m.cls := findClass_of_methodNamed B.named
  have hlocks := B.notSynchronized
  have hl := lv_entry [.int a0] (n := 1) (Nat.le_of_ble_eq_true rfl)
  rw [lg_entry_eq]
  generalize (lg_sl [.int a0] ++ List.replicate (1 - (lg_sl [.int a0]).length) Slot.unset).toArray = ls at hl ⊢
  have hl : lv_has ls 1 [(0, .int a0)] := hl
  have L_16 : ∀ (ls : Array Slot), lv_has ls 1 [] → Wm p l e (wsG yX8_isDigit cX8_isDigit 1 (some .boolean)) ({ frames := 0, cells := 0, slots := 0, locals := 0 }) s m [.int a0] below meth c s.heap [] (0) (0) (vp_Si (fun r => rgI (0) (1) r)) 0 0 (fun _ => False) (F0 m 16 ls []) := by
    intro ls hl
    refine lv_iconst (v := 0) hx hb dX8_isDigit_16 (by decide) ?_
    exact W.zret hx hb hr rfl (fun t ht hW => ⟨0, rfl, rg_w rl_0 (by decide) (by decide), ht⟩) (fun q h => by cases h) dX8_isDigit_17
  refine lv_iload_n hx hb dX8_isDigit_0 rfl (lv_at hl 0 rfl) ?_
  refine lv_bipush (v := 48) hx hb dX8_isDigit_1 (by decide) ?_
  refine lv_icmp_lt (tgt := 16) hx hb dX8_isDigit_3 (by decide) (fun c_1 => ?_) (fun c_1 => ?_)
  · have r_2 : rgI (-2147483648) (47) a0 := rg_w (rg_ltL (rg_top a0) rl_48 c_1) (by decide) (by decide)
    exact L_16  ls (lv_sub hl [] rfl)
  · have r_3 : rgI (48) (2147483647) a0 := rg_w (rg_leR rl_48 (rg_top a0) (nlt_le c_1)) (by decide) (by decide)
    refine lv_iload_n hx hb dX8_isDigit_6 rfl (lv_at hl 0 rfl) ?_
    refine lv_bipush (v := 57) hx hb dX8_isDigit_7 (by decide) ?_
    refine lv_icmp_gt (tgt := 16) hx hb dX8_isDigit_9 (by decide) (fun c_4 => ?_) (fun c_4 => ?_)
    · have r_5 : rgI (58) (2147483647) a0 := rg_w (rg_ltR rl_57 r_3 c_4) (by decide) (by decide)
      exact L_16  ls (lv_sub hl [] rfl)
    · have r_6 : rgI (48) (57) a0 := rg_w (rg_leL r_3 rl_57 (nlt_le c_4)) (by decide) (by decide)
      refine lv_iconst (v := 1) hx hb dX8_isDigit_12 (by decide) ?_
      refine lv_goto (tgt := 17) hx hb dX8_isDigit_13 (by decide) ?_
      exact W.zret hx hb hr rfl (fun t ht hW => ⟨1, rfl, rg_w rl_1 (by decide) (by decide), ht⟩) (fun q h => by cases h) dX8_isDigit_17

set_option maxHeartbeats 4000000 in
set_option maxRecDepth 100000 in
theorem c_X8_rankOf (l : Launch) (g : Gx) (Ty : TyM) (G : Gh) (a0 : Int32) : Met l yX8_rankOf (wsG yX8_rankOf cX8_rankOf 1 (some .int)) ({ frames := 0, cells := 0, slots := 0, locals := 0 }) (PcH g Ty G [.int a0]) (vp_Si (fun r => True)) 0 0 (fun _ => False) := by
  refine Met.ofW (cc := cX8_rankOf) (maxL := 1) (ret := (some .int)) (by decide) rfl ?_
  intro p e s m args below meth c s₁ B hml hv
  obtain ⟨rfl, hK, hH⟩ := hv
  have hx := B.exec
  have hb := B.bytes
  have hr := B.returns
  have hts := atoms_spec (ws := (wsG yX8_rankOf cX8_rankOf 1 (some .int))) B.pre
  have hG : ∀ w ∈ GW, w.before ([.int a0] : List Value).toArray s = true := fun w h => hts w (List.mem_cons_of_mem _ h)
  have hown : s.vm.findClass RX8 = some m.cls := findClass_of_methodNamed B.named
  have hlocks := B.notSynchronized
  have hl := lv_entry [.int a0] (n := 1) (Nat.le_of_ble_eq_true rfl)
  rw [lg_entry_eq]
  generalize (lg_sl [.int a0] ++ List.replicate (1 - (lg_sl [.int a0]).length) Slot.unset).toArray = ls at hl ⊢
  have hl : lv_has ls 1 [(0, .int a0)] := hl
  refine lv_iload_n hx hb dX8_rankOf_0 rfl (lv_at hl 0 rfl) ?_
  by_cases c_1 : a0 = 42
  · refine lv_lookup (tgt := 80) (off := 79) hx hb dX8_rankOf_1 (by decide) (by rw [c_1]; rfl) (by decide) ?_
    have r_2 : rgI (42) (42) a0 := rg_w (rg_eq rl_42 c_1) (by decide) (by decide)
    refine lv_iconst (v := 3) hx hb dX8_rankOf_80 (by decide) ?_
    exact W.iret hx hb hr (fun t ht hW => ⟨3, rfl, trivial, ht⟩) (fun q h => by cases h) dX8_rankOf_81
  by_cases c_3 : a0 = 43
  · refine lv_lookup (tgt := 78) (off := 77) hx hb dX8_rankOf_1 (by decide) (by rw [c_3]; rfl) (by decide) ?_
    have r_4 : rgI (43) (43) a0 := rg_w (rg_eq rl_43 c_3) (by decide) (by decide)
    refine lv_iconst (v := 2) hx hb dX8_rankOf_78 (by decide) ?_
    exact W.iret hx hb hr (fun t ht hW => ⟨2, rfl, trivial, ht⟩) (fun q h => by cases h) dX8_rankOf_79
  by_cases c_5 : a0 = 45
  · refine lv_lookup (tgt := 78) (off := 77) hx hb dX8_rankOf_1 (by decide) (by rw [c_5]; rfl) (by decide) ?_
    have r_6 : rgI (45) (45) a0 := rg_w (rg_eq rl_45 c_5) (by decide) (by decide)
    refine lv_iconst (v := 2) hx hb dX8_rankOf_78 (by decide) ?_
    exact W.iret hx hb hr (fun t ht hW => ⟨2, rfl, trivial, ht⟩) (fun q h => by cases h) dX8_rankOf_79
  by_cases c_7 : a0 = 47
  · refine lv_lookup (tgt := 80) (off := 79) hx hb dX8_rankOf_1 (by decide) (by rw [c_7]; rfl) (by decide) ?_
    have r_8 : rgI (47) (47) a0 := rg_w (rg_eq rl_47 c_7) (by decide) (by decide)
    refine lv_iconst (v := 3) hx hb dX8_rankOf_80 (by decide) ?_
    exact W.iret hx hb hr (fun t ht hW => ⟨3, rfl, trivial, ht⟩) (fun q h => by cases h) dX8_rankOf_81
  by_cases c_9 : a0 = 60
  · refine lv_lookup (tgt := 76) (off := 75) hx hb dX8_rankOf_1 (by decide) (by rw [c_9]; rfl) (by decide) ?_
    have r_10 : rgI (60) (60) a0 := rg_w (rg_eq rl_60 c_9) (by decide) (by decide)
    refine lv_iconst (v := 1) hx hb dX8_rankOf_76 (by decide) ?_
    exact W.iret hx hb hr (fun t ht hW => ⟨1, rfl, trivial, ht⟩) (fun q h => by cases h) dX8_rankOf_77
  by_cases c_11 : a0 = 61
  · refine lv_lookup (tgt := 76) (off := 75) hx hb dX8_rankOf_1 (by decide) (by rw [c_11]; rfl) (by decide) ?_
    have r_12 : rgI (61) (61) a0 := rg_w (rg_eq rl_61 c_11) (by decide) (by decide)
    refine lv_iconst (v := 1) hx hb dX8_rankOf_76 (by decide) ?_
    exact W.iret hx hb hr (fun t ht hW => ⟨1, rfl, trivial, ht⟩) (fun q h => by cases h) dX8_rankOf_77
  by_cases c_13 : a0 = 62
  · refine lv_lookup (tgt := 76) (off := 75) hx hb dX8_rankOf_1 (by decide) (by rw [c_13]; rfl) (by decide) ?_
    have r_14 : rgI (62) (62) a0 := rg_w (rg_eq rl_62 c_13) (by decide) (by decide)
    refine lv_iconst (v := 1) hx hb dX8_rankOf_76 (by decide) ?_
    exact W.iret hx hb hr (fun t ht hW => ⟨1, rfl, trivial, ht⟩) (fun q h => by cases h) dX8_rankOf_77
  by_cases c_15 : a0 = 256
  · refine lv_lookup (tgt := 82) (off := 81) hx hb dX8_rankOf_1 (by decide) (by rw [c_15]; rfl) (by decide) ?_
    have r_16 : rgI (256) (256) a0 := rg_w (rg_eq rl_256 c_15) (by decide) (by decide)
    refine lv_iconst (v := 4) hx hb dX8_rankOf_82 (by decide) ?_
    exact W.iret hx hb hr (fun t ht hW => ⟨4, rfl, trivial, ht⟩) (fun q h => by cases h) dX8_rankOf_83
  refine lv_lookup (tgt := 84) (off := 83) hx hb dX8_rankOf_1 (by decide) ((lv_osw c_1 rfl).trans ((lv_osw c_3 rfl).trans ((lv_osw c_5 rfl).trans ((lv_osw c_7 rfl).trans ((lv_osw c_9 rfl).trans ((lv_osw c_11 rfl).trans ((lv_osw c_13 rfl).trans ((lv_osw c_15 rfl).trans (rfl))))))))) (by decide) ?_
  refine lv_iconst (v := 0) hx hb dX8_rankOf_84 (by decide) ?_
  exact W.iret hx hb hr (fun t ht hW => ⟨0, rfl, trivial, ht⟩) (fun q h => by cases h) dX8_rankOf_85

set_option maxHeartbeats 4000000 in
set_option maxRecDepth 100000 in
theorem c_X8_thing (l : Launch) (g : Gx) (Ty : TyM) (G : Gh) (h0 : Nat) (a0 : Int32) (k_h0 : Ty h0 = some (18, 0)) : Met l yX8_thing (wsG yX8_thing cX8_thing 3 (some .int)) ({ frames := 0, cells := 0, slots := 0, locals := 0 }) (PcH g Ty G [.ref h0, .int a0]) (vp_Si (fun r => True)) 0 0 (fun _ => False) := by
  refine Met.ofW (cc := cX8_thing) (maxL := 3) (ret := (some .int)) (by decide) rfl ?_
  intro p e s m args below meth c s₁ B hml hv
  obtain ⟨rfl, hK, hH⟩ := hv
  have hx := B.exec
  have hb := B.bytes
  have hr := B.returns
  have hts := atoms_spec (ws := (wsG yX8_thing cX8_thing 3 (some .int))) B.pre
  have hG : ∀ w ∈ GW, w.before ([.ref h0, .int a0] : List Value).toArray s = true := fun w h => hts w (List.mem_cons_of_mem _ h)
  have hown : s.vm.findClass RX8 = some m.cls := findClass_of_methodNamed B.named
  have hlocks := B.notSynchronized
  have hl := lv_entry [.ref h0, .int a0] (n := 3) (Nat.le_of_ble_eq_true rfl)
  rw [lg_entry_eq]
  generalize (lg_sl [.ref h0, .int a0] ++ List.replicate (3 - (lg_sl [.ref h0, .int a0]).length) Slot.unset).toArray = ls at hl ⊢
  have hl : lv_has ls 3 [(0, .ref h0), (1, .int a0)] := hl
  have L_16 : ∀ (ls : Array Slot), lv_has ls 3 [(1, .int a0)] → Wm p l e (wsG yX8_thing cX8_thing 3 (some .int)) ({ frames := 0, cells := 0, slots := 0, locals := 0 }) s m [.ref h0, .int a0] below meth c s.heap [] (0) (0) (vp_Si (fun r => True)) 0 0 (fun _ => False) (F0 m 16 ls []) := by
    intro ls hl
    refine lv_iload_n hx hb dX8_thing_16 rfl (lv_at hl 0 rfl) ?_
    refine lv_goto (tgt := 26) hx hb dX8_thing_17 (by decide) ?_
    exact W.iret hx hb hr (fun t ht hW => ⟨a0, rfl, trivial, ht⟩) (fun q h => by cases h) dX8_thing_26
  refine lv_iload_n hx hb dX8_thing_0 rfl (lv_at hl 1 rfl) ?_
  refine lv_sipush (v := 1000) hx hb dX8_thing_1 (by decide) ?_
  refine lv_isub hx hb dX8_thing_4 ?_
  refine lv_topi (fun x_1 ex_1 => ?_)
  refine lv_istore_n (lv' := [(2, .int x_1), (0, .ref h0), (1, .int a0)]) hx hb dX8_thing_5 rfl hl (by decide) rfl (fun ls hl => ?_)
  refine lv_iload_n hx hb dX8_thing_6 rfl (lv_at hl 0 rfl) ?_
  refine lv_if_lt (tgt := 16) hx hb dX8_thing_7 (by decide) (fun c_2 => ?_) (fun c_2 => ?_)
  · have r_3 : rgI (-2147483648) (-1) x_1 := rg_w (rg_ltL (rg_top x_1) rl_0 c_2) (by decide) (by decide)
    exact L_16  ls (lv_sub hl [2] rfl)
  · have r_4 : rgI (0) (2147483647) x_1 := rg_w (rg_leR rl_0 (rg_top x_1) (nlt_le c_2)) (by decide) (by decide)
    refine lv_iload_n hx hb dX8_thing_10 rfl (lv_at hl 0 rfl) ?_
    refine lv_bipush (v := 7) hx hb dX8_thing_11 (by decide) ?_
    refine lv_icmp_lt (tgt := 20) hx hb dX8_thing_13 (by decide) (fun c_5 => ?_) (fun c_5 => ?_)
    · have r_6 : rgI (0) (6) x_1 := rg_w (rg_ltL r_4 rl_7 c_5) (by decide) (by decide)
      refine lv_aload_n hx hb dX8_thing_20 rfl (lv_at hl 1 rfl) ?_
      obtain ⟨_, ⟨q_8, q_9, q_10, q_11, q_12, q_13, q_14, q_15, q_16, q_17, rfl, kq_8, kq_10, kq_16, kq_17, rq_9, rq_12⟩, o_c_7⟩ := hH h0 _ k_h0
      refine hg_get hx hb hG igX8 hown hK o_c_7 rfl 8 (by decide) (hG _ mw_210) rfl dX8_thing_21 ?_
      refine lv_iload_n hx hb dX8_thing_24 rfl (lv_at hl 0 rfl) ?_
      obtain ⟨_, ⟨f_19, rfl⟩, o_c_18⟩ := hH q_16 _ kq_16
      refine hg_iald hx hb hK o_c_18 (rg_in (n := 7) r_6 (by decide) (by decide)) dX8_thing_25 ?_
      refine lv_topi (fun x_20 ex_20 => ?_)
      exact W.iret hx hb hr (fun t ht hW => ⟨x_20, rfl, trivial, ht⟩) (fun q h => by cases h) dX8_thing_26
    · have r_21 : rgI (7) (2147483647) x_1 := rg_w (rg_leR rl_7 r_4 (nlt_le c_5)) (by decide) (by decide)
      exact L_16  ls (lv_sub hl [2] rfl)

set_option maxHeartbeats 4000000 in
set_option maxRecDepth 100000 in
theorem c_X8_joined (l : Launch) (g : Gx) (Ty : TyM) (G : Gh) (a0 : Int32) (a1 : Int32) (a2 : Int32) : Met l yX8_joined (wsG yX8_joined cX8_joined 3 (some .int)) ({ frames := 0, cells := 0, slots := 0, locals := 0 }) (PcH g Ty G [.int a0, .int a1, .int a2]) (vp_Si (fun r => True)) 0 0 (fun _ => False) := by
  refine Met.ofW (cc := cX8_joined) (maxL := 3) (ret := (some .int)) (by decide) rfl ?_
  intro p e s m args below meth c s₁ B hml hv
  obtain ⟨rfl, hK, hH⟩ := hv
  have hx := B.exec
  have hb := B.bytes
  have hr := B.returns
  have hts := atoms_spec (ws := (wsG yX8_joined cX8_joined 3 (some .int))) B.pre
  have hG : ∀ w ∈ GW, w.before ([.int a0, .int a1, .int a2] : List Value).toArray s = true := fun w h => hts w (List.mem_cons_of_mem _ h)
  have hown : s.vm.findClass RX8 = some m.cls := findClass_of_methodNamed B.named
  have hlocks := B.notSynchronized
  have hl := lv_entry [.int a0, .int a1, .int a2] (n := 3) (Nat.le_of_ble_eq_true rfl)
  rw [lg_entry_eq]
  generalize (lg_sl [.int a0, .int a1, .int a2] ++ List.replicate (3 - (lg_sl [.int a0, .int a1, .int a2]).length) Slot.unset).toArray = ls at hl ⊢
  have hl : lv_has ls 3 [(0, .int a0), (1, .int a1), (2, .int a2)] := hl
  refine lv_iload_n hx hb dX8_joined_0 rfl (lv_at hl 0 rfl) ?_
  by_cases c_1 : a0 = 42
  · refine lv_lookup (tgt := 101) (off := 100) hx hb dX8_joined_1 (by decide) (by rw [c_1]; rfl) (by decide) ?_
    have r_2 : rgI (42) (42) a0 := rg_w (rg_eq rl_42 c_1) (by decide) (by decide)
    refine lv_iload_n hx hb dX8_joined_101 rfl (lv_at hl 1 rfl) ?_
    refine lv_iload_n hx hb dX8_joined_102 rfl (lv_at hl 2 rfl) ?_
    refine lv_imul hx hb dX8_joined_103 ?_
    refine lv_topi (fun x_3 ex_3 => ?_)
    exact W.iret hx hb hr (fun t ht hW => ⟨x_3, rfl, trivial, ht⟩) (fun q h => by cases h) dX8_joined_104
  by_cases c_4 : a0 = 43
  · refine lv_lookup (tgt := 93) (off := 92) hx hb dX8_joined_1 (by decide) (by rw [c_4]; rfl) (by decide) ?_
    have r_5 : rgI (43) (43) a0 := rg_w (rg_eq rl_43 c_4) (by decide) (by decide)
    refine lv_iload_n hx hb dX8_joined_93 rfl (lv_at hl 1 rfl) ?_
    refine lv_iload_n hx hb dX8_joined_94 rfl (lv_at hl 2 rfl) ?_
    refine lv_iadd hx hb dX8_joined_95 ?_
    refine lv_topi (fun x_6 ex_6 => ?_)
    exact W.iret hx hb hr (fun t ht hW => ⟨x_6, rfl, trivial, ht⟩) (fun q h => by cases h) dX8_joined_96
  by_cases c_7 : a0 = 45
  · refine lv_lookup (tgt := 97) (off := 96) hx hb dX8_joined_1 (by decide) (by rw [c_7]; rfl) (by decide) ?_
    have r_8 : rgI (45) (45) a0 := rg_w (rg_eq rl_45 c_7) (by decide) (by decide)
    refine lv_iload_n hx hb dX8_joined_97 rfl (lv_at hl 1 rfl) ?_
    refine lv_iload_n hx hb dX8_joined_98 rfl (lv_at hl 2 rfl) ?_
    refine lv_isub hx hb dX8_joined_99 ?_
    refine lv_topi (fun x_9 ex_9 => ?_)
    exact W.iret hx hb hr (fun t ht hW => ⟨x_9, rfl, trivial, ht⟩) (fun q h => by cases h) dX8_joined_100
  by_cases c_10 : a0 = 60
  · refine lv_lookup (tgt := 60) (off := 59) hx hb dX8_joined_1 (by decide) (by rw [c_10]; rfl) (by decide) ?_
    have r_11 : rgI (60) (60) a0 := rg_w (rg_eq rl_60 c_10) (by decide) (by decide)
    refine lv_iload_n hx hb dX8_joined_60 rfl (lv_at hl 1 rfl) ?_
    refine lv_iload_n hx hb dX8_joined_61 rfl (lv_at hl 2 rfl) ?_
    refine lv_icmp_ge (tgt := 69) hx hb dX8_joined_62 (by decide) (fun c_12 => ?_) (fun c_12 => ?_)
    · refine lv_iconst (v := 0) hx hb dX8_joined_69 (by decide) ?_
      exact W.iret hx hb hr (fun t ht hW => ⟨0, rfl, trivial, ht⟩) (fun q h => by cases h) dX8_joined_70
    · have r_13 : rgI (-2147483648) (2147483646) a1 := rg_w (rg_ltL (rg_top a1) (rg_top a2) (nle_lt c_12)) (by decide) (by decide)
      have r_14 : rgI (-2147483647) (2147483647) a2 := rg_w (rg_ltR (rg_top a1) (rg_top a2) (nle_lt c_12)) (by decide) (by decide)
      refine lv_iconst (v := 1) hx hb dX8_joined_65 (by decide) ?_
      refine lv_goto (tgt := 70) hx hb dX8_joined_66 (by decide) ?_
      exact W.iret hx hb hr (fun t ht hW => ⟨1, rfl, trivial, ht⟩) (fun q h => by cases h) dX8_joined_70
  by_cases c_15 : a0 = 61
  · refine lv_lookup (tgt := 82) (off := 81) hx hb dX8_joined_1 (by decide) (by rw [c_15]; rfl) (by decide) ?_
    have r_16 : rgI (61) (61) a0 := rg_w (rg_eq rl_61 c_15) (by decide) (by decide)
    refine lv_iload_n hx hb dX8_joined_82 rfl (lv_at hl 1 rfl) ?_
    refine lv_iload_n hx hb dX8_joined_83 rfl (lv_at hl 2 rfl) ?_
    refine lv_icmp_ne (tgt := 91) hx hb dX8_joined_84 (by decide) (fun c_17 => ?_) (fun c_17 => ?_)
    · refine lv_iconst (v := 0) hx hb dX8_joined_91 (by decide) ?_
      exact W.iret hx hb hr (fun t ht hW => ⟨0, rfl, trivial, ht⟩) (fun q h => by cases h) dX8_joined_92
    · refine lv_iconst (v := 1) hx hb dX8_joined_87 (by decide) ?_
      refine lv_goto (tgt := 92) hx hb dX8_joined_88 (by decide) ?_
      exact W.iret hx hb hr (fun t ht hW => ⟨1, rfl, trivial, ht⟩) (fun q h => by cases h) dX8_joined_92
  by_cases c_18 : a0 = 62
  · refine lv_lookup (tgt := 71) (off := 70) hx hb dX8_joined_1 (by decide) (by rw [c_18]; rfl) (by decide) ?_
    have r_19 : rgI (62) (62) a0 := rg_w (rg_eq rl_62 c_18) (by decide) (by decide)
    refine lv_iload_n hx hb dX8_joined_71 rfl (lv_at hl 1 rfl) ?_
    refine lv_iload_n hx hb dX8_joined_72 rfl (lv_at hl 2 rfl) ?_
    refine lv_icmp_le (tgt := 80) hx hb dX8_joined_73 (by decide) (fun c_20 => ?_) (fun c_20 => ?_)
    · refine lv_iconst (v := 0) hx hb dX8_joined_80 (by decide) ?_
      exact W.iret hx hb hr (fun t ht hW => ⟨0, rfl, trivial, ht⟩) (fun q h => by cases h) dX8_joined_81
    · have r_21 : rgI (-2147483648) (2147483646) a2 := rg_w (rg_ltL (rg_top a2) (rg_top a1) (nle_lt c_20)) (by decide) (by decide)
      have r_22 : rgI (-2147483647) (2147483647) a1 := rg_w (rg_ltR (rg_top a2) (rg_top a1) (nle_lt c_20)) (by decide) (by decide)
      refine lv_iconst (v := 1) hx hb dX8_joined_76 (by decide) ?_
      refine lv_goto (tgt := 81) hx hb dX8_joined_77 (by decide) ?_
      exact W.iret hx hb hr (fun t ht hW => ⟨1, rfl, trivial, ht⟩) (fun q h => by cases h) dX8_joined_81
  refine lv_lookup (tgt := 105) (off := 104) hx hb dX8_joined_1 (by decide) ((lv_osw c_1 rfl).trans ((lv_osw c_4 rfl).trans ((lv_osw c_7 rfl).trans ((lv_osw c_10 rfl).trans ((lv_osw c_15 rfl).trans ((lv_osw c_18 rfl).trans (rfl))))))) (by decide) ?_
  refine lv_iload_n hx hb dX8_joined_105 rfl (lv_at hl 2 rfl) ?_
  refine lv_if_ne (tgt := 113) hx hb dX8_joined_106 (by decide) (fun c_23 => ?_) (fun c_23 => ?_)
  · refine lv_iload_n hx hb dX8_joined_113 rfl (lv_at hl 1 rfl) ?_
    refine lv_iload_n hx hb dX8_joined_114 rfl (lv_at hl 2 rfl) ?_
    refine lv_idiv hx hb dX8_joined_115 c_23 ?_
    refine lv_topi (fun x_24 ex_24 => ?_)
    exact W.iret hx hb hr (fun t ht hW => ⟨x_24, rfl, trivial, ht⟩) (fun q h => by cases h) dX8_joined_116
  · have r_25 : rgI (0) (0) a2 := rg_w (rg_eq rl_0 c_23) (by decide) (by decide)
    refine lv_iconst (v := 0) hx hb dX8_joined_109 (by decide) ?_
    refine lv_goto (tgt := 116) hx hb dX8_joined_110 (by decide) ?_
    exact W.iret hx hb hr (fun t ht hW => ⟨0, rfl, trivial, ht⟩) (fun q h => by cases h) dX8_joined_116

set_option maxHeartbeats 4000000 in
set_option maxRecDepth 100000 in
theorem c_X8_value (l : Launch) (g : Gx) (Ty : TyM) (G : Gh) (sz : Nat) (h0 : Nat) (k_h0 : Ty h0 = some (18, 0)) : Met l yX8_value (wsG yX8_value cX8_value 4 (some .int)) ({ frames := 1, cells := 0, slots := 0, locals := 22 }) (PcT g Ty G sz [.ref h0]) (QwI g Ty sz (fun r u => u = (Ty, G))) 0 0 (AF Ty sz) := by
  refine Met.ofW (cc := cX8_value) (maxL := 4) (ret := (some .int)) (by decide) rfl ?_
  intro p e s m args below meth c s₁ B hml hv
  obtain ⟨rfl, hsz, hK, hH⟩ := hv
  subst hsz
  have hx := B.exec
  have hb := B.bytes
  have hr := B.returns
  have hts := atoms_spec (ws := (wsG yX8_value cX8_value 4 (some .int))) B.pre
  have hG : ∀ w ∈ GW, w.before ([.ref h0] : List Value).toArray s = true := fun w h => hts w (List.mem_cons_of_mem _ h)
  have hown : s.vm.findClass RX8 = some m.cls := findClass_of_methodNamed B.named
  have hlocks := B.notSynchronized
  have hl := lv_entry [.ref h0] (n := 4) (Nat.le_of_ble_eq_true rfl)
  rw [lg_entry_eq]
  generalize (lg_sl [.ref h0] ++ List.replicate (4 - (lg_sl [.ref h0]).length) Slot.unset).toArray = ls at hl ⊢
  have hl : lv_has ls 4 [(0, .ref h0)] := hl
  have hS : va_S (AF Ty s.heap.size) s.heap s.heap [] := va_S.rf
  have L_137 : ∀ (H : Heap) (locs : List Loc) (ls : Array Slot), lv_has ls 4 [(0, .ref h0)] → HT g Ty G H → va_S (AF Ty s.heap.size) s.heap H locs → Wm p l e (wsG yX8_value cX8_value 4 (some .int)) ({ frames := 1, cells := 0, slots := 0, locals := 22 }) s m [.ref h0] below meth c H locs (0) (0) (QwI g Ty s.heap.size (fun r u => u = (Ty, G))) 0 0 (AF Ty s.heap.size) (F0 m 137 ls []) := by
    intro H locs ls hl hH hS
    refine lv_aload_n hx hb dX8_value_137 rfl (lv_at hl 0 rfl) ?_
    obtain ⟨_, ⟨q_2, q_3, q_4, q_5, q_6, q_7, q_8, q_9, q_10, q_11, rfl, kq_2, kq_4, kq_10, kq_11, rq_3, rq_6⟩, o_c_1⟩ := hH h0 _ k_h0
    refine hg_get hx hb hG igX8 hown hK o_c_1 rfl 9 (by decide) (hG _ mw_211) rfl dX8_value_138 ?_
    refine lv_iconst (v := 0) hx hb dX8_value_141 (by decide) ?_
    obtain ⟨_, ⟨f_13, rfl⟩, o_c_12⟩ := hH q_11 _ kq_11
    refine hg_iald hx hb hK o_c_12 (rg_in (n := 40) rl_0 (by decide) (by decide)) dX8_value_142 ?_
    refine lv_topi (fun x_14 ex_14 => ?_)
    exact W.iret hx hb hr (fun t ht hWm => ⟨⟨x_14, (Ty, G), rfl, rfl, by show HT g Ty G t.heap; rw [ht]; exact hH⟩, hS.F ht⟩) hS.2.2 dX8_value_143
  have L_4 : ∀ (n : Nat) (H : Heap) (locs : List Loc) (y1_4 : Int32) (y2_4 : Int32) (ls : Array Slot), rgI (0) (40) y1_4 → rgI (0) (40) y2_4 → (40 - (y2_4).toInt).toNat < n → lv_has ls 4 [(0, .ref h0), (1, .int y1_4), (2, .int y2_4)] → HT g Ty G H → va_S (AF Ty s.heap.size) s.heap H locs → Wm p l e (wsG yX8_value cX8_value 4 (some .int)) ({ frames := 1, cells := 0, slots := 0, locals := 22 }) s m [.ref h0] below meth c H locs (0) (0) (QwI g Ty s.heap.size (fun r u => u = (Ty, G))) 0 0 (AF Ty s.heap.size) (F0 m 4 ls []) := by
    intro n
    induction n with
    | zero => intro H locs y1_4 y2_4 ls ry1_4 ry2_4 hm; exact absurd hm (Nat.not_lt_zero _)
    | succ n ih_4 =>
      intro H locs y1_4 y2_4 ls ry1_4 ry2_4 hm_4 hl hH hS
      have L_131 : ∀ (H : Heap) (locs : List Loc) (y1_131 : Int32) (ls : Array Slot), rgI (0) (40) y1_131 → rgI (0) (39) y2_4 → lv_has ls 4 [(0, .ref h0), (1, .int y1_131), (2, .int y2_4)] → HT g Ty G H → va_S (AF Ty s.heap.size) s.heap H locs → Wm p l e (wsG yX8_value cX8_value 4 (some .int)) ({ frames := 1, cells := 0, slots := 0, locals := 22 }) s m [.ref h0] below meth c H locs (0) (0) (QwI g Ty s.heap.size (fun r u => u = (Ty, G))) 0 0 (AF Ty s.heap.size) (F0 m 131 ls []) := by
        intro H locs y1_131 ls ry1_131 ry2_131 hl hH hS
        obtain ⟨x_15, ex_15⟩ : ∃ y : Int32, y = y2_4 + 1 := ⟨_, rfl⟩
        have rx_15 : rgI (1) (40) x_15 := by rw [ex_15]; exact rg_w (rg_add ry2_131 rl_1 (by decide) (by decide)) (by decide) (by decide)
        have qx_15 : x_15.toInt = (y2_4 : Int32).toInt + 1 := by rw [ex_15]; exact rg_addE ry2_131 rl_1 (by decide) (by decide)
        refine lv_iinc (v := x_15) (lv' := [(2, .int x_15), (0, .ref h0), (1, .int y1_131)]) hx hb dX8_value_131 hl (k := 2) rfl (by rw [ex_15]; rfl) (by decide) rfl (fun ls hl => ?_)
        refine lv_goto (tgt := 4) hx hb dX8_value_134 (by decide) ?_
        exact ih_4 H locs y1_131 x_15 ls ry1_131 (rg_w rx_15 (by decide) (by decide)) (by have h1 := qx_15; have h2 := ry2_131.1; have h3 := ry2_131.2; have h4 := hm_4; omega) (lv_sub hl [1, 2, 0] rfl) hH hS
      have L_86 : ∀ (H : Heap) (locs : List Loc) (y3_86 : Int32) (ls : Array Slot), rgI (0) (40) y1_4 → rgI (0) (39) y2_4 → lv_has ls 4 [(0, .ref h0), (1, .int y1_4), (2, .int y2_4), (3, .int y3_86)] → HT g Ty G H → va_S (AF Ty s.heap.size) s.heap H locs → Wm p l e (wsG yX8_value cX8_value 4 (some .int)) ({ frames := 1, cells := 0, slots := 0, locals := 22 }) s m [.ref h0] below meth c H locs (0) (0) (QwI g Ty s.heap.size (fun r u => u = (Ty, G))) 0 0 (AF Ty s.heap.size) (F0 m 86 ls []) := by
        intro H locs y3_86 ls ry1_86 ry2_86 hl hH hS
        refine lv_iload_n hx hb dX8_value_86 rfl (lv_at hl 3 rfl) ?_
        refine lv_sipush (v := 2000) hx hb dX8_value_87 (by decide) ?_
        refine lv_icmp_lt (tgt := 131) hx hb dX8_value_90 (by decide) (fun c_16 => ?_) (fun c_16 => ?_)
        · have r_17 : rgI (-2147483648) (1999) y3_86 := rg_w (rg_ltL (rg_top y3_86) rl_2000 c_16) (by decide) (by decide)
          exact L_131 H locs y1_4 ls ry1_86 ry2_86 (lv_sub hl [0, 1, 2] rfl) hH hS
        · have r_18 : rgI (2000) (2147483647) y3_86 := rg_w (rg_leR rl_2000 (rg_top y3_86) (nlt_le c_16)) (by decide) (by decide)
          refine lv_iload_n hx hb dX8_value_93 rfl (lv_at hl 1 rfl) ?_
          refine lv_iconst (v := 1) hx hb dX8_value_94 (by decide) ?_
          refine lv_icmp_le (tgt := 131) hx hb dX8_value_95 (by decide) (fun c_19 => ?_) (fun c_19 => ?_)
          · have r_20 : rgI (0) (1) y1_4 := rg_w (rg_leL ry1_86 rl_1 c_19) (by decide) (by decide)
            exact L_131 H locs y1_4 ls (rg_w r_20 (by decide) (by decide)) ry2_86 (lv_sub hl [0, 1, 2] rfl) hH hS
          · have r_21 : rgI (2) (40) y1_4 := rg_w (rg_ltR rl_1 ry1_86 (nle_lt c_19)) (by decide) (by decide)
            obtain ⟨x_22, ex_22⟩ : ∃ y : Int32, y = y1_4 + (-1) := ⟨_, rfl⟩
            have rx_22 : rgI (1) (39) x_22 := by rw [ex_22]; exact rg_w (rg_add r_21 rl_m1 (by decide) (by decide)) (by decide) (by decide)
            have qx_22 : x_22.toInt = (y1_4 : Int32).toInt + (-1) := by rw [ex_22]; exact rg_addE r_21 rl_m1 (by decide) (by decide)
            refine lv_iinc (v := x_22) (lv' := [(1, .int x_22), (0, .ref h0), (2, .int y2_4), (3, .int y3_86)]) hx hb dX8_value_98 hl (k := 1) rfl (by rw [ex_22]; rfl) (by decide) rfl (fun ls hl => ?_)
            refine lv_aload_n hx hb dX8_value_101 rfl (lv_at hl 1 rfl) ?_
            obtain ⟨_, ⟨q_24, q_25, q_26, q_27, q_28, q_29, q_30, q_31, q_32, q_33, rfl, kq_24, kq_26, kq_32, kq_33, rq_25, rq_28⟩, o_c_23⟩ := hH h0 _ k_h0
            refine hg_get hx hb hG igX8 hown hK o_c_23 rfl 9 (by decide) (hG _ mw_211) rfl dX8_value_102 ?_
            refine lv_iload_n hx hb dX8_value_105 rfl (lv_at hl 0 rfl) ?_
            refine lv_iconst (v := 1) hx hb dX8_value_106 (by decide) ?_
            refine lv_isub hx hb dX8_value_107 ?_
            refine lv_topi (fun x_34 ex_34 => ?_)
            have rx_34 : rgI (0) (38) x_34 := by rw [ex_34]; exact rg_w (rg_sub rx_22 rl_1 (by decide) (by decide)) (by decide) (by decide)
            refine lv_iload_n hx hb dX8_value_108 rfl (lv_at hl 3 rfl) ?_
            refine lv_sipush (v := 2000) hx hb dX8_value_109 (by decide) ?_
            refine lv_isub hx hb dX8_value_112 ?_
            refine lv_topi (fun x_35 ex_35 => ?_)
            have rx_35 : rgI (0) (2147481647) x_35 := by rw [ex_35]; exact rg_w (rg_sub r_18 rl_2000 (by decide) (by decide)) (by decide) (by decide)
            refine lv_aload_n hx hb dX8_value_113 rfl (lv_at hl 1 rfl) ?_
            refine hg_get hx hb hG igX8 hown hK o_c_23 rfl 9 (by decide) (hG _ mw_211) rfl dX8_value_114 ?_
            refine lv_iload_n hx hb dX8_value_117 rfl (lv_at hl 0 rfl) ?_
            refine lv_iconst (v := 1) hx hb dX8_value_118 (by decide) ?_
            refine lv_isub hx hb dX8_value_119 ?_
            refine lv_topi (fun x_36 ex_36 => ?_)
            have rx_36 : rgI (0) (38) x_36 := by rw [ex_36]; exact rg_w (rg_sub rx_22 rl_1 (by decide) (by decide)) (by decide) (by decide)
            obtain ⟨_, ⟨f_38, rfl⟩, o_c_37⟩ := hH q_33 _ kq_33
            refine hg_iald hx hb hK o_c_37 (rg_in (n := 40) rx_36 (by decide) (by decide)) dX8_value_120 ?_
            refine lv_topi (fun x_39 ex_39 => ?_)
            refine lv_aload_n hx hb dX8_value_121 rfl (lv_at hl 1 rfl) ?_
            refine hg_get hx hb hG igX8 hown hK o_c_23 rfl 9 (by decide) (hG _ mw_211) rfl dX8_value_122 ?_
            refine lv_iload_n hx hb dX8_value_125 rfl (lv_at hl 0 rfl) ?_
            refine hg_iald hx hb hK o_c_37 (rg_in (n := 40) rx_22 (by decide) (by decide)) dX8_value_126 ?_
            refine lv_topi (fun x_40 ex_40 => ?_)
            refine vp_callSi (W.runS (As := [.int x_35, .int x_39, .int x_40]) (rest := [.int x_34, .ref q_33]) ⟨hx, hb, hml, hown, hts⟩ (c_X8_joined l g Ty G x_35 x_39 x_40 ) (cwSx 3 hts hG (gwC mw_707) mw_81 mw_705 mw_706 rfl rfl rfl hd_X8_joined ⟨Nat.le_of_ble_eq_true rfl, Nat.le_of_ble_eq_true rfl⟩) ⟨PcH_blind, PcH_pre hK hH⟩ rfl rfl hl.1 rfl (lv_room (Nat.le_of_ble_eq_true rfl)) dX8_value_127 ⟨Nat.zero_le _, Nat.zero_le _⟩) (fun x_41 hx_41 => ?_)
            refine hg_iast hx hb hK hS o_c_37 (AF.of kq_33) (rg_in (n := 40) rx_34 (by decide) (by decide)) dX8_value_130 (fun H locs o_c_37 hz oq hS => ?_)
            generalize hff_42 : upd f_38 _ x_41 = f_42 at o_c_37
            have hH : HT g Ty G H := hH.put kq_33 ⟨_, rfl⟩ o_c_37 oq
            have o_c_23 := o_c_23.kept (oq _ (ne_kd k_h0 kq_33 (by decide)))
            clear oq hz
            exact L_131 H locs x_22 ls (rg_w rx_22 (by decide) (by decide)) ry2_86 (lv_sub hl [1, 0, 2] rfl) hH hS
      have L_55 : ∀ (H : Heap) (locs : List Loc) (y3_55 : Int32) (ls : Array Slot), rgI (0) (40) y1_4 → rgI (0) (39) y2_4 → lv_has ls 4 [(0, .ref h0), (1, .int y1_4), (2, .int y2_4), (3, .int y3_55)] → HT g Ty G H → va_S (AF Ty s.heap.size) s.heap H locs → Wm p l e (wsG yX8_value cX8_value 4 (some .int)) ({ frames := 1, cells := 0, slots := 0, locals := 22 }) s m [.ref h0] below meth c H locs (0) (0) (QwI g Ty s.heap.size (fun r u => u = (Ty, G))) 0 0 (AF Ty s.heap.size) (F0 m 55 ls []) := by
        intro H locs y3_55 ls ry1_55 ry2_55 hl hH hS
        refine lv_iload_n hx hb dX8_value_55 rfl (lv_at hl 3 rfl) ?_
        refine lv_sipush (v := 2256) hx hb dX8_value_56 (by decide) ?_
        refine lv_icmp_ne (tgt := 86) hx hb dX8_value_59 (by decide) (fun c_43 => ?_) (fun c_43 => ?_)
        · exact L_86 H locs y3_55 ls ry1_55 ry2_55 (lv_sub hl [0, 1, 2, 3] rfl) hH hS
        · have r_44 : rgI (2256) (2256) y3_55 := rg_w (rg_eq rl_2256 c_43) (by decide) (by decide)
          refine lv_iload_n hx hb dX8_value_62 rfl (lv_at hl 1 rfl) ?_
          refine lv_if_le (tgt := 86) hx hb dX8_value_63 (by decide) (fun c_45 => ?_) (fun c_45 => ?_)
          · have r_46 : rgI (0) (0) y1_4 := rg_w (rg_leL ry1_55 rl_0 c_45) (by decide) (by decide)
            exact L_86 H locs y3_55 ls (rg_w r_46 (by decide) (by decide)) ry2_55 (lv_sub hl [0, 1, 2, 3] rfl) hH hS
          · have r_47 : rgI (1) (40) y1_4 := rg_w (rg_ltR rl_0 ry1_55 (nle_lt c_45)) (by decide) (by decide)
            refine lv_aload_n hx hb dX8_value_66 rfl (lv_at hl 0 rfl) ?_
            obtain ⟨_, ⟨q_49, q_50, q_51, q_52, q_53, q_54, q_55, q_56, q_57, q_58, rfl, kq_49, kq_51, kq_57, kq_58, rq_50, rq_53⟩, o_c_48⟩ := hH h0 _ k_h0
            refine hg_get hx hb hG igX8 hown hK o_c_48 rfl 9 (by decide) (hG _ mw_211) rfl dX8_value_67 ?_
            refine lv_iload_n hx hb dX8_value_70 rfl (lv_at hl 1 rfl) ?_
            refine lv_iconst (v := 1) hx hb dX8_value_71 (by decide) ?_
            refine lv_isub hx hb dX8_value_72 ?_
            refine lv_topi (fun x_59 ex_59 => ?_)
            have rx_59 : rgI (0) (39) x_59 := by rw [ex_59]; exact rg_w (rg_sub r_47 rl_1 (by decide) (by decide)) (by decide) (by decide)
            refine lv_aload_n hx hb dX8_value_73 rfl (lv_at hl 0 rfl) ?_
            refine hg_get hx hb hG igX8 hown hK o_c_48 rfl 9 (by decide) (hG _ mw_211) rfl dX8_value_74 ?_
            refine lv_iload_n hx hb dX8_value_77 rfl (lv_at hl 1 rfl) ?_
            refine lv_iconst (v := 1) hx hb dX8_value_78 (by decide) ?_
            refine lv_isub hx hb dX8_value_79 ?_
            refine lv_topi (fun x_60 ex_60 => ?_)
            have rx_60 : rgI (0) (39) x_60 := by rw [ex_60]; exact rg_w (rg_sub r_47 rl_1 (by decide) (by decide)) (by decide) (by decide)
            obtain ⟨_, ⟨f_62, rfl⟩, o_c_61⟩ := hH q_58 _ kq_58
            refine hg_iald hx hb hK o_c_61 (rg_in (n := 40) rx_60 (by decide) (by decide)) dX8_value_80 ?_
            refine lv_topi (fun x_63 ex_63 => ?_)
            refine lv_ineg hx hb dX8_value_81 ?_
            refine lv_topi (fun x_64 ex_64 => ?_)
            refine hg_iast hx hb hK hS o_c_61 (AF.of kq_58) (rg_in (n := 40) rx_59 (by decide) (by decide)) dX8_value_82 (fun H locs o_c_61 hz oq hS => ?_)
            generalize hff_65 : upd f_62 _ x_64 = f_65 at o_c_61
            have hH : HT g Ty G H := hH.put kq_58 ⟨_, rfl⟩ o_c_61 oq
            have o_c_48 := o_c_48.kept (oq _ (ne_kd k_h0 kq_58 (by decide)))
            clear oq hz
            refine lv_goto (tgt := 131) hx hb dX8_value_83 (by decide) ?_
            exact L_131 H locs y1_4 ls (rg_w r_47 (by decide) (by decide)) ry2_55 (lv_sub hl [0, 1, 2] rfl) hH hS
      refine lv_iload_n hx hb dX8_value_4 rfl (lv_at hl 2 rfl) ?_
      refine lv_aload_n hx hb dX8_value_5 rfl (lv_at hl 0 rfl) ?_
      obtain ⟨_, ⟨q_67, q_68, q_69, q_70, q_71, q_72, q_73, q_74, q_75, q_76, rfl, kq_67, kq_69, kq_75, kq_76, rq_68, rq_71⟩, o_c_66⟩ := hH h0 _ k_h0
      refine hg_get hx hb hG igX8 hown hK o_c_66 rfl 1 (by decide) (hG _ mw_203) rfl dX8_value_6 ?_
      refine lv_icmp_ge (tgt := 137) hx hb dX8_value_9 (by decide) (fun c_77 => ?_) (fun c_77 => ?_)
      · exact L_137 H locs ls (lv_sub hl [0] rfl) hH hS
      · have r_78 : rgI (0) (39) y2_4 := rg_w (rg_ltL ry2_4 rq_68 (nle_lt c_77)) (by decide) (by decide)
        have r_79 : rgI (1) (40) q_68 := rg_w (rg_ltR ry2_4 rq_68 (nle_lt c_77)) (by decide) (by decide)
        refine lv_iload_n hx hb dX8_value_12 rfl (lv_at hl 2 rfl) ?_
        refine lv_bipush (v := 40) hx hb dX8_value_13 (by decide) ?_
        refine lv_icmp_ge (tgt := 137) hx hb dX8_value_15 (by decide) (fun c_80 => ?_) (fun c_80 => ?_)
        · exact rg_no2 rl_40 r_78 c_80 (by decide)
        · refine lv_aload_n hx hb dX8_value_18 rfl (lv_at hl 0 rfl) ?_
          refine hg_get hx hb hG igX8 hown hK o_c_66 rfl 0 (by decide) (hG _ mw_202) rfl dX8_value_19 ?_
          refine lv_iload_n hx hb dX8_value_22 rfl (lv_at hl 2 rfl) ?_
          obtain ⟨_, ⟨f_82, rfl⟩, o_c_81⟩ := hH q_67 _ kq_67
          refine hg_iald hx hb hK o_c_81 (rg_in (n := 40) r_78 (by decide) (by decide)) dX8_value_23 ?_
          refine lv_topi (fun x_83 ex_83 => ?_)
          refine lv_istore_n (lv' := [(3, .int x_83), (0, .ref h0), (1, .int y1_4), (2, .int y2_4)]) hx hb dX8_value_24 rfl hl (by decide) rfl (fun ls hl => ?_)
          refine lv_iload_n hx hb dX8_value_25 rfl (lv_at hl 0 rfl) ?_
          refine lv_sipush (v := 2000) hx hb dX8_value_26 (by decide) ?_
          refine lv_icmp_ge (tgt := 55) hx hb dX8_value_29 (by decide) (fun c_84 => ?_) (fun c_84 => ?_)
          · have r_85 : rgI (2000) (2147483647) x_83 := rg_w (rg_leR rl_2000 (rg_top x_83) c_84) (by decide) (by decide)
            exact L_55 H locs x_83 ls ry1_4 r_78 (lv_sub hl [1, 2, 3, 0] rfl) hH hS
          · have r_86 : rgI (-2147483648) (1999) x_83 := rg_w (rg_ltL (rg_top x_83) rl_2000 (nle_lt c_84)) (by decide) (by decide)
            refine lv_iload_n hx hb dX8_value_32 rfl (lv_at hl 2 rfl) ?_
            refine lv_bipush (v := 40) hx hb dX8_value_33 (by decide) ?_
            refine lv_icmp_ge (tgt := 55) hx hb dX8_value_35 (by decide) (fun c_87 => ?_) (fun c_87 => ?_)
            · have r_88 : rgI (40) (40) y1_4 := rg_w (rg_leR rl_40 ry1_4 c_87) (by decide) (by decide)
              exact L_55 H locs x_83 ls (rg_w r_88 (by decide) (by decide)) r_78 (lv_sub hl [1, 2, 3, 0] rfl) hH hS
            · have r_89 : rgI (0) (39) y1_4 := rg_w (rg_ltL ry1_4 rl_40 (nle_lt c_87)) (by decide) (by decide)
              refine lv_aload_n hx hb dX8_value_38 rfl (lv_at hl 1 rfl) ?_
              refine hg_get hx hb hG igX8 hown hK o_c_66 rfl 9 (by decide) (hG _ mw_211) rfl dX8_value_39 ?_
              refine lv_iload_n hx hb dX8_value_42 rfl (lv_at hl 2 rfl) ?_
              refine lv_aload_n hx hb dX8_value_43 rfl (lv_at hl 1 rfl) ?_
              refine lv_iload_n hx hb dX8_value_44 rfl (lv_at hl 0 rfl) ?_
              refine vp_callSi (W.runV (As := [.int x_83]) (rest := [.int y1_4, .ref q_76]) ⟨hx, hb, hml, hown, hts⟩ (c_X8_thing l g Ty G h0 x_83 k_h0) (cwV 1 hts (gwV mw_701 mw_703 mw_11 mw_81 mw_704) rfl rfl rfl hv_X8_thing ⟨Nat.le_of_ble_eq_true rfl, Nat.le_of_ble_eq_true rfl⟩) ⟨PcH_blind, hg_recv hK o_c_66 rfl, PcH_pre hK hH⟩ rfl rfl hl.1 rfl (lv_room (Nat.le_of_ble_eq_true rfl)) dX8_value_45 ⟨Nat.zero_le _, Nat.zero_le _⟩) (fun x_90 hx_90 => ?_)
              obtain ⟨_, ⟨f_92, rfl⟩, o_c_91⟩ := hH q_76 _ kq_76
              refine hg_iast hx hb hK hS o_c_91 (AF.of kq_76) (rg_in (n := 40) r_89 (by decide) (by decide)) dX8_value_48 (fun H locs o_c_91 hz oq hS => ?_)
              generalize hff_93 : upd f_92 _ x_90 = f_93 at o_c_91
              have hH : HT g Ty G H := hH.put kq_76 ⟨_, rfl⟩ o_c_91 oq
              have o_c_66 := o_c_66.kept (oq _ (ne_kd k_h0 kq_76 (by decide)))
              clear oq hz
              obtain ⟨x_94, ex_94⟩ : ∃ y : Int32, y = y1_4 + 1 := ⟨_, rfl⟩
              have rx_94 : rgI (1) (40) x_94 := by rw [ex_94]; exact rg_w (rg_add r_89 rl_1 (by decide) (by decide)) (by decide) (by decide)
              have qx_94 : x_94.toInt = (y1_4 : Int32).toInt + 1 := by rw [ex_94]; exact rg_addE r_89 rl_1 (by decide) (by decide)
              refine lv_iinc (v := x_94) (lv' := [(1, .int x_94), (3, .int x_83), (0, .ref h0), (2, .int y2_4)]) hx hb dX8_value_49 hl (k := 2) rfl (by rw [ex_94]; rfl) (by decide) rfl (fun ls hl => ?_)
              refine lv_goto (tgt := 131) hx hb dX8_value_52 (by decide) ?_
              exact L_131 H locs x_94 ls (rg_w rx_94 (by decide) (by decide)) r_78 (lv_sub hl [2, 0, 3] rfl) hH hS
  refine lv_iconst (v := 0) hx hb dX8_value_0 (by decide) ?_
  refine lv_istore_n (lv' := [(1, .int 0), (0, .ref h0)]) hx hb dX8_value_1 rfl hl (by decide) rfl (fun ls hl => ?_)
  refine lv_iconst (v := 0) hx hb dX8_value_2 (by decide) ?_
  refine lv_istore_n (lv' := [(2, .int 0), (1, .int 0), (0, .ref h0)]) hx hb dX8_value_3 rfl hl (by decide) rfl (fun ls hl => ?_)
  exact L_4 _ s.heap [] 0 0 ls (rg_w rl_0 (by decide) (by decide)) (rg_w rl_0 (by decide) (by decide)) (Nat.lt_succ_self _) (lv_sub hl [2, 1, 0] rfl) hH hS

set_option maxHeartbeats 4000000 in
set_option maxRecDepth 100000 in
theorem c_X8_lookAt (l : Launch) (g : Gx) (Ty : TyM) (G : Gh) (sz : Nat) (h0 : Nat) (b0 : Nat) (a1 : Int32) (a2 : Int32) (k_h0 : Ty h0 = some (18, 0)) (k_b0 : Ty b0 = some (20, 0)) : Met l yX8_lookAt (wsG yX8_lookAt cX8_lookAt 4 none) ({ frames := 2, cells := 0, slots := 0, locals := 45 }) (PcT g Ty G sz [.ref h0, .ref b0, .int a1, .int a2]) (QwV g Ty sz (fun u => u = (Ty, G))) 0 0 (AF Ty sz) := by
  refine Met.ofW (cc := cX8_lookAt) (maxL := 4) (ret := none) (by decide) rfl ?_
  intro p e s m args below meth c s₁ B hml hv
  obtain ⟨rfl, hsz, hK, hH⟩ := hv
  subst hsz
  have hx := B.exec
  have hb := B.bytes
  have hr := B.returns
  have hts := atoms_spec (ws := (wsG yX8_lookAt cX8_lookAt 4 none)) B.pre
  have hG : ∀ w ∈ GW, w.before ([.ref h0, .ref b0, .int a1, .int a2] : List Value).toArray s = true := fun w h => hts w (List.mem_cons_of_mem _ h)
  have hown : s.vm.findClass RX8 = some m.cls := findClass_of_methodNamed B.named
  have hlocks := B.notSynchronized
  have hl := lv_entry [.ref h0, .ref b0, .int a1, .int a2] (n := 4) (Nat.le_of_ble_eq_true rfl)
  rw [lg_entry_eq]
  generalize (lg_sl [.ref h0, .ref b0, .int a1, .int a2] ++ List.replicate (4 - (lg_sl [.ref h0, .ref b0, .int a1, .int a2]).length) Slot.unset).toArray = ls at hl ⊢
  have hl : lv_has ls 4 [(0, .ref h0), (1, .ref b0), (2, .int a1), (3, .int a2)] := hl
  have hS : va_S (AF Ty s.heap.size) s.heap s.heap [] := va_S.rf
  refine lv_aload_n hx hb dX8_lookAt_0 rfl (lv_at hl 0 rfl) ?_
  obtain ⟨_, ⟨q_2, q_3, q_4, q_5, q_6, q_7, q_8, q_9, q_10, q_11, rfl, kq_2, kq_4, kq_10, kq_11, rq_3, rq_6⟩, o_c_1⟩ := hH h0 _ k_h0
  refine hg_get hx hb hG igX8 hown hK o_c_1 rfl 8 (by decide) (hG _ mw_210) rfl dX8_lookAt_1 ?_
  refine lv_iconst (v := 0) hx hb dX8_lookAt_4 (by decide) ?_
  refine lv_aload_n hx hb dX8_lookAt_5 rfl (lv_at hl 1 rfl) ?_
  refine lv_iload_n hx hb dX8_lookAt_6 rfl (lv_at hl 2 rfl) ?_
  obtain ⟨_, ⟨q_13, q_14, q_15, q_16, q_17, q_18, q_19, rfl, kq_13, kq_14, kq_15⟩, o_c_12⟩ := hH b0 _ k_b0
  refine vp_callSi (W.runV (As := [.int a1]) (rest := [.int 0, .ref q_10]) ⟨hx, hb, hml, hown, hts⟩ (c_X10_stepsTo l g Ty G b0 a1 k_b0) (cwV 1 hts (gwV mw_678 mw_679 mw_680 mw_77 mw_681) rfl rfl rfl hv_X10_stepsTo ⟨Nat.le_of_ble_eq_true rfl, Nat.le_of_ble_eq_true rfl⟩) ⟨PcH_blind, hg_recv hK o_c_12 rfl, PcH_pre hK hH⟩ rfl rfl hl.1 rfl (lv_room (Nat.le_of_ble_eq_true rfl)) dX8_lookAt_7 ⟨Nat.zero_le _, Nat.zero_le _⟩) (fun x_20 hx_20 => ?_)
  obtain ⟨_, ⟨f_22, rfl⟩, o_c_21⟩ := hH q_10 _ kq_10
  refine hg_iast hx hb hK hS o_c_21 (AF.of kq_10) (rg_in (n := 7) rl_0 (by decide) (by decide)) dX8_lookAt_10 (fun H locs o_c_21 hz oq hS => ?_)
  generalize hff_23 : upd f_22 _ x_20 = f_23 at o_c_21
  have hH : HT g Ty G H := hH.put kq_10 ⟨_, rfl⟩ o_c_21 oq
  have o_c_1 := o_c_1.kept (oq _ (ne_kd k_h0 kq_10 (by decide)))
  have o_c_12 := o_c_12.kept (oq _ (ne_kd k_b0 kq_10 (by decide)))
  clear oq hz
  refine lv_aload_n hx hb dX8_lookAt_11 rfl (lv_at hl 0 rfl) ?_
  refine hg_get hx hb hG igX8 hown hK o_c_1 rfl 8 (by decide) (hG _ mw_210) rfl dX8_lookAt_12 ?_
  refine lv_iconst (v := 1) hx hb dX8_lookAt_15 (by decide) ?_
  refine lv_aload_n hx hb dX8_lookAt_16 rfl (lv_at hl 1 rfl) ?_
  refine lv_iload_n hx hb dX8_lookAt_17 rfl (lv_at hl 2 rfl) ?_
  refine vp_callSi (W.runV (As := [.int a1]) (rest := [.int 1, .ref q_10]) ⟨hx, hb, hml, hown, hts⟩ (c_X10_childrenOf l g Ty G b0 a1 k_b0) (cwV 1 hts (gwV mw_686 mw_687 mw_688 mw_77 mw_689) rfl rfl rfl hv_X10_childrenOf ⟨Nat.le_of_ble_eq_true rfl, Nat.le_of_ble_eq_true rfl⟩) ⟨PcH_blind, hg_recv hK o_c_12 rfl, PcH_pre hK hH⟩ rfl rfl hl.1 rfl (lv_room (Nat.le_of_ble_eq_true rfl)) dX8_lookAt_18 ⟨Nat.zero_le _, Nat.zero_le _⟩) (fun x_24 hx_24 => ?_)
  refine vp_callSi (W.runS (As := [.int x_24]) (rest := [.int 1, .ref q_10]) ⟨hx, hb, hml, hown, hts⟩ (c_J6_bitCount_0f7a4 l g Ty G x_24 ) (cwSx 1 hts hG (gwC mw_620) mw_99 mw_690 mw_619 rfl rfl rfl hd_J6_bitCount_0f7a4 ⟨Nat.le_of_ble_eq_true rfl, Nat.le_of_ble_eq_true rfl⟩) ⟨PcH_blind, PcH_pre hK hH⟩ rfl rfl hl.1 rfl (lv_room (Nat.le_of_ble_eq_true rfl)) dX8_lookAt_21 ⟨Nat.zero_le _, Nat.zero_le _⟩) (fun x_25 hx_25 => ?_)
  refine hg_iast hx hb hK hS o_c_21 (AF.of kq_10) (rg_in (n := 7) rl_1 (by decide) (by decide)) dX8_lookAt_24 (fun H locs o_c_21 hz oq hS => ?_)
  generalize hff_26 : upd f_23 _ x_25 = f_26 at o_c_21
  have hH : HT g Ty G H := hH.put kq_10 ⟨_, rfl⟩ o_c_21 oq
  have o_c_1 := o_c_1.kept (oq _ (ne_kd k_h0 kq_10 (by decide)))
  have o_c_12 := o_c_12.kept (oq _ (ne_kd k_b0 kq_10 (by decide)))
  clear oq hz
  refine lv_aload_n hx hb dX8_lookAt_25 rfl (lv_at hl 0 rfl) ?_
  refine hg_get hx hb hG igX8 hown hK o_c_1 rfl 8 (by decide) (hG _ mw_210) rfl dX8_lookAt_26 ?_
  refine lv_iconst (v := 2) hx hb dX8_lookAt_29 (by decide) ?_
  refine lv_aload_n hx hb dX8_lookAt_30 rfl (lv_at hl 1 rfl) ?_
  refine lv_aload_n hx hb dX8_lookAt_31 rfl (lv_at hl 1 rfl) ?_
  refine lv_iload_n hx hb dX8_lookAt_32 rfl (lv_at hl 2 rfl) ?_
  refine vp_callSi (W.runV (As := [.int a1]) (rest := [.ref b0, .int 2, .ref q_10]) ⟨hx, hb, hml, hown, hts⟩ (c_X10_groupOf l g Ty G b0 a1 k_b0) (cwV 1 hts (gwV mw_691 mw_608 mw_609 mw_77 mw_610) rfl rfl rfl hv_X10_groupOf ⟨Nat.le_of_ble_eq_true rfl, Nat.le_of_ble_eq_true rfl⟩) ⟨PcH_blind, hg_recv hK o_c_12 rfl, PcH_pre hK hH⟩ rfl rfl hl.1 rfl (lv_room (Nat.le_of_ble_eq_true rfl)) dX8_lookAt_33 ⟨Nat.zero_le _, Nat.zero_le _⟩) (fun x_27 hx_27 => ?_)
  refine vp_callSi (W.runV (As := [.int x_27]) (rest := [.int 2, .ref q_10]) ⟨hx, hb, hml, hown, hts⟩ (c_X10_withGroup l g Ty G b0 x_27 k_b0) (cwV 1 hts (gwV mw_692 mw_659 mw_660 mw_77 mw_661) rfl rfl rfl hv_X10_withGroup ⟨Nat.le_of_ble_eq_true rfl, Nat.le_of_ble_eq_true rfl⟩) ⟨PcH_blind, hg_recv hK o_c_12 rfl, PcH_pre hK hH⟩ rfl rfl hl.1 rfl (lv_room (Nat.le_of_ble_eq_true rfl)) dX8_lookAt_36 ⟨Nat.zero_le _, Nat.zero_le _⟩) (fun x_28 hx_28 => ?_)
  refine vp_callSi (W.runS (As := [.int x_28]) (rest := [.int 2, .ref q_10]) ⟨hx, hb, hml, hown, hts⟩ (c_J6_bitCount_0f7a4 l g Ty G x_28 ) (cwSx 1 hts hG (gwC mw_620) mw_99 mw_690 mw_619 rfl rfl rfl hd_J6_bitCount_0f7a4 ⟨Nat.le_of_ble_eq_true rfl, Nat.le_of_ble_eq_true rfl⟩) ⟨PcH_blind, PcH_pre hK hH⟩ rfl rfl hl.1 rfl (lv_room (Nat.le_of_ble_eq_true rfl)) dX8_lookAt_39 ⟨Nat.zero_le _, Nat.zero_le _⟩) (fun x_29 hx_29 => ?_)
  refine hg_iast hx hb hK hS o_c_21 (AF.of kq_10) (rg_in (n := 7) rl_2 (by decide) (by decide)) dX8_lookAt_42 (fun H locs o_c_21 hz oq hS => ?_)
  generalize hff_30 : upd f_26 _ x_29 = f_30 at o_c_21
  have hH : HT g Ty G H := hH.put kq_10 ⟨_, rfl⟩ o_c_21 oq
  have o_c_1 := o_c_1.kept (oq _ (ne_kd k_h0 kq_10 (by decide)))
  have o_c_12 := o_c_12.kept (oq _ (ne_kd k_b0 kq_10 (by decide)))
  clear oq hz
  refine lv_aload_n hx hb dX8_lookAt_43 rfl (lv_at hl 0 rfl) ?_
  refine hg_get hx hb hG igX8 hown hK o_c_1 rfl 8 (by decide) (hG _ mw_210) rfl dX8_lookAt_44 ?_
  refine lv_iconst (v := 3) hx hb dX8_lookAt_47 (by decide) ?_
  refine lv_iload_n hx hb dX8_lookAt_48 rfl (lv_at hl 2 rfl) ?_
  refine hg_iast hx hb hK hS o_c_21 (AF.of kq_10) (rg_in (n := 7) rl_3 (by decide) (by decide)) dX8_lookAt_49 (fun H locs o_c_21 hz oq hS => ?_)
  generalize hff_31 : upd f_30 _ a1 = f_31 at o_c_21
  have hH : HT g Ty G H := hH.put kq_10 ⟨_, rfl⟩ o_c_21 oq
  have o_c_1 := o_c_1.kept (oq _ (ne_kd k_h0 kq_10 (by decide)))
  have o_c_12 := o_c_12.kept (oq _ (ne_kd k_b0 kq_10 (by decide)))
  clear oq hz
  refine lv_aload_n hx hb dX8_lookAt_50 rfl (lv_at hl 0 rfl) ?_
  refine hg_get hx hb hG igX8 hown hK o_c_1 rfl 8 (by decide) (hG _ mw_210) rfl dX8_lookAt_51 ?_
  refine lv_iconst (v := 4) hx hb dX8_lookAt_54 (by decide) ?_
  refine lv_iload_n hx hb dX8_lookAt_55 rfl (lv_at hl 3 rfl) ?_
  refine hg_iast hx hb hK hS o_c_21 (AF.of kq_10) (rg_in (n := 7) rl_4 (by decide) (by decide)) dX8_lookAt_56 (fun H locs o_c_21 hz oq hS => ?_)
  generalize hff_32 : upd f_31 _ a2 = f_32 at o_c_21
  have hH : HT g Ty G H := hH.put kq_10 ⟨_, rfl⟩ o_c_21 oq
  have o_c_1 := o_c_1.kept (oq _ (ne_kd k_h0 kq_10 (by decide)))
  have o_c_12 := o_c_12.kept (oq _ (ne_kd k_b0 kq_10 (by decide)))
  clear oq hz
  refine lv_aload_n hx hb dX8_lookAt_57 rfl (lv_at hl 0 rfl) ?_
  refine hg_get hx hb hG igX8 hown hK o_c_1 rfl 8 (by decide) (hG _ mw_210) rfl dX8_lookAt_58 ?_
  refine lv_iconst (v := 5) hx hb dX8_lookAt_61 (by decide) ?_
  refine lv_aload_n hx hb dX8_lookAt_62 rfl (lv_at hl 1 rfl) ?_
  refine hg_getN hx hb hG igX10 hown hK o_c_12 rfl 5 (by decide) ((hK.2.1 _ nwf_126).use rfl) rfl dX8_lookAt_63 ?_
  refine lv_bipush (v := 7) hx hb dX8_lookAt_66 (by decide) ?_
  refine lv_irem hx hb dX8_lookAt_68 (by decide) ?_
  refine lv_topi (fun x_33 ex_33 => ?_)
  refine hg_iast hx hb hK hS o_c_21 (AF.of kq_10) (rg_in (n := 7) rl_5 (by decide) (by decide)) dX8_lookAt_69 (fun H locs o_c_21 hz oq hS => ?_)
  generalize hff_34 : upd f_32 _ x_33 = f_34 at o_c_21
  have hH : HT g Ty G H := hH.put kq_10 ⟨_, rfl⟩ o_c_21 oq
  have o_c_1 := o_c_1.kept (oq _ (ne_kd k_h0 kq_10 (by decide)))
  have o_c_12 := o_c_12.kept (oq _ (ne_kd k_b0 kq_10 (by decide)))
  clear oq hz
  refine lv_aload_n hx hb dX8_lookAt_70 rfl (lv_at hl 0 rfl) ?_
  refine hg_get hx hb hG igX8 hown hK o_c_1 rfl 8 (by decide) (hG _ mw_210) rfl dX8_lookAt_71 ?_
  refine lv_bipush (v := 6) hx hb dX8_lookAt_74 (by decide) ?_
  refine lv_aload_n hx hb dX8_lookAt_76 rfl (lv_at hl 1 rfl) ?_
  refine lv_iload_n hx hb dX8_lookAt_77 rfl (lv_at hl 2 rfl) ?_
  refine vp_callSi (W.runV (As := [.int a1]) (rest := [.int 6, .ref q_10]) ⟨hx, hb, hml, hown, hts⟩ (c_X10_kindOf l g Ty G b0 a1 k_b0) (cwV 1 hts (gwV mw_693 mw_694 mw_695 mw_77 mw_696) rfl rfl rfl hv_X10_kindOf ⟨Nat.le_of_ble_eq_true rfl, Nat.le_of_ble_eq_true rfl⟩) ⟨PcH_blind, hg_recv hK o_c_12 rfl, PcH_pre hK hH⟩ rfl rfl hl.1 rfl (lv_room (Nat.le_of_ble_eq_true rfl)) dX8_lookAt_78 ⟨Nat.zero_le _, Nat.zero_le _⟩) (fun x_35 hx_35 => ?_)
  refine hg_iast hx hb hK hS o_c_21 (AF.of kq_10) (rg_in (n := 7) rl_6 (by decide) (by decide)) dX8_lookAt_81 (fun H locs o_c_21 hz oq hS => ?_)
  generalize hff_36 : upd f_34 _ x_35 = f_36 at o_c_21
  have hH : HT g Ty G H := hH.put kq_10 ⟨_, rfl⟩ o_c_21 oq
  have o_c_1 := o_c_1.kept (oq _ (ne_kd k_h0 kq_10 (by decide)))
  have o_c_12 := o_c_12.kept (oq _ (ne_kd k_b0 kq_10 (by decide)))
  clear oq hz
  exact W.vret hx hb hr (fun t ht hWm => ⟨⟨(Ty, G), rfl, rfl, by show HT g Ty G t.heap; rw [ht]; exact hH⟩, hS.F ht⟩) hS.2.2 dX8_lookAt_82

set_option maxHeartbeats 4000000 in
set_option maxRecDepth 100000 in
theorem c_X8_letting (l : Launch) (g : Gx) (Ty : TyM) (G : Gh) (sz : Nat) (h0 : Nat) (b0 : Nat) (a1 : Int32) (k_h0 : Ty h0 = some (18, 0)) (k_b0 : Ty b0 = some (20, 0)) : Met l yX8_letting (wsG yX8_letting cX8_letting 5 (some .int)) ({ frames := 3, cells := 0, slots := 0, locals := 68 }) (PcT g Ty G sz [.ref h0, .ref b0, .int a1]) (QwI g Ty sz (fun r u => u = (Ty, G))) 0 0 (AF Ty sz) := by
  refine Met.ofW (cc := cX8_letting) (maxL := 5) (ret := (some .int)) (by decide) rfl ?_
  intro p e s m args below meth c s₁ B hml hv
  obtain ⟨rfl, hsz, hK, hH⟩ := hv
  subst hsz
  have hx := B.exec
  have hb := B.bytes
  have hr := B.returns
  have hts := atoms_spec (ws := (wsG yX8_letting cX8_letting 5 (some .int))) B.pre
  have hG : ∀ w ∈ GW, w.before ([.ref h0, .ref b0, .int a1] : List Value).toArray s = true := fun w h => hts w (List.mem_cons_of_mem _ h)
  have hown : s.vm.findClass RX8 = some m.cls := findClass_of_methodNamed B.named
  have hlocks := B.notSynchronized
  have hl := lv_entry [.ref h0, .ref b0, .int a1] (n := 5) (Nat.le_of_ble_eq_true rfl)
  rw [lg_entry_eq]
  generalize (lg_sl [.ref h0, .ref b0, .int a1] ++ List.replicate (5 - (lg_sl [.ref h0, .ref b0, .int a1]).length) Slot.unset).toArray = ls at hl ⊢
  have hl : lv_has ls 5 [(0, .ref h0), (1, .ref b0), (2, .int a1)] := hl
  have hS : va_S (AF Ty s.heap.size) s.heap s.heap [] := va_S.rf
  have L_17 : ∀ (n : Nat) (H : Heap) (locs : List Loc) (y3_17 : Int32) (y4_17 : Int32) (ls : Array Slot), rgI (0) (24) y4_17 → (24 - (y4_17).toInt).toNat < n → lv_has ls 5 [(0, .ref h0), (1, .ref b0), (2, .int a1), (3, .int y3_17), (4, .int y4_17)] → HT g Ty G H → va_S (AF Ty s.heap.size) s.heap H locs → Wm p l e (wsG yX8_letting cX8_letting 5 (some .int)) ({ frames := 3, cells := 0, slots := 0, locals := 68 }) s m [.ref h0, .ref b0, .int a1] below meth c H locs (0) (0) (QwI g Ty s.heap.size (fun r u => u = (Ty, G))) 0 0 (AF Ty s.heap.size) (F0 m 17 ls []) := by
    intro n
    induction n with
    | zero => intro H locs y3_17 y4_17 ls ry4_17 hm; exact absurd hm (Nat.not_lt_zero _)
    | succ n ih_17 =>
      intro H locs y3_17 y4_17 ls ry4_17 hm_17 hl hH hS
      have L_55 : ∀ (H : Heap) (locs : List Loc) (y3_55 : Int32) (ls : Array Slot), rgI (0) (23) y4_17 → lv_has ls 5 [(0, .ref h0), (1, .ref b0), (2, .int a1), (3, .int y3_55), (4, .int y4_17)] → HT g Ty G H → va_S (AF Ty s.heap.size) s.heap H locs → Wm p l e (wsG yX8_letting cX8_letting 5 (some .int)) ({ frames := 3, cells := 0, slots := 0, locals := 68 }) s m [.ref h0, .ref b0, .int a1] below meth c H locs (0) (0) (QwI g Ty s.heap.size (fun r u => u = (Ty, G))) 0 0 (AF Ty s.heap.size) (F0 m 55 ls []) := by
        intro H locs y3_55 ls ry4_55 hl hH hS
        obtain ⟨x_1, ex_1⟩ : ∃ y : Int32, y = y4_17 + 1 := ⟨_, rfl⟩
        have rx_1 : rgI (1) (24) x_1 := by rw [ex_1]; exact rg_w (rg_add ry4_55 rl_1 (by decide) (by decide)) (by decide) (by decide)
        have qx_1 : x_1.toInt = (y4_17 : Int32).toInt + 1 := by rw [ex_1]; exact rg_addE ry4_55 rl_1 (by decide) (by decide)
        refine lv_iinc (v := x_1) (lv' := [(4, .int x_1), (0, .ref h0), (1, .ref b0), (2, .int a1), (3, .int y3_55)]) hx hb dX8_letting_55 hl (k := 4) rfl (by rw [ex_1]; rfl) (by decide) rfl (fun ls hl => ?_)
        refine lv_goto (tgt := 17) hx hb dX8_letting_58 (by decide) ?_
        exact ih_17 H locs y3_55 x_1 ls (rg_w rx_1 (by decide) (by decide)) (by have h1 := qx_1; have h2 := ry4_55.1; have h3 := ry4_55.2; have h4 := hm_17; omega) (lv_sub hl [1, 2, 3, 4, 0] rfl) hH hS
      refine lv_iload hx hb dX8_letting_17 (lv_at hl 4 rfl) ?_
      refine lv_bipush (v := 24) hx hb dX8_letting_19 (by decide) ?_
      refine lv_icmp_ge (tgt := 61) hx hb dX8_letting_21 (by decide) (fun c_2 => ?_) (fun c_2 => ?_)
      · have r_3 : rgI (24) (24) y4_17 := rg_w (rg_leR rl_24 ry4_17 c_2) (by decide) (by decide)
        refine lv_iload_n hx hb dX8_letting_61 rfl (lv_at hl 3 rfl) ?_
        exact W.iret hx hb hr (fun t ht hWm => ⟨⟨y3_17, (Ty, G), rfl, rfl, by show HT g Ty G t.heap; rw [ht]; exact hH⟩, hS.F ht⟩) hS.2.2 dX8_letting_62
      · have r_4 : rgI (0) (23) y4_17 := rg_w (rg_ltL ry4_17 rl_24 (nle_lt c_2)) (by decide) (by decide)
        refine lv_aload_n hx hb dX8_letting_24 rfl (lv_at hl 1 rfl) ?_
        refine lv_iload hx hb dX8_letting_25 (lv_at hl 4 rfl) ?_
        obtain ⟨_, ⟨q_6, q_7, q_8, q_9, q_10, q_11, q_12, rfl, kq_6, kq_7, kq_8⟩, o_c_5⟩ := hH b0 _ k_b0
        refine vp_callSi (W.runV (As := [.int y4_17]) (rest := []) ⟨hx, hb, hml, hown, hts⟩ (c_X10_has l g Ty G b0 y4_17 k_b0) (cwV 1 hts (gwV mw_673 mw_604 mw_605 mw_77 mw_606) rfl rfl rfl hv_X10_has ⟨Nat.le_of_ble_eq_true rfl, Nat.le_of_ble_eq_true rfl⟩) ⟨PcH_blind, hg_recv hK o_c_5 rfl, PcH_pre hK hH⟩ rfl rfl hl.1 rfl (lv_room (Nat.le_of_ble_eq_true rfl)) dX8_letting_27 ⟨Nat.zero_le _, Nat.zero_le _⟩) (fun x_13 hx_13 => ?_)
        have rx_13 : rgI (0) (1) x_13 := hx_13.1
        refine lv_if_eq (tgt := 55) hx hb dX8_letting_30 (by decide) (fun c_14 => ?_) (fun c_14 => ?_)
        · have r_15 : rgI (0) (0) x_13 := rg_w (rg_eq rl_0 c_14) (by decide) (by decide)
          exact L_55 H locs y3_17 ls r_4 (lv_sub hl [0, 1, 2, 3, 4] rfl) hH hS
        · have r_16 : rgI (1) (1) x_13 := rg_w (rg_neL rx_13 rl_0 c_14) (by decide) (by decide)
          refine lv_aload_n hx hb dX8_letting_33 rfl (lv_at hl 0 rfl) ?_
          refine lv_aload_n hx hb dX8_letting_34 rfl (lv_at hl 1 rfl) ?_
          refine lv_iload hx hb dX8_letting_35 (lv_at hl 4 rfl) ?_
          refine lv_iload_n hx hb dX8_letting_37 rfl (lv_at hl 2 rfl) ?_
          obtain ⟨_, ⟨q_18, q_19, q_20, q_21, q_22, q_23, q_24, q_25, q_26, q_27, rfl, kq_18, kq_20, kq_26, kq_27, rq_19, rq_22⟩, o_c_17⟩ := hH h0 _ k_h0
          refine va_callv (va_runV (As := [.ref b0, .int y4_17, .int a1]) (rest := []) ⟨hx, hb, hml, hown, hts⟩ (c_X8_lookAt l g Ty G H.size h0 b0 y4_17 a1 k_h0 k_b0) (cwV 3 hts (gwV mw_674 mw_676 mw_9 mw_81 mw_677) rfl rfl rfl hv_X8_lookAt ⟨Nat.le_of_ble_eq_true rfl, Nat.le_of_ble_eq_true rfl⟩) ⟨PcT_blind, hg_recv hK o_c_17 rfl, PcT_pre hK hH⟩ rfl rfl hl.1 rfl (lv_room (Nat.le_of_ble_eq_true rfl)) dX8_letting_38 ⟨Nat.zero_le _, Nat.zero_le _⟩) hS (fun q _ h => AF.mono hS.1 h) (fun q h => AF.mono hS.1 h) (fun ux_28 t H locs ht hvm hx_28 hB hz hk hS => ?_)
          have hH : HT g Ty G H := by rw [← ht]; rw [hx_28] at hB; exact hB
          refine lv_aload_n hx hb dX8_letting_41 rfl (lv_at hl 0 rfl) ?_
          obtain ⟨_, ⟨q_30, q_31, q_32, q_33, q_34, q_35, q_36, q_37, q_38, q_39, rfl, kq_30, kq_32, kq_38, kq_39, rq_31, rq_34⟩, o_c_29⟩ := hH h0 _ k_h0
          refine va_calli (va_runV (As := []) (rest := []) ⟨hx, hb, hml, hown, hts⟩ (c_X8_value l g Ty G H.size h0 k_h0) (cwV 0 hts (gwV mw_697 mw_699 mw_10 mw_81 mw_700) rfl rfl rfl hv_X8_value ⟨Nat.le_of_ble_eq_true rfl, Nat.le_of_ble_eq_true rfl⟩) ⟨PcT_blind, hg_recv hK o_c_29 rfl, PcT_pre hK hH⟩ rfl rfl hl.1 rfl (lv_room (Nat.le_of_ble_eq_true rfl)) dX8_letting_42 ⟨Nat.zero_le _, Nat.zero_le _⟩) hS (fun q _ h => AF.mono hS.1 h) (fun q h => AF.mono hS.1 h) (fun x_40 ux_40 t H locs ht hvm hx_40 hB hz hk hS => ?_)
          have hH : HT g Ty G H := by rw [← ht]; rw [hx_40] at hB; exact hB
          refine lv_if_le (tgt := 55) hx hb dX8_letting_45 (by decide) (fun c_41 => ?_) (fun c_41 => ?_)
          · have r_42 : rgI (-2147483648) (0) x_40 := rg_w (rg_leL (rg_top x_40) rl_0 c_41) (by decide) (by decide)
            exact L_55 H locs y3_17 ls r_4 (lv_sub hl [0, 1, 2, 3, 4] rfl) hH hS
          · have r_43 : rgI (1) (2147483647) x_40 := rg_w (rg_ltR rl_0 (rg_top x_40) (nle_lt c_41)) (by decide) (by decide)
            refine lv_iload_n hx hb dX8_letting_48 rfl (lv_at hl 3 rfl) ?_
            refine lv_iconst (v := 1) hx hb dX8_letting_49 (by decide) ?_
            refine lv_iload hx hb dX8_letting_50 (lv_at hl 4 rfl) ?_
            refine lv_ishl hx hb dX8_letting_52 ?_
            refine lv_topi (fun x_44 ex_44 => ?_)
            refine lv_ior hx hb dX8_letting_53 ?_
            refine lv_topi (fun x_45 ex_45 => ?_)
            refine lv_istore_n (lv' := [(3, .int x_45), (0, .ref h0), (1, .ref b0), (2, .int a1), (4, .int y4_17)]) hx hb dX8_letting_54 rfl hl (by decide) rfl (fun ls hl => ?_)
            exact L_55 H locs x_45 ls r_4 (lv_sub hl [1, 2, 3, 0, 4] rfl) hH hS
  refine lv_aload_n hx hb dX8_letting_0 rfl (lv_at hl 0 rfl) ?_
  obtain ⟨_, ⟨q_47, q_48, q_49, q_50, q_51, q_52, q_53, q_54, q_55, q_56, rfl, kq_47, kq_49, kq_55, kq_56, rq_48, rq_51⟩, o_c_46⟩ := hH h0 _ k_h0
  refine hg_get hx hb hG igX8 hown hK o_c_46 rfl 1 (by decide) (hG _ mw_203) rfl dX8_letting_1 ?_
  refine lv_if_ne (tgt := 12) hx hb dX8_letting_4 (by decide) (fun c_57 => ?_) (fun c_57 => ?_)
  · have r_58 : rgI (1) (40) q_48 := rg_w (rg_neL rq_48 rl_0 c_57) (by decide) (by decide)
    refine lv_iconst (v := 0) hx hb dX8_letting_12 (by decide) ?_
    refine lv_istore_n (lv' := [(3, .int 0), (0, .ref h0), (1, .ref b0), (2, .int a1)]) hx hb dX8_letting_13 rfl hl (by decide) rfl (fun ls hl => ?_)
    refine lv_iconst (v := 0) hx hb dX8_letting_14 (by decide) ?_
    refine lv_istore (lv' := [(4, .int 0), (3, .int 0), (0, .ref h0), (1, .ref b0), (2, .int a1)]) hx hb dX8_letting_15 hl (by decide) rfl (fun ls hl => ?_)
    exact L_17 _ s.heap [] 0 0 ls (rg_w rl_0 (by decide) (by decide)) (Nat.lt_succ_self _) (lv_sub hl [2, 3, 4, 1, 0] rfl) hH hS
  · have r_59 : rgI (0) (0) q_48 := rg_w (rg_eq rl_0 c_57) (by decide) (by decide)
    refine lv_aload_n hx hb dX8_letting_7 rfl (lv_at hl 1 rfl) ?_
    obtain ⟨_, ⟨q_61, q_62, q_63, q_64, q_65, q_66, q_67, rfl, kq_61, kq_62, kq_63⟩, o_c_60⟩ := hH b0 _ k_b0
    refine hg_getN hx hb hG igX10 hown hK o_c_60 rfl 3 (by decide) ((hK.2.1 _ nwf_120).use rfl) rfl dX8_letting_8 ?_
    exact W.iret hx hb hr (fun t ht hWm => ⟨⟨q_64, (Ty, G), rfl, rfl, by show HT g Ty G t.heap; rw [ht]; exact hH⟩, hS.F ht⟩) hS.2.2 dX8_letting_11

set_option maxHeartbeats 4000000 in
set_option maxRecDepth 100000 in
theorem c_X8_thing_o (l : Launch) (g : Gx) (Ty : TyM) (G : Gh) (h0 : Nat) (a0 : Int32) (k_h0 : Ty h0 = some (23, 0)) : Met l yX8_thing (wsG yX8_thing cX8_thing 3 (some .int)) ({ frames := 0, cells := 0, slots := 0, locals := 0 }) (PcH g Ty G [.ref h0, .int a0]) (vp_Si (fun r => True)) 0 0 (fun _ => False) := by
  refine Met.ofW (cc := cX8_thing) (maxL := 3) (ret := (some .int)) (by decide) rfl ?_
  intro p e s m args below meth c s₁ B hml hv
  obtain ⟨rfl, hK, hH⟩ := hv
  have hx := B.exec
  have hb := B.bytes
  have hr := B.returns
  have hts := atoms_spec (ws := (wsG yX8_thing cX8_thing 3 (some .int))) B.pre
  have hG : ∀ w ∈ GW, w.before ([.ref h0, .int a0] : List Value).toArray s = true := fun w h => hts w (List.mem_cons_of_mem _ h)
  have hown : s.vm.findClass RX8 = some m.cls := findClass_of_methodNamed B.named
  have hlocks := B.notSynchronized
  have hl := lv_entry [.ref h0, .int a0] (n := 3) (Nat.le_of_ble_eq_true rfl)
  rw [lg_entry_eq]
  generalize (lg_sl [.ref h0, .int a0] ++ List.replicate (3 - (lg_sl [.ref h0, .int a0]).length) Slot.unset).toArray = ls at hl ⊢
  have hl : lv_has ls 3 [(0, .ref h0), (1, .int a0)] := hl
  have L_16 : ∀ (ls : Array Slot), lv_has ls 3 [(1, .int a0)] → Wm p l e (wsG yX8_thing cX8_thing 3 (some .int)) ({ frames := 0, cells := 0, slots := 0, locals := 0 }) s m [.ref h0, .int a0] below meth c s.heap [] (0) (0) (vp_Si (fun r => True)) 0 0 (fun _ => False) (F0 m 16 ls []) := by
    intro ls hl
    refine lv_iload_n hx hb dX8_thing_16 rfl (lv_at hl 0 rfl) ?_
    refine lv_goto (tgt := 26) hx hb dX8_thing_17 (by decide) ?_
    exact W.iret hx hb hr (fun t ht hW => ⟨a0, rfl, trivial, ht⟩) (fun q h => by cases h) dX8_thing_26
  refine lv_iload_n hx hb dX8_thing_0 rfl (lv_at hl 1 rfl) ?_
  refine lv_sipush (v := 1000) hx hb dX8_thing_1 (by decide) ?_
  refine lv_isub hx hb dX8_thing_4 ?_
  refine lv_topi (fun x_1 ex_1 => ?_)
  refine lv_istore_n (lv' := [(2, .int x_1), (0, .ref h0), (1, .int a0)]) hx hb dX8_thing_5 rfl hl (by decide) rfl (fun ls hl => ?_)
  refine lv_iload_n hx hb dX8_thing_6 rfl (lv_at hl 0 rfl) ?_
  refine lv_if_lt (tgt := 16) hx hb dX8_thing_7 (by decide) (fun c_2 => ?_) (fun c_2 => ?_)
  · have r_3 : rgI (-2147483648) (-1) x_1 := rg_w (rg_ltL (rg_top x_1) rl_0 c_2) (by decide) (by decide)
    exact L_16  ls (lv_sub hl [2] rfl)
  · have r_4 : rgI (0) (2147483647) x_1 := rg_w (rg_leR rl_0 (rg_top x_1) (nlt_le c_2)) (by decide) (by decide)
    refine lv_iload_n hx hb dX8_thing_10 rfl (lv_at hl 0 rfl) ?_
    refine lv_bipush (v := 7) hx hb dX8_thing_11 (by decide) ?_
    refine lv_icmp_lt (tgt := 20) hx hb dX8_thing_13 (by decide) (fun c_5 => ?_) (fun c_5 => ?_)
    · have r_6 : rgI (0) (6) x_1 := rg_w (rg_ltL r_4 rl_7 c_5) (by decide) (by decide)
      refine lv_aload_n hx hb dX8_thing_20 rfl (lv_at hl 1 rfl) ?_
      obtain ⟨_, ⟨q_8, q_9, q_12, q_13, q_15, q_16, q_17, rfl, kq_8, kq_10, kq_16, kq_17, rq_9, rq_12, t_18⟩, o_c_7⟩ := hH h0 _ k_h0
      refine hg_get hx hb hG igX8 hown hK o_c_7 rfl 8 (by decide) (hG _ mw_210) rfl dX8_thing_21 ?_
      refine lv_iload_n hx hb dX8_thing_24 rfl (lv_at hl 0 rfl) ?_
      obtain ⟨_, ⟨f_20, rfl⟩, o_c_19⟩ := hH q_16 _ kq_16
      refine hg_iald hx hb hK o_c_19 (rg_in (n := 7) r_6 (by decide) (by decide)) dX8_thing_25 ?_
      refine lv_topi (fun x_21 ex_21 => ?_)
      exact W.iret hx hb hr (fun t ht hW => ⟨x_21, rfl, trivial, ht⟩) (fun q h => by cases h) dX8_thing_26
    · have r_22 : rgI (7) (2147483647) x_1 := rg_w (rg_leR rl_7 r_4 (nlt_le c_5)) (by decide) (by decide)
      exact L_16  ls (lv_sub hl [2] rfl)

set_option maxHeartbeats 4000000 in
set_option maxRecDepth 100000 in
theorem c_X8_value_o (l : Launch) (g : Gx) (Ty : TyM) (G : Gh) (sz : Nat) (h0 : Nat) (k_h0 : Ty h0 = some (23, 0)) : Met l yX8_value (wsG yX8_value cX8_value 4 (some .int)) ({ frames := 1, cells := 0, slots := 0, locals := 22 }) (PcT g Ty G sz [.ref h0]) (QwI g Ty sz (fun r u => u = (Ty, G))) 0 0 (AF Ty sz) := by
  refine Met.ofW (cc := cX8_value) (maxL := 4) (ret := (some .int)) (by decide) rfl ?_
  intro p e s m args below meth c s₁ B hml hv
  obtain ⟨rfl, hsz, hK, hH⟩ := hv
  subst hsz
  have hx := B.exec
  have hb := B.bytes
  have hr := B.returns
  have hts := atoms_spec (ws := (wsG yX8_value cX8_value 4 (some .int))) B.pre
  have hG : ∀ w ∈ GW, w.before ([.ref h0] : List Value).toArray s = true := fun w h => hts w (List.mem_cons_of_mem _ h)
  have hown : s.vm.findClass RX8 = some m.cls := findClass_of_methodNamed B.named
  have hlocks := B.notSynchronized
  have hl := lv_entry [.ref h0] (n := 4) (Nat.le_of_ble_eq_true rfl)
  rw [lg_entry_eq]
  generalize (lg_sl [.ref h0] ++ List.replicate (4 - (lg_sl [.ref h0]).length) Slot.unset).toArray = ls at hl ⊢
  have hl : lv_has ls 4 [(0, .ref h0)] := hl
  have hS : va_S (AF Ty s.heap.size) s.heap s.heap [] := va_S.rf
  have L_137 : ∀ (H : Heap) (locs : List Loc) (ls : Array Slot), lv_has ls 4 [(0, .ref h0)] → HT g Ty G H → va_S (AF Ty s.heap.size) s.heap H locs → Wm p l e (wsG yX8_value cX8_value 4 (some .int)) ({ frames := 1, cells := 0, slots := 0, locals := 22 }) s m [.ref h0] below meth c H locs (0) (0) (QwI g Ty s.heap.size (fun r u => u = (Ty, G))) 0 0 (AF Ty s.heap.size) (F0 m 137 ls []) := by
    intro H locs ls hl hH hS
    refine lv_aload_n hx hb dX8_value_137 rfl (lv_at hl 0 rfl) ?_
    obtain ⟨_, ⟨q_2, q_3, q_6, q_7, q_9, q_10, q_11, rfl, kq_2, kq_4, kq_10, kq_11, rq_3, rq_6, t_12⟩, o_c_1⟩ := hH h0 _ k_h0
    refine hg_get hx hb hG igX8 hown hK o_c_1 rfl 9 (by decide) (hG _ mw_211) rfl dX8_value_138 ?_
    refine lv_iconst (v := 0) hx hb dX8_value_141 (by decide) ?_
    obtain ⟨_, ⟨f_14, rfl⟩, o_c_13⟩ := hH q_11 _ kq_11
    refine hg_iald hx hb hK o_c_13 (rg_in (n := 40) rl_0 (by decide) (by decide)) dX8_value_142 ?_
    refine lv_topi (fun x_15 ex_15 => ?_)
    exact W.iret hx hb hr (fun t ht hWm => ⟨⟨x_15, (Ty, G), rfl, rfl, by show HT g Ty G t.heap; rw [ht]; exact hH⟩, hS.F ht⟩) hS.2.2 dX8_value_143
  have L_4 : ∀ (n : Nat) (H : Heap) (locs : List Loc) (y1_4 : Int32) (y2_4 : Int32) (ls : Array Slot), rgI (0) (40) y1_4 → rgI (0) (40) y2_4 → (40 - (y2_4).toInt).toNat < n → lv_has ls 4 [(0, .ref h0), (1, .int y1_4), (2, .int y2_4)] → HT g Ty G H → va_S (AF Ty s.heap.size) s.heap H locs → Wm p l e (wsG yX8_value cX8_value 4 (some .int)) ({ frames := 1, cells := 0, slots := 0, locals := 22 }) s m [.ref h0] below meth c H locs (0) (0) (QwI g Ty s.heap.size (fun r u => u = (Ty, G))) 0 0 (AF Ty s.heap.size) (F0 m 4 ls []) := by
    intro n
    induction n with
    | zero => intro H locs y1_4 y2_4 ls ry1_4 ry2_4 hm; exact absurd hm (Nat.not_lt_zero _)
    | succ n ih_4 =>
      intro H locs y1_4 y2_4 ls ry1_4 ry2_4 hm_4 hl hH hS
      have L_131 : ∀ (H : Heap) (locs : List Loc) (y1_131 : Int32) (ls : Array Slot), rgI (0) (40) y1_131 → rgI (0) (39) y2_4 → lv_has ls 4 [(0, .ref h0), (1, .int y1_131), (2, .int y2_4)] → HT g Ty G H → va_S (AF Ty s.heap.size) s.heap H locs → Wm p l e (wsG yX8_value cX8_value 4 (some .int)) ({ frames := 1, cells := 0, slots := 0, locals := 22 }) s m [.ref h0] below meth c H locs (0) (0) (QwI g Ty s.heap.size (fun r u => u = (Ty, G))) 0 0 (AF Ty s.heap.size) (F0 m 131 ls []) := by
        intro H locs y1_131 ls ry1_131 ry2_131 hl hH hS
        obtain ⟨x_16, ex_16⟩ : ∃ y : Int32, y = y2_4 + 1 := ⟨_, rfl⟩
        have rx_16 : rgI (1) (40) x_16 := by rw [ex_16]; exact rg_w (rg_add ry2_131 rl_1 (by decide) (by decide)) (by decide) (by decide)
        have qx_16 : x_16.toInt = (y2_4 : Int32).toInt + 1 := by rw [ex_16]; exact rg_addE ry2_131 rl_1 (by decide) (by decide)
        refine lv_iinc (v := x_16) (lv' := [(2, .int x_16), (0, .ref h0), (1, .int y1_131)]) hx hb dX8_value_131 hl (k := 2) rfl (by rw [ex_16]; rfl) (by decide) rfl (fun ls hl => ?_)
        refine lv_goto (tgt := 4) hx hb dX8_value_134 (by decide) ?_
        exact ih_4 H locs y1_131 x_16 ls ry1_131 (rg_w rx_16 (by decide) (by decide)) (by have h1 := qx_16; have h2 := ry2_131.1; have h3 := ry2_131.2; have h4 := hm_4; omega) (lv_sub hl [1, 2, 0] rfl) hH hS
      have L_86 : ∀ (H : Heap) (locs : List Loc) (y3_86 : Int32) (ls : Array Slot), rgI (0) (40) y1_4 → rgI (0) (39) y2_4 → lv_has ls 4 [(0, .ref h0), (1, .int y1_4), (2, .int y2_4), (3, .int y3_86)] → HT g Ty G H → va_S (AF Ty s.heap.size) s.heap H locs → Wm p l e (wsG yX8_value cX8_value 4 (some .int)) ({ frames := 1, cells := 0, slots := 0, locals := 22 }) s m [.ref h0] below meth c H locs (0) (0) (QwI g Ty s.heap.size (fun r u => u = (Ty, G))) 0 0 (AF Ty s.heap.size) (F0 m 86 ls []) := by
        intro H locs y3_86 ls ry1_86 ry2_86 hl hH hS
        refine lv_iload_n hx hb dX8_value_86 rfl (lv_at hl 3 rfl) ?_
        refine lv_sipush (v := 2000) hx hb dX8_value_87 (by decide) ?_
        refine lv_icmp_lt (tgt := 131) hx hb dX8_value_90 (by decide) (fun c_17 => ?_) (fun c_17 => ?_)
        · have r_18 : rgI (-2147483648) (1999) y3_86 := rg_w (rg_ltL (rg_top y3_86) rl_2000 c_17) (by decide) (by decide)
          exact L_131 H locs y1_4 ls ry1_86 ry2_86 (lv_sub hl [0, 1, 2] rfl) hH hS
        · have r_19 : rgI (2000) (2147483647) y3_86 := rg_w (rg_leR rl_2000 (rg_top y3_86) (nlt_le c_17)) (by decide) (by decide)
          refine lv_iload_n hx hb dX8_value_93 rfl (lv_at hl 1 rfl) ?_
          refine lv_iconst (v := 1) hx hb dX8_value_94 (by decide) ?_
          refine lv_icmp_le (tgt := 131) hx hb dX8_value_95 (by decide) (fun c_20 => ?_) (fun c_20 => ?_)
          · have r_21 : rgI (0) (1) y1_4 := rg_w (rg_leL ry1_86 rl_1 c_20) (by decide) (by decide)
            exact L_131 H locs y1_4 ls (rg_w r_21 (by decide) (by decide)) ry2_86 (lv_sub hl [0, 1, 2] rfl) hH hS
          · have r_22 : rgI (2) (40) y1_4 := rg_w (rg_ltR rl_1 ry1_86 (nle_lt c_20)) (by decide) (by decide)
            obtain ⟨x_23, ex_23⟩ : ∃ y : Int32, y = y1_4 + (-1) := ⟨_, rfl⟩
            have rx_23 : rgI (1) (39) x_23 := by rw [ex_23]; exact rg_w (rg_add r_22 rl_m1 (by decide) (by decide)) (by decide) (by decide)
            have qx_23 : x_23.toInt = (y1_4 : Int32).toInt + (-1) := by rw [ex_23]; exact rg_addE r_22 rl_m1 (by decide) (by decide)
            refine lv_iinc (v := x_23) (lv' := [(1, .int x_23), (0, .ref h0), (2, .int y2_4), (3, .int y3_86)]) hx hb dX8_value_98 hl (k := 1) rfl (by rw [ex_23]; rfl) (by decide) rfl (fun ls hl => ?_)
            refine lv_aload_n hx hb dX8_value_101 rfl (lv_at hl 1 rfl) ?_
            obtain ⟨_, ⟨q_25, q_26, q_29, q_30, q_32, q_33, q_34, rfl, kq_25, kq_27, kq_33, kq_34, rq_26, rq_29, t_35⟩, o_c_24⟩ := hH h0 _ k_h0
            refine hg_get hx hb hG igX8 hown hK o_c_24 rfl 9 (by decide) (hG _ mw_211) rfl dX8_value_102 ?_
            refine lv_iload_n hx hb dX8_value_105 rfl (lv_at hl 0 rfl) ?_
            refine lv_iconst (v := 1) hx hb dX8_value_106 (by decide) ?_
            refine lv_isub hx hb dX8_value_107 ?_
            refine lv_topi (fun x_36 ex_36 => ?_)
            have rx_36 : rgI (0) (38) x_36 := by rw [ex_36]; exact rg_w (rg_sub rx_23 rl_1 (by decide) (by decide)) (by decide) (by decide)
            refine lv_iload_n hx hb dX8_value_108 rfl (lv_at hl 3 rfl) ?_
            refine lv_sipush (v := 2000) hx hb dX8_value_109 (by decide) ?_
            refine lv_isub hx hb dX8_value_112 ?_
            refine lv_topi (fun x_37 ex_37 => ?_)
            have rx_37 : rgI (0) (2147481647) x_37 := by rw [ex_37]; exact rg_w (rg_sub r_19 rl_2000 (by decide) (by decide)) (by decide) (by decide)
            refine lv_aload_n hx hb dX8_value_113 rfl (lv_at hl 1 rfl) ?_
            refine hg_get hx hb hG igX8 hown hK o_c_24 rfl 9 (by decide) (hG _ mw_211) rfl dX8_value_114 ?_
            refine lv_iload_n hx hb dX8_value_117 rfl (lv_at hl 0 rfl) ?_
            refine lv_iconst (v := 1) hx hb dX8_value_118 (by decide) ?_
            refine lv_isub hx hb dX8_value_119 ?_
            refine lv_topi (fun x_38 ex_38 => ?_)
            have rx_38 : rgI (0) (38) x_38 := by rw [ex_38]; exact rg_w (rg_sub rx_23 rl_1 (by decide) (by decide)) (by decide) (by decide)
            obtain ⟨_, ⟨f_40, rfl⟩, o_c_39⟩ := hH q_34 _ kq_34
            refine hg_iald hx hb hK o_c_39 (rg_in (n := 40) rx_38 (by decide) (by decide)) dX8_value_120 ?_
            refine lv_topi (fun x_41 ex_41 => ?_)
            refine lv_aload_n hx hb dX8_value_121 rfl (lv_at hl 1 rfl) ?_
            refine hg_get hx hb hG igX8 hown hK o_c_24 rfl 9 (by decide) (hG _ mw_211) rfl dX8_value_122 ?_
            refine lv_iload_n hx hb dX8_value_125 rfl (lv_at hl 0 rfl) ?_
            refine hg_iald hx hb hK o_c_39 (rg_in (n := 40) rx_23 (by decide) (by decide)) dX8_value_126 ?_
            refine lv_topi (fun x_42 ex_42 => ?_)
            refine vp_callSi (W.runS (As := [.int x_37, .int x_41, .int x_42]) (rest := [.int x_36, .ref q_34]) ⟨hx, hb, hml, hown, hts⟩ (c_X8_joined l g Ty G x_37 x_41 x_42 ) (cwSx 3 hts hG (gwC mw_707) mw_81 mw_705 mw_706 rfl rfl rfl hd_X8_joined ⟨Nat.le_of_ble_eq_true rfl, Nat.le_of_ble_eq_true rfl⟩) ⟨PcH_blind, PcH_pre hK hH⟩ rfl rfl hl.1 rfl (lv_room (Nat.le_of_ble_eq_true rfl)) dX8_value_127 ⟨Nat.zero_le _, Nat.zero_le _⟩) (fun x_43 hx_43 => ?_)
            refine hg_iast hx hb hK hS o_c_39 (AF.of kq_34) (rg_in (n := 40) rx_36 (by decide) (by decide)) dX8_value_130 (fun H locs o_c_39 hz oq hS => ?_)
            generalize hff_44 : upd f_40 _ x_43 = f_44 at o_c_39
            have hH : HT g Ty G H := hH.put kq_34 ⟨_, rfl⟩ o_c_39 oq
            have o_c_24 := o_c_24.kept (oq _ (ne_kd k_h0 kq_34 (by decide)))
            clear oq hz
            exact L_131 H locs x_23 ls (rg_w rx_23 (by decide) (by decide)) ry2_86 (lv_sub hl [1, 0, 2] rfl) hH hS
      have L_55 : ∀ (H : Heap) (locs : List Loc) (y3_55 : Int32) (ls : Array Slot), rgI (0) (40) y1_4 → rgI (0) (39) y2_4 → lv_has ls 4 [(0, .ref h0), (1, .int y1_4), (2, .int y2_4), (3, .int y3_55)] → HT g Ty G H → va_S (AF Ty s.heap.size) s.heap H locs → Wm p l e (wsG yX8_value cX8_value 4 (some .int)) ({ frames := 1, cells := 0, slots := 0, locals := 22 }) s m [.ref h0] below meth c H locs (0) (0) (QwI g Ty s.heap.size (fun r u => u = (Ty, G))) 0 0 (AF Ty s.heap.size) (F0 m 55 ls []) := by
        intro H locs y3_55 ls ry1_55 ry2_55 hl hH hS
        refine lv_iload_n hx hb dX8_value_55 rfl (lv_at hl 3 rfl) ?_
        refine lv_sipush (v := 2256) hx hb dX8_value_56 (by decide) ?_
        refine lv_icmp_ne (tgt := 86) hx hb dX8_value_59 (by decide) (fun c_45 => ?_) (fun c_45 => ?_)
        · exact L_86 H locs y3_55 ls ry1_55 ry2_55 (lv_sub hl [0, 1, 2, 3] rfl) hH hS
        · have r_46 : rgI (2256) (2256) y3_55 := rg_w (rg_eq rl_2256 c_45) (by decide) (by decide)
          refine lv_iload_n hx hb dX8_value_62 rfl (lv_at hl 1 rfl) ?_
          refine lv_if_le (tgt := 86) hx hb dX8_value_63 (by decide) (fun c_47 => ?_) (fun c_47 => ?_)
          · have r_48 : rgI (0) (0) y1_4 := rg_w (rg_leL ry1_55 rl_0 c_47) (by decide) (by decide)
            exact L_86 H locs y3_55 ls (rg_w r_48 (by decide) (by decide)) ry2_55 (lv_sub hl [0, 1, 2, 3] rfl) hH hS
          · have r_49 : rgI (1) (40) y1_4 := rg_w (rg_ltR rl_0 ry1_55 (nle_lt c_47)) (by decide) (by decide)
            refine lv_aload_n hx hb dX8_value_66 rfl (lv_at hl 0 rfl) ?_
            obtain ⟨_, ⟨q_51, q_52, q_55, q_56, q_58, q_59, q_60, rfl, kq_51, kq_53, kq_59, kq_60, rq_52, rq_55, t_61⟩, o_c_50⟩ := hH h0 _ k_h0
            refine hg_get hx hb hG igX8 hown hK o_c_50 rfl 9 (by decide) (hG _ mw_211) rfl dX8_value_67 ?_
            refine lv_iload_n hx hb dX8_value_70 rfl (lv_at hl 1 rfl) ?_
            refine lv_iconst (v := 1) hx hb dX8_value_71 (by decide) ?_
            refine lv_isub hx hb dX8_value_72 ?_
            refine lv_topi (fun x_62 ex_62 => ?_)
            have rx_62 : rgI (0) (39) x_62 := by rw [ex_62]; exact rg_w (rg_sub r_49 rl_1 (by decide) (by decide)) (by decide) (by decide)
            refine lv_aload_n hx hb dX8_value_73 rfl (lv_at hl 0 rfl) ?_
            refine hg_get hx hb hG igX8 hown hK o_c_50 rfl 9 (by decide) (hG _ mw_211) rfl dX8_value_74 ?_
            refine lv_iload_n hx hb dX8_value_77 rfl (lv_at hl 1 rfl) ?_
            refine lv_iconst (v := 1) hx hb dX8_value_78 (by decide) ?_
            refine lv_isub hx hb dX8_value_79 ?_
            refine lv_topi (fun x_63 ex_63 => ?_)
            have rx_63 : rgI (0) (39) x_63 := by rw [ex_63]; exact rg_w (rg_sub r_49 rl_1 (by decide) (by decide)) (by decide) (by decide)
            obtain ⟨_, ⟨f_65, rfl⟩, o_c_64⟩ := hH q_60 _ kq_60
            refine hg_iald hx hb hK o_c_64 (rg_in (n := 40) rx_63 (by decide) (by decide)) dX8_value_80 ?_
            refine lv_topi (fun x_66 ex_66 => ?_)
            refine lv_ineg hx hb dX8_value_81 ?_
            refine lv_topi (fun x_67 ex_67 => ?_)
            refine hg_iast hx hb hK hS o_c_64 (AF.of kq_60) (rg_in (n := 40) rx_62 (by decide) (by decide)) dX8_value_82 (fun H locs o_c_64 hz oq hS => ?_)
            generalize hff_68 : upd f_65 _ x_67 = f_68 at o_c_64
            have hH : HT g Ty G H := hH.put kq_60 ⟨_, rfl⟩ o_c_64 oq
            have o_c_50 := o_c_50.kept (oq _ (ne_kd k_h0 kq_60 (by decide)))
            clear oq hz
            refine lv_goto (tgt := 131) hx hb dX8_value_83 (by decide) ?_
            exact L_131 H locs y1_4 ls (rg_w r_49 (by decide) (by decide)) ry2_55 (lv_sub hl [0, 1, 2] rfl) hH hS
      refine lv_iload_n hx hb dX8_value_4 rfl (lv_at hl 2 rfl) ?_
      refine lv_aload_n hx hb dX8_value_5 rfl (lv_at hl 0 rfl) ?_
      obtain ⟨_, ⟨q_70, q_71, q_74, q_75, q_77, q_78, q_79, rfl, kq_70, kq_72, kq_78, kq_79, rq_71, rq_74, t_80⟩, o_c_69⟩ := hH h0 _ k_h0
      refine hg_get hx hb hG igX8 hown hK o_c_69 rfl 1 (by decide) (hG _ mw_203) rfl dX8_value_6 ?_
      refine lv_icmp_ge (tgt := 137) hx hb dX8_value_9 (by decide) (fun c_81 => ?_) (fun c_81 => ?_)
      · exact L_137 H locs ls (lv_sub hl [0] rfl) hH hS
      · have r_82 : rgI (0) (39) y2_4 := rg_w (rg_ltL ry2_4 rq_71 (nle_lt c_81)) (by decide) (by decide)
        have r_83 : rgI (1) (40) q_71 := rg_w (rg_ltR ry2_4 rq_71 (nle_lt c_81)) (by decide) (by decide)
        refine lv_iload_n hx hb dX8_value_12 rfl (lv_at hl 2 rfl) ?_
        refine lv_bipush (v := 40) hx hb dX8_value_13 (by decide) ?_
        refine lv_icmp_ge (tgt := 137) hx hb dX8_value_15 (by decide) (fun c_84 => ?_) (fun c_84 => ?_)
        · exact rg_no2 rl_40 r_82 c_84 (by decide)
        · refine lv_aload_n hx hb dX8_value_18 rfl (lv_at hl 0 rfl) ?_
          refine hg_get hx hb hG igX8 hown hK o_c_69 rfl 0 (by decide) (hG _ mw_202) rfl dX8_value_19 ?_
          refine lv_iload_n hx hb dX8_value_22 rfl (lv_at hl 2 rfl) ?_
          obtain ⟨_, ⟨f_86, rfl⟩, o_c_85⟩ := hH q_70 _ kq_70
          refine hg_iald hx hb hK o_c_85 (rg_in (n := 40) r_82 (by decide) (by decide)) dX8_value_23 ?_
          refine lv_topi (fun x_87 ex_87 => ?_)
          refine lv_istore_n (lv' := [(3, .int x_87), (0, .ref h0), (1, .int y1_4), (2, .int y2_4)]) hx hb dX8_value_24 rfl hl (by decide) rfl (fun ls hl => ?_)
          refine lv_iload_n hx hb dX8_value_25 rfl (lv_at hl 0 rfl) ?_
          refine lv_sipush (v := 2000) hx hb dX8_value_26 (by decide) ?_
          refine lv_icmp_ge (tgt := 55) hx hb dX8_value_29 (by decide) (fun c_88 => ?_) (fun c_88 => ?_)
          · have r_89 : rgI (2000) (2147483647) x_87 := rg_w (rg_leR rl_2000 (rg_top x_87) c_88) (by decide) (by decide)
            exact L_55 H locs x_87 ls ry1_4 r_82 (lv_sub hl [1, 2, 3, 0] rfl) hH hS
          · have r_90 : rgI (-2147483648) (1999) x_87 := rg_w (rg_ltL (rg_top x_87) rl_2000 (nle_lt c_88)) (by decide) (by decide)
            refine lv_iload_n hx hb dX8_value_32 rfl (lv_at hl 2 rfl) ?_
            refine lv_bipush (v := 40) hx hb dX8_value_33 (by decide) ?_
            refine lv_icmp_ge (tgt := 55) hx hb dX8_value_35 (by decide) (fun c_91 => ?_) (fun c_91 => ?_)
            · have r_92 : rgI (40) (40) y1_4 := rg_w (rg_leR rl_40 ry1_4 c_91) (by decide) (by decide)
              exact L_55 H locs x_87 ls (rg_w r_92 (by decide) (by decide)) r_82 (lv_sub hl [1, 2, 3, 0] rfl) hH hS
            · have r_93 : rgI (0) (39) y1_4 := rg_w (rg_ltL ry1_4 rl_40 (nle_lt c_91)) (by decide) (by decide)
              refine lv_aload_n hx hb dX8_value_38 rfl (lv_at hl 1 rfl) ?_
              refine hg_get hx hb hG igX8 hown hK o_c_69 rfl 9 (by decide) (hG _ mw_211) rfl dX8_value_39 ?_
              refine lv_iload_n hx hb dX8_value_42 rfl (lv_at hl 2 rfl) ?_
              refine lv_aload_n hx hb dX8_value_43 rfl (lv_at hl 1 rfl) ?_
              refine lv_iload_n hx hb dX8_value_44 rfl (lv_at hl 0 rfl) ?_
              refine vp_callSi (W.runV (As := [.int x_87]) (rest := [.int y1_4, .ref q_79]) ⟨hx, hb, hml, hown, hts⟩ (c_X8_thing_o l g Ty G h0 x_87 k_h0) (cwV 1 hts (gwV mw_701 mw_703 mw_11 mw_81 mw_704) rfl rfl rfl hv_X8_thing ⟨Nat.le_of_ble_eq_true rfl, Nat.le_of_ble_eq_true rfl⟩) ⟨PcH_blind, hg_recv hK o_c_69 rfl, PcH_pre hK hH⟩ rfl rfl hl.1 rfl (lv_room (Nat.le_of_ble_eq_true rfl)) dX8_value_45 ⟨Nat.zero_le _, Nat.zero_le _⟩) (fun x_94 hx_94 => ?_)
              obtain ⟨_, ⟨f_96, rfl⟩, o_c_95⟩ := hH q_79 _ kq_79
              refine hg_iast hx hb hK hS o_c_95 (AF.of kq_79) (rg_in (n := 40) r_93 (by decide) (by decide)) dX8_value_48 (fun H locs o_c_95 hz oq hS => ?_)
              generalize hff_97 : upd f_96 _ x_94 = f_97 at o_c_95
              have hH : HT g Ty G H := hH.put kq_79 ⟨_, rfl⟩ o_c_95 oq
              have o_c_69 := o_c_69.kept (oq _ (ne_kd k_h0 kq_79 (by decide)))
              clear oq hz
              obtain ⟨x_98, ex_98⟩ : ∃ y : Int32, y = y1_4 + 1 := ⟨_, rfl⟩
              have rx_98 : rgI (1) (40) x_98 := by rw [ex_98]; exact rg_w (rg_add r_93 rl_1 (by decide) (by decide)) (by decide) (by decide)
              have qx_98 : x_98.toInt = (y1_4 : Int32).toInt + 1 := by rw [ex_98]; exact rg_addE r_93 rl_1 (by decide) (by decide)
              refine lv_iinc (v := x_98) (lv' := [(1, .int x_98), (3, .int x_87), (0, .ref h0), (2, .int y2_4)]) hx hb dX8_value_49 hl (k := 2) rfl (by rw [ex_98]; rfl) (by decide) rfl (fun ls hl => ?_)
              refine lv_goto (tgt := 131) hx hb dX8_value_52 (by decide) ?_
              exact L_131 H locs x_98 ls (rg_w rx_98 (by decide) (by decide)) r_82 (lv_sub hl [2, 0, 3] rfl) hH hS
  refine lv_iconst (v := 0) hx hb dX8_value_0 (by decide) ?_
  refine lv_istore_n (lv' := [(1, .int 0), (0, .ref h0)]) hx hb dX8_value_1 rfl hl (by decide) rfl (fun ls hl => ?_)
  refine lv_iconst (v := 0) hx hb dX8_value_2 (by decide) ?_
  refine lv_istore_n (lv' := [(2, .int 0), (1, .int 0), (0, .ref h0)]) hx hb dX8_value_3 rfl hl (by decide) rfl (fun ls hl => ?_)
  exact L_4 _ s.heap [] 0 0 ls (rg_w rl_0 (by decide) (by decide)) (rg_w rl_0 (by decide) (by decide)) (Nat.lt_succ_self _) (lv_sub hl [2, 1, 0] rfl) hH hS

set_option maxHeartbeats 4000000 in
set_option maxRecDepth 100000 in
theorem c_X8_lookAt_o (l : Launch) (g : Gx) (Ty : TyM) (G : Gh) (sz : Nat) (h0 : Nat) (b0 : Nat) (a1 : Int32) (a2 : Int32) (k_h0 : Ty h0 = some (23, 0)) (k_b0 : Ty b0 = some (20, 0)) : Met l yX8_lookAt (wsG yX8_lookAt cX8_lookAt 4 none) ({ frames := 2, cells := 0, slots := 0, locals := 45 }) (PcT g Ty G sz [.ref h0, .ref b0, .int a1, .int a2]) (QwV g Ty sz (fun u => u = (Ty, G))) 0 0 (AF Ty sz) := by
  refine Met.ofW (cc := cX8_lookAt) (maxL := 4) (ret := none) (by decide) rfl ?_
  intro p e s m args below meth c s₁ B hml hv
  obtain ⟨rfl, hsz, hK, hH⟩ := hv
  subst hsz
  have hx := B.exec
  have hb := B.bytes
  have hr := B.returns
  have hts := atoms_spec (ws := (wsG yX8_lookAt cX8_lookAt 4 none)) B.pre
  have hG : ∀ w ∈ GW, w.before ([.ref h0, .ref b0, .int a1, .int a2] : List Value).toArray s = true := fun w h => hts w (List.mem_cons_of_mem _ h)
  have hown : s.vm.findClass RX8 = some m.cls := findClass_of_methodNamed B.named
  have hlocks := B.notSynchronized
  have hl := lv_entry [.ref h0, .ref b0, .int a1, .int a2] (n := 4) (Nat.le_of_ble_eq_true rfl)
  rw [lg_entry_eq]
  generalize (lg_sl [.ref h0, .ref b0, .int a1, .int a2] ++ List.replicate (4 - (lg_sl [.ref h0, .ref b0, .int a1, .int a2]).length) Slot.unset).toArray = ls at hl ⊢
  have hl : lv_has ls 4 [(0, .ref h0), (1, .ref b0), (2, .int a1), (3, .int a2)] := hl
  have hS : va_S (AF Ty s.heap.size) s.heap s.heap [] := va_S.rf
  refine lv_aload_n hx hb dX8_lookAt_0 rfl (lv_at hl 0 rfl) ?_
  obtain ⟨_, ⟨q_2, q_3, q_6, q_7, q_9, q_10, q_11, rfl, kq_2, kq_4, kq_10, kq_11, rq_3, rq_6, t_12⟩, o_c_1⟩ := hH h0 _ k_h0
  refine hg_get hx hb hG igX8 hown hK o_c_1 rfl 8 (by decide) (hG _ mw_210) rfl dX8_lookAt_1 ?_
  refine lv_iconst (v := 0) hx hb dX8_lookAt_4 (by decide) ?_
  refine lv_aload_n hx hb dX8_lookAt_5 rfl (lv_at hl 1 rfl) ?_
  refine lv_iload_n hx hb dX8_lookAt_6 rfl (lv_at hl 2 rfl) ?_
  obtain ⟨_, ⟨q_14, q_15, q_16, q_17, q_18, q_19, q_20, rfl, kq_14, kq_15, kq_16⟩, o_c_13⟩ := hH b0 _ k_b0
  refine vp_callSi (W.runV (As := [.int a1]) (rest := [.int 0, .ref q_10]) ⟨hx, hb, hml, hown, hts⟩ (c_X10_stepsTo l g Ty G b0 a1 k_b0) (cwV 1 hts (gwV mw_678 mw_679 mw_680 mw_77 mw_681) rfl rfl rfl hv_X10_stepsTo ⟨Nat.le_of_ble_eq_true rfl, Nat.le_of_ble_eq_true rfl⟩) ⟨PcH_blind, hg_recv hK o_c_13 rfl, PcH_pre hK hH⟩ rfl rfl hl.1 rfl (lv_room (Nat.le_of_ble_eq_true rfl)) dX8_lookAt_7 ⟨Nat.zero_le _, Nat.zero_le _⟩) (fun x_21 hx_21 => ?_)
  obtain ⟨_, ⟨f_23, rfl⟩, o_c_22⟩ := hH q_10 _ kq_10
  refine hg_iast hx hb hK hS o_c_22 (AF.of kq_10) (rg_in (n := 7) rl_0 (by decide) (by decide)) dX8_lookAt_10 (fun H locs o_c_22 hz oq hS => ?_)
  generalize hff_24 : upd f_23 _ x_21 = f_24 at o_c_22
  have hH : HT g Ty G H := hH.put kq_10 ⟨_, rfl⟩ o_c_22 oq
  have o_c_1 := o_c_1.kept (oq _ (ne_kd k_h0 kq_10 (by decide)))
  have o_c_13 := o_c_13.kept (oq _ (ne_kd k_b0 kq_10 (by decide)))
  clear oq hz
  refine lv_aload_n hx hb dX8_lookAt_11 rfl (lv_at hl 0 rfl) ?_
  refine hg_get hx hb hG igX8 hown hK o_c_1 rfl 8 (by decide) (hG _ mw_210) rfl dX8_lookAt_12 ?_
  refine lv_iconst (v := 1) hx hb dX8_lookAt_15 (by decide) ?_
  refine lv_aload_n hx hb dX8_lookAt_16 rfl (lv_at hl 1 rfl) ?_
  refine lv_iload_n hx hb dX8_lookAt_17 rfl (lv_at hl 2 rfl) ?_
  refine vp_callSi (W.runV (As := [.int a1]) (rest := [.int 1, .ref q_10]) ⟨hx, hb, hml, hown, hts⟩ (c_X10_childrenOf l g Ty G b0 a1 k_b0) (cwV 1 hts (gwV mw_686 mw_687 mw_688 mw_77 mw_689) rfl rfl rfl hv_X10_childrenOf ⟨Nat.le_of_ble_eq_true rfl, Nat.le_of_ble_eq_true rfl⟩) ⟨PcH_blind, hg_recv hK o_c_13 rfl, PcH_pre hK hH⟩ rfl rfl hl.1 rfl (lv_room (Nat.le_of_ble_eq_true rfl)) dX8_lookAt_18 ⟨Nat.zero_le _, Nat.zero_le _⟩) (fun x_25 hx_25 => ?_)
  refine vp_callSi (W.runS (As := [.int x_25]) (rest := [.int 1, .ref q_10]) ⟨hx, hb, hml, hown, hts⟩ (c_J6_bitCount_0f7a4 l g Ty G x_25 ) (cwSx 1 hts hG (gwC mw_620) mw_99 mw_690 mw_619 rfl rfl rfl hd_J6_bitCount_0f7a4 ⟨Nat.le_of_ble_eq_true rfl, Nat.le_of_ble_eq_true rfl⟩) ⟨PcH_blind, PcH_pre hK hH⟩ rfl rfl hl.1 rfl (lv_room (Nat.le_of_ble_eq_true rfl)) dX8_lookAt_21 ⟨Nat.zero_le _, Nat.zero_le _⟩) (fun x_26 hx_26 => ?_)
  refine hg_iast hx hb hK hS o_c_22 (AF.of kq_10) (rg_in (n := 7) rl_1 (by decide) (by decide)) dX8_lookAt_24 (fun H locs o_c_22 hz oq hS => ?_)
  generalize hff_27 : upd f_24 _ x_26 = f_27 at o_c_22
  have hH : HT g Ty G H := hH.put kq_10 ⟨_, rfl⟩ o_c_22 oq
  have o_c_1 := o_c_1.kept (oq _ (ne_kd k_h0 kq_10 (by decide)))
  have o_c_13 := o_c_13.kept (oq _ (ne_kd k_b0 kq_10 (by decide)))
  clear oq hz
  refine lv_aload_n hx hb dX8_lookAt_25 rfl (lv_at hl 0 rfl) ?_
  refine hg_get hx hb hG igX8 hown hK o_c_1 rfl 8 (by decide) (hG _ mw_210) rfl dX8_lookAt_26 ?_
  refine lv_iconst (v := 2) hx hb dX8_lookAt_29 (by decide) ?_
  refine lv_aload_n hx hb dX8_lookAt_30 rfl (lv_at hl 1 rfl) ?_
  refine lv_aload_n hx hb dX8_lookAt_31 rfl (lv_at hl 1 rfl) ?_
  refine lv_iload_n hx hb dX8_lookAt_32 rfl (lv_at hl 2 rfl) ?_
  refine vp_callSi (W.runV (As := [.int a1]) (rest := [.ref b0, .int 2, .ref q_10]) ⟨hx, hb, hml, hown, hts⟩ (c_X10_groupOf l g Ty G b0 a1 k_b0) (cwV 1 hts (gwV mw_691 mw_608 mw_609 mw_77 mw_610) rfl rfl rfl hv_X10_groupOf ⟨Nat.le_of_ble_eq_true rfl, Nat.le_of_ble_eq_true rfl⟩) ⟨PcH_blind, hg_recv hK o_c_13 rfl, PcH_pre hK hH⟩ rfl rfl hl.1 rfl (lv_room (Nat.le_of_ble_eq_true rfl)) dX8_lookAt_33 ⟨Nat.zero_le _, Nat.zero_le _⟩) (fun x_28 hx_28 => ?_)
  refine vp_callSi (W.runV (As := [.int x_28]) (rest := [.int 2, .ref q_10]) ⟨hx, hb, hml, hown, hts⟩ (c_X10_withGroup l g Ty G b0 x_28 k_b0) (cwV 1 hts (gwV mw_692 mw_659 mw_660 mw_77 mw_661) rfl rfl rfl hv_X10_withGroup ⟨Nat.le_of_ble_eq_true rfl, Nat.le_of_ble_eq_true rfl⟩) ⟨PcH_blind, hg_recv hK o_c_13 rfl, PcH_pre hK hH⟩ rfl rfl hl.1 rfl (lv_room (Nat.le_of_ble_eq_true rfl)) dX8_lookAt_36 ⟨Nat.zero_le _, Nat.zero_le _⟩) (fun x_29 hx_29 => ?_)
  refine vp_callSi (W.runS (As := [.int x_29]) (rest := [.int 2, .ref q_10]) ⟨hx, hb, hml, hown, hts⟩ (c_J6_bitCount_0f7a4 l g Ty G x_29 ) (cwSx 1 hts hG (gwC mw_620) mw_99 mw_690 mw_619 rfl rfl rfl hd_J6_bitCount_0f7a4 ⟨Nat.le_of_ble_eq_true rfl, Nat.le_of_ble_eq_true rfl⟩) ⟨PcH_blind, PcH_pre hK hH⟩ rfl rfl hl.1 rfl (lv_room (Nat.le_of_ble_eq_true rfl)) dX8_lookAt_39 ⟨Nat.zero_le _, Nat.zero_le _⟩) (fun x_30 hx_30 => ?_)
  refine hg_iast hx hb hK hS o_c_22 (AF.of kq_10) (rg_in (n := 7) rl_2 (by decide) (by decide)) dX8_lookAt_42 (fun H locs o_c_22 hz oq hS => ?_)
  generalize hff_31 : upd f_27 _ x_30 = f_31 at o_c_22
  have hH : HT g Ty G H := hH.put kq_10 ⟨_, rfl⟩ o_c_22 oq
  have o_c_1 := o_c_1.kept (oq _ (ne_kd k_h0 kq_10 (by decide)))
  have o_c_13 := o_c_13.kept (oq _ (ne_kd k_b0 kq_10 (by decide)))
  clear oq hz
  refine lv_aload_n hx hb dX8_lookAt_43 rfl (lv_at hl 0 rfl) ?_
  refine hg_get hx hb hG igX8 hown hK o_c_1 rfl 8 (by decide) (hG _ mw_210) rfl dX8_lookAt_44 ?_
  refine lv_iconst (v := 3) hx hb dX8_lookAt_47 (by decide) ?_
  refine lv_iload_n hx hb dX8_lookAt_48 rfl (lv_at hl 2 rfl) ?_
  refine hg_iast hx hb hK hS o_c_22 (AF.of kq_10) (rg_in (n := 7) rl_3 (by decide) (by decide)) dX8_lookAt_49 (fun H locs o_c_22 hz oq hS => ?_)
  generalize hff_32 : upd f_31 _ a1 = f_32 at o_c_22
  have hH : HT g Ty G H := hH.put kq_10 ⟨_, rfl⟩ o_c_22 oq
  have o_c_1 := o_c_1.kept (oq _ (ne_kd k_h0 kq_10 (by decide)))
  have o_c_13 := o_c_13.kept (oq _ (ne_kd k_b0 kq_10 (by decide)))
  clear oq hz
  refine lv_aload_n hx hb dX8_lookAt_50 rfl (lv_at hl 0 rfl) ?_
  refine hg_get hx hb hG igX8 hown hK o_c_1 rfl 8 (by decide) (hG _ mw_210) rfl dX8_lookAt_51 ?_
  refine lv_iconst (v := 4) hx hb dX8_lookAt_54 (by decide) ?_
  refine lv_iload_n hx hb dX8_lookAt_55 rfl (lv_at hl 3 rfl) ?_
  refine hg_iast hx hb hK hS o_c_22 (AF.of kq_10) (rg_in (n := 7) rl_4 (by decide) (by decide)) dX8_lookAt_56 (fun H locs o_c_22 hz oq hS => ?_)
  generalize hff_33 : upd f_32 _ a2 = f_33 at o_c_22
  have hH : HT g Ty G H := hH.put kq_10 ⟨_, rfl⟩ o_c_22 oq
  have o_c_1 := o_c_1.kept (oq _ (ne_kd k_h0 kq_10 (by decide)))
  have o_c_13 := o_c_13.kept (oq _ (ne_kd k_b0 kq_10 (by decide)))
  clear oq hz
  refine lv_aload_n hx hb dX8_lookAt_57 rfl (lv_at hl 0 rfl) ?_
  refine hg_get hx hb hG igX8 hown hK o_c_1 rfl 8 (by decide) (hG _ mw_210) rfl dX8_lookAt_58 ?_
  refine lv_iconst (v := 5) hx hb dX8_lookAt_61 (by decide) ?_
  refine lv_aload_n hx hb dX8_lookAt_62 rfl (lv_at hl 1 rfl) ?_
  refine hg_getN hx hb hG igX10 hown hK o_c_13 rfl 5 (by decide) ((hK.2.1 _ nwf_126).use rfl) rfl dX8_lookAt_63 ?_
  refine lv_bipush (v := 7) hx hb dX8_lookAt_66 (by decide) ?_
  refine lv_irem hx hb dX8_lookAt_68 (by decide) ?_
  refine lv_topi (fun x_34 ex_34 => ?_)
  refine hg_iast hx hb hK hS o_c_22 (AF.of kq_10) (rg_in (n := 7) rl_5 (by decide) (by decide)) dX8_lookAt_69 (fun H locs o_c_22 hz oq hS => ?_)
  generalize hff_35 : upd f_33 _ x_34 = f_35 at o_c_22
  have hH : HT g Ty G H := hH.put kq_10 ⟨_, rfl⟩ o_c_22 oq
  have o_c_1 := o_c_1.kept (oq _ (ne_kd k_h0 kq_10 (by decide)))
  have o_c_13 := o_c_13.kept (oq _ (ne_kd k_b0 kq_10 (by decide)))
  clear oq hz
  refine lv_aload_n hx hb dX8_lookAt_70 rfl (lv_at hl 0 rfl) ?_
  refine hg_get hx hb hG igX8 hown hK o_c_1 rfl 8 (by decide) (hG _ mw_210) rfl dX8_lookAt_71 ?_
  refine lv_bipush (v := 6) hx hb dX8_lookAt_74 (by decide) ?_
  refine lv_aload_n hx hb dX8_lookAt_76 rfl (lv_at hl 1 rfl) ?_
  refine lv_iload_n hx hb dX8_lookAt_77 rfl (lv_at hl 2 rfl) ?_
  refine vp_callSi (W.runV (As := [.int a1]) (rest := [.int 6, .ref q_10]) ⟨hx, hb, hml, hown, hts⟩ (c_X10_kindOf l g Ty G b0 a1 k_b0) (cwV 1 hts (gwV mw_693 mw_694 mw_695 mw_77 mw_696) rfl rfl rfl hv_X10_kindOf ⟨Nat.le_of_ble_eq_true rfl, Nat.le_of_ble_eq_true rfl⟩) ⟨PcH_blind, hg_recv hK o_c_13 rfl, PcH_pre hK hH⟩ rfl rfl hl.1 rfl (lv_room (Nat.le_of_ble_eq_true rfl)) dX8_lookAt_78 ⟨Nat.zero_le _, Nat.zero_le _⟩) (fun x_36 hx_36 => ?_)
  refine hg_iast hx hb hK hS o_c_22 (AF.of kq_10) (rg_in (n := 7) rl_6 (by decide) (by decide)) dX8_lookAt_81 (fun H locs o_c_22 hz oq hS => ?_)
  generalize hff_37 : upd f_35 _ x_36 = f_37 at o_c_22
  have hH : HT g Ty G H := hH.put kq_10 ⟨_, rfl⟩ o_c_22 oq
  have o_c_1 := o_c_1.kept (oq _ (ne_kd k_h0 kq_10 (by decide)))
  have o_c_13 := o_c_13.kept (oq _ (ne_kd k_b0 kq_10 (by decide)))
  clear oq hz
  exact W.vret hx hb hr (fun t ht hWm => ⟨⟨(Ty, G), rfl, rfl, by show HT g Ty G t.heap; rw [ht]; exact hH⟩, hS.F ht⟩) hS.2.2 dX8_lookAt_82

set_option maxHeartbeats 4000000 in
set_option maxRecDepth 100000 in
theorem c_X8_letting_o (l : Launch) (g : Gx) (Ty : TyM) (G : Gh) (sz : Nat) (h0 : Nat) (b0 : Nat) (a1 : Int32) (k_h0 : Ty h0 = some (23, 0)) (k_b0 : Ty b0 = some (20, 0)) : Met l yX8_letting (wsG yX8_letting cX8_letting 5 (some .int)) ({ frames := 3, cells := 0, slots := 0, locals := 68 }) (PcT g Ty G sz [.ref h0, .ref b0, .int a1]) (QwI g Ty sz (fun r u => u = (Ty, G))) 0 0 (AF Ty sz) := by
  refine Met.ofW (cc := cX8_letting) (maxL := 5) (ret := (some .int)) (by decide) rfl ?_
  intro p e s m args below meth c s₁ B hml hv
  obtain ⟨rfl, hsz, hK, hH⟩ := hv
  subst hsz
  have hx := B.exec
  have hb := B.bytes
  have hr := B.returns
  have hts := atoms_spec (ws := (wsG yX8_letting cX8_letting 5 (some .int))) B.pre
  have hG : ∀ w ∈ GW, w.before ([.ref h0, .ref b0, .int a1] : List Value).toArray s = true := fun w h => hts w (List.mem_cons_of_mem _ h)
  have hown : s.vm.findClass RX8 = some m.cls := findClass_of_methodNamed B.named
  have hlocks := B.notSynchronized
  have hl := lv_entry [.ref h0, .ref b0, .int a1] (n := 5) (Nat.le_of_ble_eq_true rfl)
  rw [lg_entry_eq]
  generalize (lg_sl [.ref h0, .ref b0, .int a1] ++ List.replicate (5 - (lg_sl [.ref h0, .ref b0, .int a1]).length) Slot.unset).toArray = ls at hl ⊢
  have hl : lv_has ls 5 [(0, .ref h0), (1, .ref b0), (2, .int a1)] := hl
  have hS : va_S (AF Ty s.heap.size) s.heap s.heap [] := va_S.rf
  have L_17 : ∀ (n : Nat) (H : Heap) (locs : List Loc) (y3_17 : Int32) (y4_17 : Int32) (ls : Array Slot), rgI (0) (24) y4_17 → (24 - (y4_17).toInt).toNat < n → lv_has ls 5 [(0, .ref h0), (1, .ref b0), (2, .int a1), (3, .int y3_17), (4, .int y4_17)] → HT g Ty G H → va_S (AF Ty s.heap.size) s.heap H locs → Wm p l e (wsG yX8_letting cX8_letting 5 (some .int)) ({ frames := 3, cells := 0, slots := 0, locals := 68 }) s m [.ref h0, .ref b0, .int a1] below meth c H locs (0) (0) (QwI g Ty s.heap.size (fun r u => u = (Ty, G))) 0 0 (AF Ty s.heap.size) (F0 m 17 ls []) := by
    intro n
    induction n with
    | zero => intro H locs y3_17 y4_17 ls ry4_17 hm; exact absurd hm (Nat.not_lt_zero _)
    | succ n ih_17 =>
      intro H locs y3_17 y4_17 ls ry4_17 hm_17 hl hH hS
      have L_55 : ∀ (H : Heap) (locs : List Loc) (y3_55 : Int32) (ls : Array Slot), rgI (0) (23) y4_17 → lv_has ls 5 [(0, .ref h0), (1, .ref b0), (2, .int a1), (3, .int y3_55), (4, .int y4_17)] → HT g Ty G H → va_S (AF Ty s.heap.size) s.heap H locs → Wm p l e (wsG yX8_letting cX8_letting 5 (some .int)) ({ frames := 3, cells := 0, slots := 0, locals := 68 }) s m [.ref h0, .ref b0, .int a1] below meth c H locs (0) (0) (QwI g Ty s.heap.size (fun r u => u = (Ty, G))) 0 0 (AF Ty s.heap.size) (F0 m 55 ls []) := by
        intro H locs y3_55 ls ry4_55 hl hH hS
        obtain ⟨x_1, ex_1⟩ : ∃ y : Int32, y = y4_17 + 1 := ⟨_, rfl⟩
        have rx_1 : rgI (1) (24) x_1 := by rw [ex_1]; exact rg_w (rg_add ry4_55 rl_1 (by decide) (by decide)) (by decide) (by decide)
        have qx_1 : x_1.toInt = (y4_17 : Int32).toInt + 1 := by rw [ex_1]; exact rg_addE ry4_55 rl_1 (by decide) (by decide)
        refine lv_iinc (v := x_1) (lv' := [(4, .int x_1), (0, .ref h0), (1, .ref b0), (2, .int a1), (3, .int y3_55)]) hx hb dX8_letting_55 hl (k := 4) rfl (by rw [ex_1]; rfl) (by decide) rfl (fun ls hl => ?_)
        refine lv_goto (tgt := 17) hx hb dX8_letting_58 (by decide) ?_
        exact ih_17 H locs y3_55 x_1 ls (rg_w rx_1 (by decide) (by decide)) (by have h1 := qx_1; have h2 := ry4_55.1; have h3 := ry4_55.2; have h4 := hm_17; omega) (lv_sub hl [1, 2, 3, 4, 0] rfl) hH hS
      refine lv_iload hx hb dX8_letting_17 (lv_at hl 4 rfl) ?_
      refine lv_bipush (v := 24) hx hb dX8_letting_19 (by decide) ?_
      refine lv_icmp_ge (tgt := 61) hx hb dX8_letting_21 (by decide) (fun c_2 => ?_) (fun c_2 => ?_)
      · have r_3 : rgI (24) (24) y4_17 := rg_w (rg_leR rl_24 ry4_17 c_2) (by decide) (by decide)
        refine lv_iload_n hx hb dX8_letting_61 rfl (lv_at hl 3 rfl) ?_
        exact W.iret hx hb hr (fun t ht hWm => ⟨⟨y3_17, (Ty, G), rfl, rfl, by show HT g Ty G t.heap; rw [ht]; exact hH⟩, hS.F ht⟩) hS.2.2 dX8_letting_62
      · have r_4 : rgI (0) (23) y4_17 := rg_w (rg_ltL ry4_17 rl_24 (nle_lt c_2)) (by decide) (by decide)
        refine lv_aload_n hx hb dX8_letting_24 rfl (lv_at hl 1 rfl) ?_
        refine lv_iload hx hb dX8_letting_25 (lv_at hl 4 rfl) ?_
        obtain ⟨_, ⟨q_6, q_7, q_8, q_9, q_10, q_11, q_12, rfl, kq_6, kq_7, kq_8⟩, o_c_5⟩ := hH b0 _ k_b0
        refine vp_callSi (W.runV (As := [.int y4_17]) (rest := []) ⟨hx, hb, hml, hown, hts⟩ (c_X10_has l g Ty G b0 y4_17 k_b0) (cwV 1 hts (gwV mw_673 mw_604 mw_605 mw_77 mw_606) rfl rfl rfl hv_X10_has ⟨Nat.le_of_ble_eq_true rfl, Nat.le_of_ble_eq_true rfl⟩) ⟨PcH_blind, hg_recv hK o_c_5 rfl, PcH_pre hK hH⟩ rfl rfl hl.1 rfl (lv_room (Nat.le_of_ble_eq_true rfl)) dX8_letting_27 ⟨Nat.zero_le _, Nat.zero_le _⟩) (fun x_13 hx_13 => ?_)
        have rx_13 : rgI (0) (1) x_13 := hx_13.1
        refine lv_if_eq (tgt := 55) hx hb dX8_letting_30 (by decide) (fun c_14 => ?_) (fun c_14 => ?_)
        · have r_15 : rgI (0) (0) x_13 := rg_w (rg_eq rl_0 c_14) (by decide) (by decide)
          exact L_55 H locs y3_17 ls r_4 (lv_sub hl [0, 1, 2, 3, 4] rfl) hH hS
        · have r_16 : rgI (1) (1) x_13 := rg_w (rg_neL rx_13 rl_0 c_14) (by decide) (by decide)
          refine lv_aload_n hx hb dX8_letting_33 rfl (lv_at hl 0 rfl) ?_
          refine lv_aload_n hx hb dX8_letting_34 rfl (lv_at hl 1 rfl) ?_
          refine lv_iload hx hb dX8_letting_35 (lv_at hl 4 rfl) ?_
          refine lv_iload_n hx hb dX8_letting_37 rfl (lv_at hl 2 rfl) ?_
          obtain ⟨_, ⟨q_18, q_19, q_22, q_23, q_25, q_26, q_27, rfl, kq_18, kq_20, kq_26, kq_27, rq_19, rq_22, t_28⟩, o_c_17⟩ := hH h0 _ k_h0
          refine va_callv (va_runV (As := [.ref b0, .int y4_17, .int a1]) (rest := []) ⟨hx, hb, hml, hown, hts⟩ (c_X8_lookAt_o l g Ty G H.size h0 b0 y4_17 a1 k_h0 k_b0) (cwV 3 hts (gwV mw_674 mw_676 mw_9 mw_81 mw_677) rfl rfl rfl hv_X8_lookAt ⟨Nat.le_of_ble_eq_true rfl, Nat.le_of_ble_eq_true rfl⟩) ⟨PcT_blind, hg_recv hK o_c_17 rfl, PcT_pre hK hH⟩ rfl rfl hl.1 rfl (lv_room (Nat.le_of_ble_eq_true rfl)) dX8_letting_38 ⟨Nat.zero_le _, Nat.zero_le _⟩) hS (fun q _ h => AF.mono hS.1 h) (fun q h => AF.mono hS.1 h) (fun ux_29 t H locs ht hvm hx_29 hB hz hk hS => ?_)
          have hH : HT g Ty G H := by rw [← ht]; rw [hx_29] at hB; exact hB
          refine lv_aload_n hx hb dX8_letting_41 rfl (lv_at hl 0 rfl) ?_
          obtain ⟨_, ⟨q_31, q_32, q_35, q_36, q_38, q_39, q_40, rfl, kq_31, kq_33, kq_39, kq_40, rq_32, rq_35, t_41⟩, o_c_30⟩ := hH h0 _ k_h0
          refine va_calli (va_runV (As := []) (rest := []) ⟨hx, hb, hml, hown, hts⟩ (c_X8_value_o l g Ty G H.size h0 k_h0) (cwV 0 hts (gwV mw_697 mw_699 mw_10 mw_81 mw_700) rfl rfl rfl hv_X8_value ⟨Nat.le_of_ble_eq_true rfl, Nat.le_of_ble_eq_true rfl⟩) ⟨PcT_blind, hg_recv hK o_c_30 rfl, PcT_pre hK hH⟩ rfl rfl hl.1 rfl (lv_room (Nat.le_of_ble_eq_true rfl)) dX8_letting_42 ⟨Nat.zero_le _, Nat.zero_le _⟩) hS (fun q _ h => AF.mono hS.1 h) (fun q h => AF.mono hS.1 h) (fun x_42 ux_42 t H locs ht hvm hx_42 hB hz hk hS => ?_)
          have hH : HT g Ty G H := by rw [← ht]; rw [hx_42] at hB; exact hB
          refine lv_if_le (tgt := 55) hx hb dX8_letting_45 (by decide) (fun c_43 => ?_) (fun c_43 => ?_)
          · have r_44 : rgI (-2147483648) (0) x_42 := rg_w (rg_leL (rg_top x_42) rl_0 c_43) (by decide) (by decide)
            exact L_55 H locs y3_17 ls r_4 (lv_sub hl [0, 1, 2, 3, 4] rfl) hH hS
          · have r_45 : rgI (1) (2147483647) x_42 := rg_w (rg_ltR rl_0 (rg_top x_42) (nle_lt c_43)) (by decide) (by decide)
            refine lv_iload_n hx hb dX8_letting_48 rfl (lv_at hl 3 rfl) ?_
            refine lv_iconst (v := 1) hx hb dX8_letting_49 (by decide) ?_
            refine lv_iload hx hb dX8_letting_50 (lv_at hl 4 rfl) ?_
            refine lv_ishl hx hb dX8_letting_52 ?_
            refine lv_topi (fun x_46 ex_46 => ?_)
            refine lv_ior hx hb dX8_letting_53 ?_
            refine lv_topi (fun x_47 ex_47 => ?_)
            refine lv_istore_n (lv' := [(3, .int x_47), (0, .ref h0), (1, .ref b0), (2, .int a1), (4, .int y4_17)]) hx hb dX8_letting_54 rfl hl (by decide) rfl (fun ls hl => ?_)
            exact L_55 H locs x_47 ls r_4 (lv_sub hl [1, 2, 3, 0, 4] rfl) hH hS
  refine lv_aload_n hx hb dX8_letting_0 rfl (lv_at hl 0 rfl) ?_
  obtain ⟨_, ⟨q_49, q_50, q_53, q_54, q_56, q_57, q_58, rfl, kq_49, kq_51, kq_57, kq_58, rq_50, rq_53, t_59⟩, o_c_48⟩ := hH h0 _ k_h0
  refine hg_get hx hb hG igX8 hown hK o_c_48 rfl 1 (by decide) (hG _ mw_203) rfl dX8_letting_1 ?_
  refine lv_if_ne (tgt := 12) hx hb dX8_letting_4 (by decide) (fun c_60 => ?_) (fun c_60 => ?_)
  · have r_61 : rgI (1) (40) q_50 := rg_w (rg_neL rq_50 rl_0 c_60) (by decide) (by decide)
    refine lv_iconst (v := 0) hx hb dX8_letting_12 (by decide) ?_
    refine lv_istore_n (lv' := [(3, .int 0), (0, .ref h0), (1, .ref b0), (2, .int a1)]) hx hb dX8_letting_13 rfl hl (by decide) rfl (fun ls hl => ?_)
    refine lv_iconst (v := 0) hx hb dX8_letting_14 (by decide) ?_
    refine lv_istore (lv' := [(4, .int 0), (3, .int 0), (0, .ref h0), (1, .ref b0), (2, .int a1)]) hx hb dX8_letting_15 hl (by decide) rfl (fun ls hl => ?_)
    exact L_17 _ s.heap [] 0 0 ls (rg_w rl_0 (by decide) (by decide)) (Nat.lt_succ_self _) (lv_sub hl [2, 3, 4, 1, 0] rfl) hH hS
  · have r_62 : rgI (0) (0) q_50 := rg_w (rg_eq rl_0 c_60) (by decide) (by decide)
    refine lv_aload_n hx hb dX8_letting_7 rfl (lv_at hl 1 rfl) ?_
    obtain ⟨_, ⟨q_64, q_65, q_66, q_67, q_68, q_69, q_70, rfl, kq_64, kq_65, kq_66⟩, o_c_63⟩ := hH b0 _ k_b0
    refine hg_getN hx hb hG igX10 hown hK o_c_63 rfl 3 (by decide) ((hK.2.1 _ nwf_120).use rfl) rfl dX8_letting_8 ?_
    exact W.iret hx hb hr (fun t ht hWm => ⟨⟨q_67, (Ty, G), rfl, rfl, by show HT g Ty G t.heap; rw [ht]; exact hH⟩, hS.F ht⟩) hS.2.2 dX8_letting_11
