set_option maxHeartbeats 4000000 in
set_option maxRecDepth 100000 in
theorem c_X9_clear (l : Launch) (g : Gx) (Ty : TyM) (G : Gh) (sz : Nat) (h0 : Nat) (k_h0 : Ty h0 = some (19, 0)) : Met l yX9_clear (wsG yX9_clear cX9_clear 1 none) ({ frames := 0, cells := 0, slots := 0, locals := 0 }) (PcT g Ty G sz [.ref h0]) (QwV g Ty sz (fun u => u.1 = Ty ∧ u.2 = gset G 0 0)) 0 0 (AF Ty sz) := by
  refine Met.ofW (cc := cX9_clear) (maxL := 1) (ret := none) (by decide) rfl ?_
  intro p e s m args below meth c s₁ B hml hv
  obtain ⟨rfl, hsz, hK, hH⟩ := hv
  subst hsz
  have hx := B.exec
  have hb := B.bytes
  have hr := B.returns
  have hts := atoms_spec (ws := (wsG yX9_clear cX9_clear 1 none)) B.pre
  have hG : ∀ w ∈ GW, w.before ([.ref h0] : List Value).toArray s = true := fun w h => hts w (List.mem_cons_of_mem _ h)
  have hown : s.vm.findClass RX9 = some m.cls := findClass_of_methodNamed B.named
  have hlocks := B.notSynchronized
  have hl := lv_entry [.ref h0] (n := 1) (Nat.le_of_ble_eq_true rfl)
  rw [lg_entry_eq]
  generalize (lg_sl [.ref h0] ++ List.replicate (1 - (lg_sl [.ref h0]).length) Slot.unset).toArray = ls at hl ⊢
  have hl : lv_has ls 1 [(0, .ref h0)] := hl
  have hS : va_S (AF Ty s.heap.size) s.heap s.heap [] := va_S.rf
  refine lv_aload_n hx hb dX9_clear_0 rfl (lv_at hl 0 rfl) ?_
  refine lv_iconst (v := 0) hx hb dX9_clear_1 (by decide) ?_
  obtain ⟨_, ⟨q_2, rfl, kq_2, rq_3, t_4⟩, o_c_1⟩ := hH h0 _ k_h0
  refine hg_put (ty := .int) hx hb hG igX9 tyX9 tyX9_ok nmX9 hown hK hS o_c_1 (AF.of k_h0) rfl 1 (by decide) (hG _ mw_172) rfl (by decide +kernel) rfl rfl (Nat.le_of_ble_eq_true rfl) dX9_clear_2 (fun H locs o_c_1 hz oq hS => ?_)
  obtain ⟨G_5, eG_5⟩ : ∃ z : Gh, z = gset G 0 0 := ⟨_, rfl⟩
  have hH : HT g Ty G_5 H := by rw [eG_5]; exact HT.putN 0 0 hH k_h0 ⟨q_2, rfl, kq_2, (rgu (rg_w rl_0 (by decide) (by decide))), t_4⟩ o_c_1 oq (Or.inl ⟨rfl, t_4⟩)
  have u_6 : G_5.1 0 = 0 := by rw [eG_5]; exact gs_eq
  clear oq hz
  exact W.vret hx hb hr (fun t ht hWm => ⟨⟨(Ty, G_5), rfl, ⟨rfl, eG_5⟩, by show HT g Ty G_5 t.heap; rw [ht]; exact hH⟩, hS.F ht⟩) hS.2.2 dX9_clear_5

set_option maxHeartbeats 4000000 in
set_option maxRecDepth 100000 in
theorem c_X9_cut (l : Launch) (g : Gx) (Ty : TyM) (G : Gh) (sz : Nat) (h0 : Nat) (a0 : Int32) (k_h0 : Ty h0 = some (19, 0)) : Met l yX9_cut (wsG yX9_cut cX9_cut 2 (some .boolean)) ({ frames := 0, cells := 0, slots := 0, locals := 0 }) (PcT g Ty G sz [.ref h0, .int a0]) (QwI g Ty sz (fun r u => (rgI (0) (1) r) ∧ u.1 = Ty ∧ CutR G u.2 r a0)) 0 0 (AF Ty sz) := by
  refine Met.ofW (cc := cX9_cut) (maxL := 2) (ret := (some .boolean)) (by decide) rfl ?_
  intro p e s m args below meth c s₁ B hml hv
  obtain ⟨rfl, hsz, hK, hH⟩ := hv
  subst hsz
  have hx := B.exec
  have hb := B.bytes
  have hr := B.returns
  have hts := atoms_spec (ws := (wsG yX9_cut cX9_cut 2 (some .boolean))) B.pre
  have hG : ∀ w ∈ GW, w.before ([.ref h0, .int a0] : List Value).toArray s = true := fun w h => hts w (List.mem_cons_of_mem _ h)
  have hown : s.vm.findClass RX9 = some m.cls := findClass_of_methodNamed B.named
  have hlocks := B.notSynchronized
  have hl := lv_entry [.ref h0, .int a0] (n := 2) (Nat.le_of_ble_eq_true rfl)
  rw [lg_entry_eq]
  generalize (lg_sl [.ref h0, .int a0] ++ List.replicate (2 - (lg_sl [.ref h0, .int a0]).length) Slot.unset).toArray = ls at hl ⊢
  have hl : lv_has ls 2 [(0, .ref h0), (1, .int a0)] := hl
  have hS : va_S (AF Ty s.heap.size) s.heap s.heap [] := va_S.rf
  have h80 : rgI (0) (80) (G.1 0) := ht19 hH k_h0
  refine lv_iload_n hx hb dX9_cut_0 rfl (lv_at hl 1 rfl) ?_
  refine lv_if_lt (tgt := 12) hx hb dX9_cut_1 (by decide) (fun c_1 => ?_) (fun c_1 => ?_)
  · have r_2 : rgI (-2147483648) (-1) a0 := rg_w (rg_ltL (rg_top a0) rl_0 c_1) (by decide) (by decide)
    refine lv_iconst (v := 0) hx hb dX9_cut_12 (by decide) ?_
    exact W.zret hx hb hr rfl (fun t ht hWm => ⟨⟨0, (Ty, G), rfl, ⟨rg_w rl_0 (by decide) (by decide), ⟨rfl, Or.inl ⟨rfl, Or.inl c_1, rfl⟩⟩⟩, by show HT g Ty G t.heap; rw [ht]; exact hH⟩, hS.F ht⟩) hS.2.2 dX9_cut_13
  · have r_3 : rgI (0) (2147483647) a0 := rg_w (rg_leR rl_0 (rg_top a0) (nlt_le c_1)) (by decide) (by decide)
    refine lv_iload_n hx hb dX9_cut_4 rfl (lv_at hl 1 rfl) ?_
    refine lv_aload_n hx hb dX9_cut_5 rfl (lv_at hl 0 rfl) ?_
    obtain ⟨_, ⟨q_5, rfl, kq_5, rq_6, t_7⟩, o_c_4⟩ := hH h0 _ k_h0
    refine hg_get hx hb hG igX9 hown hK o_c_4 rfl 1 (by decide) (hG _ mw_172) rfl dX9_cut_6 ?_
    refine lv_icmp_le (tgt := 14) hx hb dX9_cut_9 (by decide) (fun c_8 => ?_) (fun c_8 => ?_)
    · have r_9 : rgI (0) (80) a0 := rg_w (rg_leL r_3 h80 c_8) (by decide) (by decide)
      refine lv_aload_n hx hb dX9_cut_14 rfl (lv_at hl 0 rfl) ?_
      refine lv_iload_n hx hb dX9_cut_15 rfl (lv_at hl 1 rfl) ?_
      refine hg_put (ty := .int) hx hb hG igX9 tyX9 tyX9_ok nmX9 hown hK hS o_c_4 (AF.of k_h0) rfl 1 (by decide) (hG _ mw_172) rfl (by decide +kernel) rfl rfl (Nat.le_of_ble_eq_true rfl) dX9_cut_16 (fun H locs o_c_4 hz oq hS => ?_)
      obtain ⟨G_10, eG_10⟩ : ∃ z : Gh, z = gset G 0 a0 := ⟨_, rfl⟩
      have hH : HT g Ty G_10 H := by rw [eG_10]; exact HT.putN 0 a0 hH k_h0 ⟨q_5, rfl, kq_5, (rgu (rg_w r_9 (by decide) (by decide))), t_7⟩ o_c_4 oq (Or.inl ⟨rfl, t_7⟩)
      have u_11 : G_10.1 0 = a0 := by rw [eG_10]; exact gs_eq
      clear oq hz
      refine lv_iconst (v := 1) hx hb dX9_cut_19 (by decide) ?_
      exact W.zret hx hb hr rfl (fun t ht hWm => ⟨⟨1, (Ty, G_10), rfl, ⟨rg_w rl_1 (by decide) (by decide), ⟨rfl, Or.inr ⟨rfl, c_1, c_8, eG_10⟩⟩⟩, by show HT g Ty G_10 t.heap; rw [ht]; exact hH⟩, hS.F ht⟩) hS.2.2 dX9_cut_20
    · have r_12 : rgI (1) (2147483647) a0 := rg_w (rg_ltR h80 r_3 (nle_lt c_8)) (by decide) (by decide)
      refine lv_iconst (v := 0) hx hb dX9_cut_12 (by decide) ?_
      exact W.zret hx hb hr rfl (fun t ht hWm => ⟨⟨0, (Ty, G), rfl, ⟨rg_w rl_0 (by decide) (by decide), ⟨rfl, Or.inl ⟨rfl, Or.inr (nle_lt c_8), rfl⟩⟩⟩, by show HT g Ty G t.heap; rw [ht]; exact hH⟩, hS.F ht⟩) hS.2.2 dX9_cut_13

set_option maxHeartbeats 4000000 in
set_option maxRecDepth 100000 in
theorem c_X9_add (l : Launch) (g : Gx) (Ty : TyM) (G : Gh) (sz : Nat) (h0 : Nat) (a0 : Int32) (k_h0 : Ty h0 = some (19, 0)) : Met l yX9_add (wsG yX9_add cX9_add 3 (some .boolean)) ({ frames := 0, cells := 0, slots := 0, locals := 0 }) (PcT g Ty G sz [.ref h0, .int a0]) (QwI g Ty sz (fun r u => (rgI (0) (1) r) ∧ u.1 = Ty ∧ AddR G u.2 r)) 0 0 (AF Ty sz) := by
  refine Met.ofW (cc := cX9_add) (maxL := 3) (ret := (some .boolean)) (by decide) rfl ?_
  intro p e s m args below meth c s₁ B hml hv
  obtain ⟨rfl, hsz, hK, hH⟩ := hv
  subst hsz
  have hx := B.exec
  have hb := B.bytes
  have hr := B.returns
  have hts := atoms_spec (ws := (wsG yX9_add cX9_add 3 (some .boolean))) B.pre
  have hG : ∀ w ∈ GW, w.before ([.ref h0, .int a0] : List Value).toArray s = true := fun w h => hts w (List.mem_cons_of_mem _ h)
  have hown : s.vm.findClass RX9 = some m.cls := findClass_of_methodNamed B.named
  have hlocks := B.notSynchronized
  have hl := lv_entry [.ref h0, .int a0] (n := 3) (Nat.le_of_ble_eq_true rfl)
  rw [lg_entry_eq]
  generalize (lg_sl [.ref h0, .int a0] ++ List.replicate (3 - (lg_sl [.ref h0, .int a0]).length) Slot.unset).toArray = ls at hl ⊢
  have hl : lv_has ls 3 [(0, .ref h0), (1, .int a0)] := hl
  have hS : va_S (AF Ty s.heap.size) s.heap s.heap [] := va_S.rf
  have h80 : rgI (0) (80) (G.1 0) := ht19 hH k_h0
  have L_15 : ∀ (n : Nat) (H : Heap) (locs : List Loc) (G_15 : Gh) (y2_15 : Int32) (ls : Array Slot), rgI (0) (80) (G_15.1 0) → rgI (0) (4) y2_15 → G.1 0 + 4 ≤ 80 → G_15 = gset G 0 (G.1 0 + y2_15) → (4 - (y2_15).toInt).toNat < n → lv_has ls 3 [(0, .ref h0), (1, .int a0), (2, .int y2_15)] → HT g Ty G_15 H → va_S (AF Ty s.heap.size) s.heap H locs → Wm p l e (wsG yX9_add cX9_add 3 (some .boolean)) ({ frames := 0, cells := 0, slots := 0, locals := 0 }) s m [.ref h0, .int a0] below meth c H locs (0) (0) (QwI g Ty s.heap.size (fun r u => (rgI (0) (1) r) ∧ u.1 = Ty ∧ AddR G u.2 r)) 0 0 (AF Ty s.heap.size) (F0 m 15 ls []) := by
    intro n
    induction n with
    | zero => intro H locs G_15 y2_15 ls rg0_15 ry2_15 hi0_15 hi1_15 hm; exact absurd hm (Nat.not_lt_zero _)
    | succ n ih_15 =>
      intro H locs G_15 y2_15 ls rg0_15 ry2_15 hi0_15 hi1_15 hm_15 hl hH hS
      refine lv_iload_n hx hb dX9_add_15 rfl (lv_at hl 2 rfl) ?_
      refine lv_iconst (v := 4) hx hb dX9_add_16 (by decide) ?_
      refine lv_icmp_ge (tgt := 58) hx hb dX9_add_17 (by decide) (fun c_1 => ?_) (fun c_1 => ?_)
      · have r_2 : rgI (4) (4) y2_15 := rg_w (rg_leR rl_4 ry2_15 c_1) (by decide) (by decide)
        refine lv_iconst (v := 1) hx hb dX9_add_58 (by decide) ?_
        exact W.zret hx hb hr rfl (fun t ht hWm => ⟨⟨1, (Ty, G_15), rfl, ⟨rg_w rl_1 (by decide) (by decide), ⟨rfl, Or.inr ⟨rfl, hi0_15, by rw [← show y2_15 = (4 : Int32) from rg_is (n := 4) r_2 rfl]; exact hi1_15⟩⟩⟩, by show HT g Ty G_15 t.heap; rw [ht]; exact hH⟩, hS.F ht⟩) hS.2.2 dX9_add_59
      · have r_3 : rgI (0) (3) y2_15 := rg_w (rg_ltL ry2_15 rl_4 (nle_lt c_1)) (by decide) (by decide)
        have r79 : rgI (0) (79) (G_15.1 0) := addrg h80 hi0_15 hi1_15 r_3
        refine lv_aload_n hx hb dX9_add_20 rfl (lv_at hl 0 rfl) ?_
        obtain ⟨_, ⟨q_5, rfl, kq_5, rq_6, t_7⟩, o_c_4⟩ := hH h0 _ k_h0
        refine hg_get hx hb hG igX9 hown hK o_c_4 rfl 0 (by decide) (hG _ mw_171) rfl dX9_add_21 ?_
        refine lv_aload_n hx hb dX9_add_24 rfl (lv_at hl 0 rfl) ?_
        refine hg_get hx hb hG igX9 hown hK o_c_4 rfl 1 (by decide) (hG _ mw_172) rfl dX9_add_25 ?_
        refine lv_iload_n hx hb dX9_add_28 rfl (lv_at hl 1 rfl) ?_
        refine lv_bipush (v := 24) hx hb dX9_add_29 (by decide) ?_
        refine lv_bipush (v := 8) hx hb dX9_add_31 (by decide) ?_
        refine lv_iload_n hx hb dX9_add_33 rfl (lv_at hl 2 rfl) ?_
        refine lv_imul hx hb dX9_add_34 ?_
        refine lv_topi (fun x_8 ex_8 => ?_)
        have rx_8 : rgI (0) (24) x_8 := by rw [ex_8]; exact rg_w (rg_mul rl_8 r_3 (by decide) (by decide) (by decide)) (by decide) (by decide)
        refine lv_isub hx hb dX9_add_35 ?_
        refine lv_topi (fun x_9 ex_9 => ?_)
        have rx_9 : rgI (0) (24) x_9 := by rw [ex_9]; exact rg_w (rg_sub rl_24 rx_8 (by decide) (by decide)) (by decide) (by decide)
        refine lv_iushr hx hb dX9_add_36 rfl ?_
        refine lv_topi (fun x_10 ex_10 => ?_)
        refine lv_sipush (v := 255) hx hb dX9_add_37 (by decide) ?_
        refine lv_iand hx hb dX9_add_40 ?_
        refine lv_topi (fun x_11 ex_11 => ?_)
        have rx_11 : rgI (0) (255) x_11 := by rw [ex_11]; exact rg_w (rg_and255 _) (by decide) (by decide)
        obtain ⟨_, ⟨f_13, rfl⟩, o_c_12⟩ := hH q_5 _ kq_5
        refine hg_iast hx hb hK hS o_c_12 (AF.of kq_5) (rg_in (n := 80) r79 (by decide) (by decide)) dX9_add_41 (fun H locs o_c_12 hz oq hS => ?_)
        generalize hff_14 : upd f_13 _ x_11 = f_14 at o_c_12
        have hH : HT g Ty G_15 H := hH.put kq_5 ⟨_, rfl⟩ o_c_12 oq
        have o_c_4 := o_c_4.kept (oq _ (ne_kd k_h0 kq_5 (by decide)))
        clear oq hz
        refine lv_aload_n hx hb dX9_add_42 rfl (lv_at hl 0 rfl) ?_
        refine lv_dup hx hb dX9_add_43 rfl ?_
        refine hg_get hx hb hG igX9 hown hK o_c_4 rfl 1 (by decide) (hG _ mw_172) rfl dX9_add_44 ?_
        refine lv_iconst (v := 1) hx hb dX9_add_47 (by decide) ?_
        refine lv_iadd hx hb dX9_add_48 ?_
        refine lv_topi (fun x_15 ex_15 => ?_)
        have rx_15 : rgI (1) (80) x_15 := by rw [ex_15]; exact rg_w (rg_add r79 rl_1 (by decide) (by decide)) (by decide) (by decide)
        have qx_15 : x_15.toInt = ((G_15.1 0) : Int32).toInt + 1 := by rw [ex_15]; exact rg_addE r79 rl_1 (by decide) (by decide)
        refine hg_put (ty := .int) hx hb hG igX9 tyX9 tyX9_ok nmX9 hown hK hS o_c_4 (AF.of k_h0) rfl 1 (by decide) (hG _ mw_172) rfl (by decide +kernel) rfl rfl (Nat.le_of_ble_eq_true rfl) dX9_add_49 (fun H locs o_c_4 hz oq hS => ?_)
        obtain ⟨G_16, eG_16⟩ : ∃ z : Gh, z = gset G_15 0 x_15 := ⟨_, rfl⟩
        have hH : HT g Ty G_16 H := by rw [eG_16]; exact HT.putN 0 x_15 hH k_h0 ⟨q_5, rfl, kq_5, (rgu (rg_w rx_15 (by decide) (by decide))), t_7⟩ o_c_4 oq (Or.inl ⟨rfl, t_7⟩)
        have u_17 : G_16.1 0 = x_15 := by rw [eG_16]; exact gs_eq
        have o_c_12 := o_c_12.kept (oq _ (ne_kd kq_5 k_h0 (by decide)))
        clear oq hz
        obtain ⟨x_18, ex_18⟩ : ∃ y : Int32, y = y2_15 + 1 := ⟨_, rfl⟩
        have rx_18 : rgI (1) (4) x_18 := by rw [ex_18]; exact rg_w (rg_add r_3 rl_1 (by decide) (by decide)) (by decide) (by decide)
        have qx_18 : x_18.toInt = (y2_15 : Int32).toInt + 1 := by rw [ex_18]; exact rg_addE r_3 rl_1 (by decide) (by decide)
        refine lv_iinc (v := x_18) (lv' := [(2, .int x_18), (0, .ref h0), (1, .int a0)]) hx hb dX9_add_52 hl (k := 2) rfl (by rw [ex_18]; rfl) (by decide) rfl (fun ls hl => ?_)
        refine lv_goto (tgt := 15) hx hb dX9_add_55 (by decide) ?_
        exact ih_15 H locs G_16 x_18 ls (by rw [u_17]; exact rg_w rx_15 (by decide) (by decide)) (rg_w rx_18 (by decide) (by decide)) hi0_15 (addmore hi1_15 ex_15 eG_16 ex_18) (by have h1 := qx_18; have h2 := r_3.1; have h3 := r_3.2; have h4 := hm_15; omega) (lv_sub hl [1, 2, 0] rfl) hH hS
  refine lv_aload_n hx hb dX9_add_0 rfl (lv_at hl 0 rfl) ?_
  obtain ⟨_, ⟨q_20, rfl, kq_20, rq_21, t_22⟩, o_c_19⟩ := hH h0 _ k_h0
  refine hg_get hx hb hG igX9 hown hK o_c_19 rfl 1 (by decide) (hG _ mw_172) rfl dX9_add_1 ?_
  refine lv_iconst (v := 4) hx hb dX9_add_4 (by decide) ?_
  refine lv_iadd hx hb dX9_add_5 ?_
  refine lv_topi (fun x_23 ex_23 => ?_)
  have rx_23 : rgI (4) (84) x_23 := by rw [ex_23]; exact rg_w (rg_add h80 rl_4 (by decide) (by decide)) (by decide) (by decide)
  have qx_23 : x_23.toInt = ((G.1 0) : Int32).toInt + 4 := by rw [ex_23]; exact rg_addE h80 rl_4 (by decide) (by decide)
  refine lv_bipush (v := 80) hx hb dX9_add_6 (by decide) ?_
  refine lv_icmp_le (tgt := 13) hx hb dX9_add_8 (by decide) (fun c_24 => ?_) (fun c_24 => ?_)
  · have r_25 : rgI (4) (80) x_23 := rg_w (rg_leL rx_23 rl_80 c_24) (by decide) (by decide)
    refine lv_iconst (v := 0) hx hb dX9_add_13 (by decide) ?_
    refine lv_istore_n (lv' := [(2, .int 0), (0, .ref h0), (1, .int a0)]) hx hb dX9_add_14 rfl hl (by decide) rfl (fun ls hl => ?_)
    exact L_15 _ s.heap [] G 0 ls (rg_w h80 (by decide) (by decide)) (rg_w rl_0 (by decide) (by decide)) (by rw [← ex_23]; exact c_24) (gs_id (by simp)).symm (Nat.lt_succ_self _) (lv_sub hl [1, 2, 0] rfl) hH hS
  · have r_26 : rgI (81) (84) x_23 := rg_w (rg_ltR rl_80 rx_23 (nle_lt c_24)) (by decide) (by decide)
    refine lv_iconst (v := 0) hx hb dX9_add_11 (by decide) ?_
    exact W.zret hx hb hr rfl (fun t ht hWm => ⟨⟨0, (Ty, G), rfl, ⟨rg_w rl_0 (by decide) (by decide), ⟨rfl, Or.inl ⟨rfl, by rw [← ex_23]; exact (nle_lt c_24), rfl⟩⟩⟩, by show HT g Ty G t.heap; rw [ht]; exact hH⟩, hS.F ht⟩) hS.2.2 dX9_add_12

set_option maxHeartbeats 4000000 in
set_option maxRecDepth 100000 in
theorem c_X5_see (l : Launch) (g : Gx) (Ty : TyM) (G : Gh) (sz : Nat) (h0 : Nat) (a0 : Int32) (a1 : Int32) (a2 : Int32) (k_h0 : Ty h0 = some (15, 0)) : Met l yX5_see (wsG yX5_see cX5_see 4 (some .boolean)) ({ frames := 0, cells := 0, slots := 0, locals := 0 }) (PcT g Ty G sz [.ref h0, .int a0, .int a1, .int a2]) (QwI g Ty sz (fun r u => (rgI (0) (1) r) ∧ u.1 = Ty ∧ SeeR g G u.2 r a0 a1 a2)) 0 0 (AF Ty sz) := by
  refine Met.ofW (cc := cX5_see) (maxL := 4) (ret := (some .boolean)) (by decide) rfl ?_
  intro p e s m args below meth c s₁ B hml hv
  obtain ⟨rfl, hsz, hK, hH⟩ := hv
  subst hsz
  have hx := B.exec
  have hb := B.bytes
  have hr := B.returns
  have hts := atoms_spec (ws := (wsG yX5_see cX5_see 4 (some .boolean))) B.pre
  have hG : ∀ w ∈ GW, w.before ([.ref h0, .int a0, .int a1, .int a2] : List Value).toArray s = true := fun w h => hts w (List.mem_cons_of_mem _ h)
  have hown : s.vm.findClass RX5 = some m.cls := findClass_of_methodNamed B.named
  have hlocks := B.notSynchronized
  have hl := lv_entry [.ref h0, .int a0, .int a1, .int a2] (n := 4) (Nat.le_of_ble_eq_true rfl)
  rw [lg_entry_eq]
  generalize (lg_sl [.ref h0, .int a0, .int a1, .int a2] ++ List.replicate (4 - (lg_sl [.ref h0, .int a0, .int a1, .int a2]).length) Slot.unset).toArray = ls at hl ⊢
  have hl : lv_has ls 4 [(0, .ref h0), (1, .int a0), (2, .int a1), (3, .int a2)] := hl
  have hS : va_S (AF Ty s.heap.size) s.heap s.heap [] := va_S.rf
  have h10 : rgI (0) (10) (G.1 2) := ht15 hH k_h0
  refine lv_iload_n hx hb dX5_see_0 rfl (lv_at hl 1 rfl) ?_
  refine lv_if_lt (tgt := 37) hx hb dX5_see_1 (by decide) (fun c_1 => ?_) (fun c_1 => ?_)
  · have r_2 : rgI (-2147483648) (-1) a0 := rg_w (rg_ltL (rg_top a0) rl_0 c_1) (by decide) (by decide)
    refine lv_iconst (v := 0) hx hb dX5_see_37 (by decide) ?_
    exact W.zret hx hb hr rfl (fun t ht hWm => ⟨⟨0, (Ty, G), rfl, ⟨rg_w rl_0 (by decide) (by decide), ⟨rfl, Or.inl ⟨rfl, (fun h => h.1 c_1), rfl⟩⟩⟩, by show HT g Ty G t.heap; rw [ht]; exact hH⟩, hS.F ht⟩) hS.2.2 dX5_see_38
  · have r_3 : rgI (0) (2147483647) a0 := rg_w (rg_leR rl_0 (rg_top a0) (nlt_le c_1)) (by decide) (by decide)
    refine lv_iload_n hx hb dX5_see_4 rfl (lv_at hl 1 rfl) ?_
    refine lv_bipush (v := 9) hx hb dX5_see_5 (by decide) ?_
    refine lv_icmp_gt (tgt := 37) hx hb dX5_see_7 (by decide) (fun c_4 => ?_) (fun c_4 => ?_)
    · have r_5 : rgI (10) (2147483647) a0 := rg_w (rg_ltR rl_9 r_3 c_4) (by decide) (by decide)
      refine lv_iconst (v := 0) hx hb dX5_see_37 (by decide) ?_
      exact W.zret hx hb hr rfl (fun t ht hWm => ⟨⟨0, (Ty, G), rfl, ⟨rg_w rl_0 (by decide) (by decide), ⟨rfl, Or.inl ⟨rfl, (fun h => h.2.1 c_4), rfl⟩⟩⟩, by show HT g Ty G t.heap; rw [ht]; exact hH⟩, hS.F ht⟩) hS.2.2 dX5_see_38
    · have r_6 : rgI (0) (9) a0 := rg_w (rg_leL r_3 rl_9 (nlt_le c_4)) (by decide) (by decide)
      refine lv_iload_n hx hb dX5_see_10 rfl (lv_at hl 2 rfl) ?_
      refine lv_if_lt (tgt := 37) hx hb dX5_see_11 (by decide) (fun c_7 => ?_) (fun c_7 => ?_)
      · have r_8 : rgI (-2147483648) (-1) a1 := rg_w (rg_ltL (rg_top a1) rl_0 c_7) (by decide) (by decide)
        refine lv_iconst (v := 0) hx hb dX5_see_37 (by decide) ?_
        exact W.zret hx hb hr rfl (fun t ht hWm => ⟨⟨0, (Ty, G), rfl, ⟨rg_w rl_0 (by decide) (by decide), ⟨rfl, Or.inl ⟨rfl, (fun h => h.2.2.1 c_7), rfl⟩⟩⟩, by show HT g Ty G t.heap; rw [ht]; exact hH⟩, hS.F ht⟩) hS.2.2 dX5_see_38
      · have r_9 : rgI (0) (2147483647) a1 := rg_w (rg_leR rl_0 (rg_top a1) (nlt_le c_7)) (by decide) (by decide)
        refine lv_iload_n hx hb dX5_see_14 rfl (lv_at hl 2 rfl) ?_
        refine lv_iconst (v := 4) hx hb dX5_see_15 (by decide) ?_
        refine lv_icmp_gt (tgt := 37) hx hb dX5_see_16 (by decide) (fun c_10 => ?_) (fun c_10 => ?_)
        · have r_11 : rgI (5) (2147483647) a1 := rg_w (rg_ltR rl_4 r_9 c_10) (by decide) (by decide)
          refine lv_iconst (v := 0) hx hb dX5_see_37 (by decide) ?_
          exact W.zret hx hb hr rfl (fun t ht hWm => ⟨⟨0, (Ty, G), rfl, ⟨rg_w rl_0 (by decide) (by decide), ⟨rfl, Or.inl ⟨rfl, (fun h => h.2.2.2.1 c_10), rfl⟩⟩⟩, by show HT g Ty G t.heap; rw [ht]; exact hH⟩, hS.F ht⟩) hS.2.2 dX5_see_38
        · have r_12 : rgI (0) (4) a1 := rg_w (rg_leL r_9 rl_4 (nlt_le c_10)) (by decide) (by decide)
          refine lv_iload_n hx hb dX5_see_19 rfl (lv_at hl 3 rfl) ?_
          refine lv_if_lt (tgt := 37) hx hb dX5_see_20 (by decide) (fun c_13 => ?_) (fun c_13 => ?_)
          · have r_14 : rgI (-2147483648) (-1) a2 := rg_w (rg_ltL (rg_top a2) rl_0 c_13) (by decide) (by decide)
            refine lv_iconst (v := 0) hx hb dX5_see_37 (by decide) ?_
            exact W.zret hx hb hr rfl (fun t ht hWm => ⟨⟨0, (Ty, G), rfl, ⟨rg_w rl_0 (by decide) (by decide), ⟨rfl, Or.inl ⟨rfl, (fun h => h.2.2.2.2.1 c_13), rfl⟩⟩⟩, by show HT g Ty G t.heap; rw [ht]; exact hH⟩, hS.F ht⟩) hS.2.2 dX5_see_38
          · have r_15 : rgI (0) (2147483647) a2 := rg_w (rg_leR rl_0 (rg_top a2) (nlt_le c_13)) (by decide) (by decide)
            refine lv_iload_n hx hb dX5_see_23 rfl (lv_at hl 3 rfl) ?_
            refine lv_iconst (v := 1) hx hb dX5_see_24 (by decide) ?_
            refine lv_icmp_gt (tgt := 37) hx hb dX5_see_25 (by decide) (fun c_16 => ?_) (fun c_16 => ?_)
            · have r_17 : rgI (2) (2147483647) a2 := rg_w (rg_ltR rl_1 r_15 c_16) (by decide) (by decide)
              refine lv_iconst (v := 0) hx hb dX5_see_37 (by decide) ?_
              exact W.zret hx hb hr rfl (fun t ht hWm => ⟨⟨0, (Ty, G), rfl, ⟨rg_w rl_0 (by decide) (by decide), ⟨rfl, Or.inl ⟨rfl, (fun h => h.2.2.2.2.2.1 c_16), rfl⟩⟩⟩, by show HT g Ty G t.heap; rw [ht]; exact hH⟩, hS.F ht⟩) hS.2.2 dX5_see_38
            · have r_18 : rgI (0) (1) a2 := rg_w (rg_leL r_15 rl_1 (nlt_le c_16)) (by decide) (by decide)
              refine lv_aload_n hx hb dX5_see_28 rfl (lv_at hl 0 rfl) ?_
              obtain ⟨_, ⟨q_20, q_21, q_22, q_24, rfl, kq_20, kq_21, kq_22, rq_23, t_25⟩, o_c_19⟩ := hH h0 _ k_h0
              refine hg_get hx hb hG igX5 hown hK o_c_19 rfl 3 (by decide) (hG _ mw_324) rfl dX5_see_29 ?_
              refine lv_bipush (v := 10) hx hb dX5_see_32 (by decide) ?_
              refine lv_icmp_lt (tgt := 39) hx hb dX5_see_34 (by decide) (fun c_26 => ?_) (fun c_26 => ?_)
              · have r_27 : rgI (0) (9) (G.1 2) := rg_w (rg_ltL h10 rl_10 c_26) (by decide) (by decide)
                refine lv_aload_n hx hb dX5_see_39 rfl (lv_at hl 0 rfl) ?_
                refine hg_get hx hb hG igX5 hown hK o_c_19 rfl 0 (by decide) (hG _ mw_321) rfl dX5_see_40 ?_
                refine lv_aload_n hx hb dX5_see_43 rfl (lv_at hl 0 rfl) ?_
                refine hg_get hx hb hG igX5 hown hK o_c_19 rfl 3 (by decide) (hG _ mw_324) rfl dX5_see_44 ?_
                refine lv_iload_n hx hb dX5_see_47 rfl (lv_at hl 1 rfl) ?_
                obtain ⟨_, rfl, o_c_28⟩ := hH q_20 _ kq_20
                have o_c_28 : va_at g.1 vwCl (q_20, .inl (g.2.1 1, 10, .inl (G.2.1 q_20))) s.heap := o_c_28
                refine hg_iast hx hb hK hS o_c_28 (AF.of kq_20) (rg_in (n := 10) r_27 (by decide) (by decide)) dX5_see_48 (fun H locs o_c_28 hz oq hS => ?_)
                obtain ⟨G_s1, eG_s1⟩ : ∃ z : Gh, z = aset G q_20 (upd (G.2.1 q_20) (G.1 2).toNatClampNeg a0) := ⟨_, rfl⟩
                have hH : HT g Ty G_s1 H := by rw [eG_s1]; exact HT.putA _ hH kq_20 cf30 o_c_28 oq
                have o_c_19 := o_c_19.kept (oq _ (ne_kd k_h0 kq_20 (by decide)))
                clear oq hz
                refine lv_aload_n hx hb dX5_see_49 rfl (lv_at hl 0 rfl) ?_
                refine hg_get hx hb hG igX5 hown hK o_c_19 rfl 1 (by decide) (hG _ mw_322) rfl dX5_see_50 ?_
                refine lv_aload_n hx hb dX5_see_53 rfl (lv_at hl 0 rfl) ?_
                refine hg_get hx hb hG igX5 hown hK o_c_19 rfl 3 (by decide) (hG _ mw_324) rfl dX5_see_54 ?_
                refine lv_iload_n hx hb dX5_see_57 rfl (lv_at hl 2 rfl) ?_
                obtain ⟨_, rfl, o_c_31⟩ := hH q_21 _ kq_21
                have o_c_31 : va_at g.1 vwCl (q_21, .inl (g.2.1 1, 10, .inl (G_s1.2.1 q_21))) H := o_c_31
                refine hg_iast hx hb hK hS o_c_31 (AF.of kq_21) (rg_in (n := 10) r_27 (by decide) (by decide)) dX5_see_58 (fun H locs o_c_31 hz oq hS => ?_)
                obtain ⟨G_s2, eG_s2⟩ : ∃ z : Gh, z = aset G_s1 q_21 (upd (G_s1.2.1 q_21) (G.1 2).toNatClampNeg a1) := ⟨_, rfl⟩
                have hH : HT g Ty G_s2 H := by rw [eG_s2]; exact HT.putA _ hH kq_21 cf30 o_c_31 oq
                have o_c_19 := o_c_19.kept (oq _ (ne_kd k_h0 kq_21 (by decide)))
                clear oq hz
                refine lv_aload_n hx hb dX5_see_59 rfl (lv_at hl 0 rfl) ?_
                refine hg_get hx hb hG igX5 hown hK o_c_19 rfl 2 (by decide) (hG _ mw_323) rfl dX5_see_60 ?_
                refine lv_aload_n hx hb dX5_see_63 rfl (lv_at hl 0 rfl) ?_
                refine hg_get hx hb hG igX5 hown hK o_c_19 rfl 3 (by decide) (hG _ mw_324) rfl dX5_see_64 ?_
                refine lv_iload_n hx hb dX5_see_67 rfl (lv_at hl 3 rfl) ?_
                obtain ⟨_, rfl, o_c_34⟩ := hH q_22 _ kq_22
                have o_c_34 : va_at g.1 vwCl (q_22, .inl (g.2.1 1, 10, .inl (G_s2.2.1 q_22))) H := o_c_34
                refine hg_iast hx hb hK hS o_c_34 (AF.of kq_22) (rg_in (n := 10) r_27 (by decide) (by decide)) dX5_see_68 (fun H locs o_c_34 hz oq hS => ?_)
                obtain ⟨G_s3, eG_s3⟩ : ∃ z : Gh, z = aset G_s2 q_22 (upd (G_s2.2.1 q_22) (G.1 2).toNatClampNeg a2) := ⟨_, rfl⟩
                have hH : HT g Ty G_s3 H := by rw [eG_s3]; exact HT.putA _ hH kq_22 cf30 o_c_34 oq
                have o_c_19 := o_c_19.kept (oq _ (ne_kd k_h0 kq_22 (by decide)))
                clear oq hz
                refine lv_aload_n hx hb dX5_see_69 rfl (lv_at hl 0 rfl) ?_
                refine lv_dup hx hb dX5_see_70 rfl ?_
                refine hg_get hx hb hG igX5 hown hK o_c_19 rfl 3 (by decide) (hG _ mw_324) rfl dX5_see_71 ?_
                refine lv_iconst (v := 1) hx hb dX5_see_74 (by decide) ?_
                refine lv_iadd hx hb dX5_see_75 ?_
                refine lv_topi (fun x_37 ex_37 => ?_)
                have rx_37 : rgI (1) (10) x_37 := by rw [ex_37]; exact rg_w (rg_add r_27 rl_1 (by decide) (by decide)) (by decide) (by decide)
                have qx_37 : x_37.toInt = ((G.1 2) : Int32).toInt + 1 := by rw [ex_37]; exact rg_addE r_27 rl_1 (by decide) (by decide)
                refine hg_put (ty := .int) hx hb hG igX5 tyX5 tyX5_ok nmX5 hown hK hS o_c_19 (AF.of k_h0) rfl 3 (by decide) (hG _ mw_324) rfl (by decide +kernel) rfl rfl (Nat.le_of_ble_eq_true rfl) dX5_see_76 (fun H locs o_c_19 hz oq hS => ?_)
                obtain ⟨G_38, eG_38⟩ : ∃ z : Gh, z = gset G_s3 2 x_37 := ⟨_, rfl⟩
                have hH : HT g Ty G_38 H := by rw [eG_38]; exact HT.putN 2 x_37 hH k_h0 ⟨q_20, q_21, q_22, q_24, rfl, kq_20, kq_21, kq_22, (rgu (rg_w rx_37 (by decide) (by decide))), t_25⟩ o_c_19 oq (Or.inr (Or.inr (Or.inl ⟨rfl, t_25.1⟩)))
                have u_39 : G_38.1 2 = x_37 := by rw [eG_38]; exact gs_eq
                clear oq hz
                refine lv_iconst (v := 1) hx hb dX5_see_79 (by decide) ?_
                exact W.zret hx hb hr rfl (fun t ht hWm => ⟨⟨1, (Ty, G_38), rfl, ⟨rg_w rl_1 (by decide) (by decide), ⟨rfl, Or.inr ⟨rfl, ⟨c_1, c_4, c_7, c_10, c_13, c_16, c_26⟩, by rw [eG_38, ex_37, eG_s3, eG_s2, eG_s1, t_25.2.1, t_25.2.2.1, t_25.2.2.2]; rfl⟩⟩⟩, by show HT g Ty G_38 t.heap; rw [ht]; exact hH⟩, hS.F ht⟩) hS.2.2 dX5_see_80
              · have r_40 : rgI (10) (10) (G.1 2) := rg_w (rg_leR rl_10 h10 (nlt_le c_26)) (by decide) (by decide)
                refine lv_iconst (v := 0) hx hb dX5_see_37 (by decide) ?_
                exact W.zret hx hb hr rfl (fun t ht hWm => ⟨⟨0, (Ty, G), rfl, ⟨rg_w rl_0 (by decide) (by decide), ⟨rfl, Or.inl ⟨rfl, (fun h => c_26 h.2.2.2.2.2.2), rfl⟩⟩⟩, by show HT g Ty G t.heap; rw [ht]; exact hH⟩, hS.F ht⟩) hS.2.2 dX5_see_38
