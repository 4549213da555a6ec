set_option maxHeartbeats 4000000 in
set_option maxRecDepth 100000 in
theorem c_X9_clear (l : Launch) (g : Gx) (Ty : TyM) (G : Gh) (sz : Nat) (h0 : Nat) (k_h0 : Ty h0 = some (19, 0)) : Met l yX9_clear (wsG yX9_clear cX9_clear 1 none) ({ frames := 0, cells := 0, slots := 0, locals := 0 }) (PcT g Ty G sz [.ref h0]) (QwV g Ty sz (fun u => u.1 = Ty ∧ u.2 = gset G 0 0)) 0 0 (AF Ty sz) := by
  refine Met.ofW (cc := cX9_clear) (maxL := 1) (ret := none) (by decide) rfl ?_
  intro p e s m args below meth c s₁ B hml hv
  obtain ⟨rfl, hsz, hK, hH⟩ := hv
  subst hsz
  have hx := B.exec
  have hb := B.bytes
  have hr := B.returns
  have hts := atoms_spec (ws := (wsG yX9_clear cX9_clear 1 none)) B.pre
  have hG : ∀ w ∈ GW, w.before ([.ref h0] : List Value).toArray s = true := fun w h => hts w (List.mem_cons_of_mem _ h)
  have hown : s.vm.findClass RX9 = some m.cls := findClass_of_methodNamed B.named
  have hlocks := B.notSynchronized
  have hl := lv_entry [.ref h0] (n := 1) (Nat.le_of_ble_eq_true rfl)
  rw [lg_entry_eq]
  generalize (lg_sl [.ref h0] ++ List.replicate (1 - (lg_sl [.ref h0]).length) Slot.unset).toArray = ls at hl ⊢
  have hl : lv_has ls 1 [(0, .ref h0)] := hl
  have hS : va_S (AF Ty s.heap.size) s.heap s.heap [] := va_S.rf
  refine lv_aload_n hx hb dX9_clear_0 rfl (lv_at hl 0 rfl) ?_
  refine lv_iconst (v := 0) hx hb dX9_clear_1 (by decide) ?_
  obtain ⟨_, ⟨q_2, rfl, kq_2, rq_3, t_4⟩, o_c_1⟩ := hH h0 _ k_h0
  refine hg_put (ty := .int) hx hb hG igX9 tyX9 tyX9_ok nmX9 hown hK hS o_c_1 (AF.of k_h0) rfl 1 (by decide) (hG _ mw_172) rfl (by decide +kernel) rfl rfl (Nat.le_of_ble_eq_true rfl) dX9_clear_2 (fun H locs o_c_1 hz oq hS => ?_)
  obtain ⟨G_5, eG_5⟩ : ∃ z : Gh, z = gset G 0 0 := ⟨_, rfl⟩
  have hH : HT g Ty G_5 H := by rw [eG_5]; exact HT.putN 0 0 hH k_h0 ⟨q_2, rfl, kq_2, (rgu (rg_w rl_0 (by decide) (by decide))), t_4⟩ o_c_1 oq (Or.inl ⟨rfl, t_4⟩)
  have u_6 : G_5.1 0 = 0 := by rw [eG_5]; exact gs_eq
  clear oq hz
  exact W.vret hx hb hr (fun t ht hWm => ⟨⟨(Ty, G_5), rfl, ⟨rfl, eG_5⟩, by show HT g Ty G_5 t.heap; rw [ht]; exact hH⟩, hS.F ht⟩) hS.2.2 dX9_clear_5

set_option maxHeartbeats 4000000 in
set_option maxRecDepth 100000 in
theorem c_X9_cut (l : Launch) (g : Gx) (Ty : TyM) (G : Gh) (sz : Nat) (h0 : Nat) (a0 : Int32) (k_h0 : Ty h0 = some (19, 0)) : Met l yX9_cut (wsG yX9_cut cX9_cut 2 (some .boolean)) ({ frames := 0, cells := 0, slots := 0, locals := 0 }) (PcT g Ty G sz [.ref h0, .int a0]) (QwI g Ty sz (fun r u => (rgI (0) (1) r) ∧ u.1 = Ty ∧ CutR G u.2 r a0)) 0 0 (AF Ty sz) := by
  refine Met.ofW (cc := cX9_cut) (maxL := 2) (ret := (some .boolean)) (by decide) rfl ?_
  intro p e s m args below meth c s₁ B hml hv
  obtain ⟨rfl, hsz, hK, hH⟩ := hv
  subst hsz
  have hx := B.exec
  have hb := B.bytes
  have hr := B.returns
  have hts := atoms_spec (ws := (wsG yX9_cut cX9_cut 2 (some .boolean))) B.pre
  have hG : ∀ w ∈ GW, w.before ([.ref h0, .int a0] : List Value).toArray s = true := fun w h => hts w (List.mem_cons_of_mem _ h)
  have hown : s.vm.findClass RX9 = some m.cls := findClass_of_methodNamed B.named
  have hlocks := B.notSynchronized
  have hl := lv_entry [.ref h0, .int a0] (n := 2) (Nat.le_of_ble_eq_true rfl)
  rw [lg_entry_eq]
  generalize (lg_sl [.ref h0, .int a0] ++ List.replicate (2 - (lg_sl [.ref h0, .int a0]).length) Slot.unset).toArray = ls at hl ⊢
  have hl : lv_has ls 2 [(0, .ref h0), (1, .int a0)] := hl
  have hS : va_S (AF Ty s.heap.size) s.heap s.heap [] := va_S.rf
  have h80 : rgI (0) (80) (G.1 0) := ht19 hH k_h0
  refine lv_iload_n hx hb dX9_cut_0 rfl (lv_at hl 1 rfl) ?_
  refine lv_if_lt (tgt := 12) hx hb dX9_cut_1 (by decide) (fun c_1 => ?_) (fun c_1 => ?_)
  · have r_2 : rgI (-2147483648) (-1) a0 := rg_w (rg_ltL (rg_top a0) rl_0 c_1) (by decide) (by decide)
    refine lv_iconst (v := 0) hx hb dX9_cut_12 (by decide) ?_
    exact W.zret hx hb hr rfl (fun t ht hWm => ⟨⟨0, (Ty, G), rfl, ⟨rg_w rl_0 (by decide) (by decide), ⟨rfl, Or.inl ⟨rfl, Or.inl c_1, rfl⟩⟩⟩, by show HT g Ty G t.heap; rw [ht]; exact hH⟩, hS.F ht⟩) hS.2.2 dX9_cut_13
  · have r_3 : rgI (0) (2147483647) a0 := rg_w (rg_leR rl_0 (rg_top a0) (nlt_le c_1)) (by decide) (by decide)
    refine lv_iload_n hx hb dX9_cut_4 rfl (lv_at hl 1 rfl) ?_
    refine lv_aload_n hx hb dX9_cut_5 rfl (lv_at hl 0 rfl) ?_
    obtain ⟨_, ⟨q_5, rfl, kq_5, rq_6, t_7⟩, o_c_4⟩ := hH h0 _ k_h0
    refine hg_get hx hb hG igX9 hown hK o_c_4 rfl 1 (by decide) (hG _ mw_172) rfl dX9_cut_6 ?_
    refine lv_icmp_le (tgt := 14) hx hb dX9_cut_9 (by decide) (fun c_8 => ?_) (fun c_8 => ?_)
    · have r_9 : rgI (0) (80) a0 := rg_w (rg_leL r_3 h80 c_8) (by decide) (by decide)
      refine lv_aload_n hx hb dX9_cut_14 rfl (lv_at hl 0 rfl) ?_
      refine lv_iload_n hx hb dX9_cut_15 rfl (lv_at hl 1 rfl) ?_
      refine hg_put (ty := .int) hx hb hG igX9 tyX9 tyX9_ok nmX9 hown hK hS o_c_4 (AF.of k_h0) rfl 1 (by decide) (hG _ mw_172) rfl (by decide +kernel) rfl rfl (Nat.le_of_ble_eq_true rfl) dX9_cut_16 (fun H locs o_c_4 hz oq hS => ?_)
      obtain ⟨G_10, eG_10⟩ : ∃ z : Gh, z = gset G 0 a0 := ⟨_, rfl⟩
      have hH : HT g Ty G_10 H := by rw [eG_10]; exact HT.putN 0 a0 hH k_h0 ⟨q_5, rfl, kq_5, (rgu (rg_w r_9 (by decide) (by decide))), t_7⟩ o_c_4 oq (Or.inl ⟨rfl, t_7⟩)
      have u_11 : G_10.1 0 = a0 := by rw [eG_10]; exact gs_eq
      clear oq hz
      refine lv_iconst (v := 1) hx hb dX9_cut_19 (by decide) ?_
      exact W.zret hx hb hr rfl (fun t ht hWm => ⟨⟨1, (Ty, G_10), rfl, ⟨rg_w rl_1 (by decide) (by decide), ⟨rfl, Or.inr ⟨rfl, c_1, c_8, eG_10⟩⟩⟩, by show HT g Ty G_10 t.heap; rw [ht]; exact hH⟩, hS.F ht⟩) hS.2.2 dX9_cut_20
    · have r_12 : rgI (1) (2147483647) a0 := rg_w (rg_ltR h80 r_3 (nle_lt c_8)) (by decide) (by decide)
      refine lv_iconst (v := 0) hx hb dX9_cut_12 (by decide) ?_
      exact W.zret hx hb hr rfl (fun t ht hWm => ⟨⟨0, (Ty, G), rfl, ⟨rg_w rl_0 (by decide) (by decide), ⟨rfl, Or.inl ⟨rfl, Or.inr (nle_lt c_8), rfl⟩⟩⟩, by show HT g Ty G t.heap; rw [ht]; exact hH⟩, hS.F ht⟩) hS.2.2 dX9_cut_13

set_option maxHeartbeats 4000000 in
set_option maxRecDepth 100000 in
theorem c_X9_add (l : Launch) (g : Gx) (Ty : TyM) (G : Gh) (sz : Nat) (h0 : Nat) (a0 : Int32) (k_h0 : Ty h0 = some (19, 0)) : Met l yX9_add (wsG yX9_add cX9_add 3 (some .boolean)) ({ frames := 0, cells := 0, slots := 0, locals := 0 }) (PcT g Ty G sz [.ref h0, .int a0]) (QwI g Ty sz (fun r u => (rgI (0) (1) r) ∧ u.1 = Ty ∧ AddR G u.2 r)) 0 0 (AF Ty sz) := by
  refine Met.ofW (cc := cX9_add) (maxL := 3) (ret := (some .boolean)) (by decide) rfl ?_
  intro p e s m args below meth c s₁ B hml hv
  obtain ⟨rfl, hsz, hK, hH⟩ := hv
  subst hsz
  have hx := B.exec
  have hb := B.bytes
  have hr := B.returns
  have hts := atoms_spec (ws := (wsG yX9_add cX9_add 3 (some .boolean))) B.pre
  have hG : ∀ w ∈ GW, w.before ([.ref h0, .int a0] : List Value).toArray s = true := fun w h => hts w (List.mem_cons_of_mem _ h)
  have hown : s.vm.findClass RX9 = some m.cls := findClass_of_methodNamed B.named
  have hlocks := B.notSynchronized
  have hl := lv_entry [.ref h0, .int a0] (n := 3) (Nat.le_of_ble_eq_true rfl)
  rw [lg_entry_eq]
  generalize (lg_sl [.ref h0, .int a0] ++ List.replicate (3 - (lg_sl [.ref h0, .int a0]).length) Slot.unset).toArray = ls at hl ⊢
  have hl : lv_has ls 3 [(0, .ref h0), (1, .int a0)] := hl
  have hS : va_S (AF Ty s.heap.size) s.heap s.heap [] := va_S.rf
  have h80 : rgI (0) (80) (G.1 0) := ht19 hH k_h0
  have L_15 : ∀ (n : Nat) (H : Heap) (locs : List Loc) (G_15 : Gh) (y2_15 : Int32) (ls : Array Slot), rgI (0) (80) (G_15.1 0) → rgI (0) (4) y2_15 → G.1 0 + 4 ≤ 80 → G_15 = gset G 0 (G.1 0 + y2_15) → (4 - (y2_15).toInt).toNat < n → lv_has ls 3 [(0, .ref h0), (1, .int a0), (2, .int y2_15)] → HT g Ty G_15 H → va_S (AF Ty s.heap.size) s.heap H locs → Wm p l e (wsG yX9_add cX9_add 3 (some .boolean)) ({ frames := 0, cells := 0, slots := 0, locals := 0 }) s m [.ref h0, .int a0] below meth c H locs (0) (0) (QwI g Ty s.heap.size (fun r u => (rgI (0) (1) r) ∧ u.1 = Ty ∧ AddR G u.2 r)) 0 0 (AF Ty s.heap.size) (F0 m 15 ls []) := by
    intro n
    induction n with
    | zero => intro H locs G_15 y2_15 ls rg0_15 ry2_15 hi0_15 hi1_15 hm; exact absurd hm (Nat.not_lt_zero _)
    | succ n ih_15 =>
      intro H locs G_15 y2_15 ls rg0_15 ry2_15 hi0_15 hi1_15 hm_15 hl hH hS
      refine lv_iload_n hx hb dX9_add_15 rfl (lv_at hl 2 rfl) ?_
      refine lv_iconst (v := 4) hx hb dX9_add_16 (by decide) ?_
      refine lv_icmp_ge (tgt := 58) hx hb dX9_add_17 (by decide) (fun c_1 => ?_) (fun c_1 => ?_)
      · have r_2 : rgI (4) (4) y2_15 := rg_w (rg_leR rl_4 ry2_15 c_1) (by decide) (by decide)
        refine lv_iconst (v := 1) hx hb dX9_add_58 (by decide) ?_
        exact W.zret hx hb hr rfl (fun t ht hWm => ⟨⟨1, (Ty, G_15), rfl, ⟨rg_w rl_1 (by decide) (by decide), ⟨rfl, Or.inr ⟨rfl, hi0_15, by rw [← show y2_15 = (4 : Int32) from rg_is (n := 4) r_2 rfl]; exact hi1_15⟩⟩⟩, by show HT g Ty G_15 t.heap; rw [ht]; exact hH⟩, hS.F ht⟩) hS.2.2 dX9_add_59
      · have r_3 : rgI (0) (3) y2_15 := rg_w (rg_ltL ry2_15 rl_4 (nle_lt c_1)) (by decide) (by decide)
        have r79 : rgI (0) (79) (G_15.1 0) := addrg h80 hi0_15 hi1_15 r_3
        refine lv_aload_n hx hb dX9_add_20 rfl (lv_at hl 0 rfl) ?_
        obtain ⟨_, ⟨q_5, rfl, kq_5, rq_6, t_7⟩, o_c_4⟩ := hH h0 _ k_h0
        refine hg_get hx hb hG igX9 hown hK o_c_4 rfl 0 (by decide) (hG _ mw_171) rfl dX9_add_21 ?_
        refine lv_aload_n hx hb dX9_add_24 rfl (lv_at hl 0 rfl) ?_
        refine hg_get hx hb hG igX9 hown hK o_c_4 rfl 1 (by decide) (hG _ mw_172) rfl dX9_add_25 ?_
        refine lv_iload_n hx hb dX9_add_28 rfl (lv_at hl 1 rfl) ?_
        refine lv_bipush (v := 24) hx hb dX9_add_29 (by decide) ?_
        refine lv_bipush (v := 8) hx hb dX9_add_31 (by decide) ?_
        refine lv_iload_n hx hb dX9_add_33 rfl (lv_at hl 2 rfl) ?_
        refine lv_imul hx hb dX9_add_34 ?_
        refine lv_topi (fun x_8 ex_8 => ?_)
        have rx_8 : rgI (0) (24) x_8 := by rw [ex_8]; exact rg_w (rg_mul rl_8 r_3 (by decide) (by decide) (by decide)) (by decide) (by decide)
        refine lv_isub hx hb dX9_add_35 ?_
        refine lv_topi (fun x_9 ex_9 => ?_)
        have rx_9 : rgI (0) (24) x_9 := by rw [ex_9]; exact rg_w (rg_sub rl_24 rx_8 (by decide) (by decide)) (by decide) (by decide)
        refine lv_iushr hx hb dX9_add_36 rfl ?_
        refine lv_topi (fun x_10 ex_10 => ?_)
        refine lv_sipush (v := 255) hx hb dX9_add_37 (by decide) ?_
        refine lv_iand hx hb dX9_add_40 ?_
        refine lv_topi (fun x_11 ex_11 => ?_)
        have rx_11 : rgI (0) (255) x_11 := by rw [ex_11]; exact rg_w (rg_and255 _) (by decide) (by decide)
        obtain ⟨_, ⟨f_13, rfl⟩, o_c_12⟩ := hH q_5 _ kq_5
        refine hg_iast hx hb hK hS o_c_12 (AF.of kq_5) (rg_in (n := 80) r79 (by decide) (by decide)) dX9_add_41 (fun H locs o_c_12 hz oq hS => ?_)
        generalize hff_14 : upd f_13 _ x_11 = f_14 at o_c_12
        have hH : HT g Ty G_15 H := hH.put kq_5 ⟨_, rfl⟩ o_c_12 oq
        have o_c_4 := o_c_4.kept (oq _ (ne_kd k_h0 kq_5 (by decide)))
        clear oq hz
        refine lv_aload_n hx hb dX9_add_42 rfl (lv_at hl 0 rfl) ?_
        refine lv_dup hx hb dX9_add_43 rfl ?_
        refine hg_get hx hb hG igX9 hown hK o_c_4 rfl 1 (by decide) (hG _ mw_172) rfl dX9_add_44 ?_
        refine lv_iconst (v := 1) hx hb dX9_add_47 (by decide) ?_
        refine lv_iadd hx hb dX9_add_48 ?_
        refine lv_topi (fun x_15 ex_15 => ?_)
        have rx_15 : rgI (1) (80) x_15 := by rw [ex_15]; exact rg_w (rg_add r79 rl_1 (by decide) (by decide)) (by decide) (by decide)
        have qx_15 : x_15.toInt = ((G_15.1 0) : Int32).toInt + 1 := by rw [ex_15]; exact rg_addE r79 rl_1 (by decide) (by decide)
        refine hg_put (ty := .int) hx hb hG igX9 tyX9 tyX9_ok nmX9 hown hK hS o_c_4 (AF.of k_h0) rfl 1 (by decide) (hG _ mw_172) rfl (by decide +kernel) rfl rfl (Nat.le_of_ble_eq_true rfl) dX9_add_49 (fun H locs o_c_4 hz oq hS => ?_)
        obtain ⟨G_16, eG_16⟩ : ∃ z : Gh, z = gset G_15 0 x_15 := ⟨_, rfl⟩
        have hH : HT g Ty G_16 H := by rw [eG_16]; exact HT.putN 0 x_15 hH k_h0 ⟨q_5, rfl, kq_5, (rgu (rg_w rx_15 (by decide) (by decide))), t_7⟩ o_c_4 oq (Or.inl ⟨rfl, t_7⟩)
        have u_17 : G_16.1 0 = x_15 := by rw [eG_16]; exact gs_eq
        have o_c_12 := o_c_12.kept (oq _ (ne_kd kq_5 k_h0 (by decide)))
        clear oq hz
        obtain ⟨x_18, ex_18⟩ : ∃ y : Int32, y = y2_15 + 1 := ⟨_, rfl⟩
        have rx_18 : rgI (1) (4) x_18 := by rw [ex_18]; exact rg_w (rg_add r_3 rl_1 (by decide) (by decide)) (by decide) (by decide)
        have qx_18 : x_18.toInt = (y2_15 : Int32).toInt + 1 := by rw [ex_18]; exact rg_addE r_3 rl_1 (by decide) (by decide)
        refine lv_iinc (v := x_18) (lv' := [(2, .int x_18), (0, .ref h0), (1, .int a0)]) hx hb dX9_add_52 hl (k := 2) rfl (by rw [ex_18]; rfl) (by decide) rfl (fun ls hl => ?_)
        refine lv_goto (tgt := 15) hx hb dX9_add_55 (by decide) ?_
        exact ih_15 H locs G_16 x_18 ls (by rw [u_17]; exact rg_w rx_15 (by decide) (by decide)) (rg_w rx_18 (by decide) (by decide)) hi0_15 (addmore hi1_15 ex_15 eG_16 ex_18) (by have h1 := qx_18; have h2 := r_3.1; have h3 := r_3.2; have h4 := hm_15; omega) (lv_sub hl [1, 2, 0] rfl) hH hS
  refine lv_aload_n hx hb dX9_add_0 rfl (lv_at hl 0 rfl) ?_
  obtain ⟨_, ⟨q_20, rfl, kq_20, rq_21, t_22⟩, o_c_19⟩ := hH h0 _ k_h0
  refine hg_get hx hb hG igX9 hown hK o_c_19 rfl 1 (by decide) (hG _ mw_172) rfl dX9_add_1 ?_
  refine lv_iconst (v := 4) hx hb dX9_add_4 (by decide) ?_
  refine lv_iadd hx hb dX9_add_5 ?_
  refine lv_topi (fun x_23 ex_23 => ?_)
  have rx_23 : rgI (4) (84) x_23 := by rw [ex_23]; exact rg_w (rg_add h80 rl_4 (by decide) (by decide)) (by decide) (by decide)
  have qx_23 : x_23.toInt = ((G.1 0) : Int32).toInt + 4 := by rw [ex_23]; exact rg_addE h80 rl_4 (by decide) (by decide)
  refine lv_bipush (v := 80) hx hb dX9_add_6 (by decide) ?_
  refine lv_icmp_le (tgt := 13) hx hb dX9_add_8 (by decide) (fun c_24 => ?_) (fun c_24 => ?_)
  · have r_25 : rgI (4) (80) x_23 := rg_w (rg_leL rx_23 rl_80 c_24) (by decide) (by decide)
    refine lv_iconst (v := 0) hx hb dX9_add_13 (by decide) ?_
    refine lv_istore_n (lv' := [(2, .int 0), (0, .ref h0), (1, .int a0)]) hx hb dX9_add_14 rfl hl (by decide) rfl (fun ls hl => ?_)
    exact L_15 _ s.heap [] G 0 ls (rg_w h80 (by decide) (by decide)) (rg_w rl_0 (by decide) (by decide)) (by rw [← ex_23]; exact c_24) (gs_id (by simp)).symm (Nat.lt_succ_self _) (lv_sub hl [1, 2, 0] rfl) hH hS
  · have r_26 : rgI (81) (84) x_23 := rg_w (rg_ltR rl_80 rx_23 (nle_lt c_24)) (by decide) (by decide)
    refine lv_iconst (v := 0) hx hb dX9_add_11 (by decide) ?_
    exact W.zret hx hb hr rfl (fun t ht hWm => ⟨⟨0, (Ty, G), rfl, ⟨rg_w rl_0 (by decide) (by decide), ⟨rfl, Or.inl ⟨rfl, by rw [← ex_23]; exact (nle_lt c_24), rfl⟩⟩⟩, by show HT g Ty G t.heap; rw [ht]; exact hH⟩, hS.F ht⟩) hS.2.2 dX9_add_12

set_option maxHeartbeats 4000000 in
set_option maxRecDepth 100000 in
theorem c_X3_hear (l : Launch) (g : Gx) (Ty : TyM) (G : Gh) (sz : Nat) (h0 : Nat) (a0 : Int32) (a1 : Int32) (k_h0 : Ty h0 = some (13, 0)) : Met l yX3_hear (wsG yX3_hear cX3_hear 3 (some .boolean)) ({ frames := 0, cells := 0, slots := 0, locals := 0 }) (PcO g Ty G sz [.ref h0, .int a0, .int a1]) (QwI g Ty sz (fun r u => (rgI (0) (1) r) ∧ u.1 = Ty ∧ HearR G u.2 r a0 a1)) 0 0 (AF Ty sz) := by
  refine Met.ofW (cc := cX3_hear) (maxL := 3) (ret := (some .boolean)) (by decide) rfl ?_
  intro p e s m args below meth c s₁ B hml hv
  obtain ⟨rfl, hsz, hK, hH, hO⟩ := hv
  subst hsz
  have hx := B.exec
  have hb := B.bytes
  have hr := B.returns
  have hts := atoms_spec (ws := (wsG yX3_hear cX3_hear 3 (some .boolean))) B.pre
  have hG : ∀ w ∈ GW, w.before ([.ref h0, .int a0, .int a1] : List Value).toArray s = true := fun w h => hts w (List.mem_cons_of_mem _ h)
  have hown : s.vm.findClass RX3 = some m.cls := findClass_of_methodNamed B.named
  have hlocks := B.notSynchronized
  have hl := lv_entry [.ref h0, .int a0, .int a1] (n := 3) (Nat.le_of_ble_eq_true rfl)
  rw [lg_entry_eq]
  generalize (lg_sl [.ref h0, .int a0, .int a1] ++ List.replicate (3 - (lg_sl [.ref h0, .int a0, .int a1]).length) Slot.unset).toArray = ls at hl ⊢
  have hl : lv_has ls 3 [(0, .ref h0), (1, .int a0), (2, .int a1)] := hl
  have hS : va_S (AF Ty s.heap.size) s.heap s.heap [] := va_S.rf
  have h12 : rgI (0) (12) (G.1 1) := ht13 hH k_h0
  refine lv_iload_n hx hb dX3_hear_0 rfl (lv_at hl 1 rfl) ?_
  refine lv_if_lt (tgt := 34) hx hb dX3_hear_1 (by decide) (fun c_1 => ?_) (fun c_1 => ?_)
  · have r_2 : rgI (-2147483648) (-1) a0 := rg_w (rg_ltL (rg_top a0) rl_0 c_1) (by decide) (by decide)
    refine lv_iconst (v := 0) hx hb dX3_hear_34 (by decide) ?_
    exact W.zret hx hb hr rfl (fun t ht hWm => ⟨⟨0, (Ty, G), rfl, ⟨rg_w rl_0 (by decide) (by decide), ⟨rfl, Or.inl ⟨rfl, (fun h => h.1 c_1), rfl⟩⟩⟩, by show HT g Ty G t.heap; rw [ht]; exact hH⟩, hS.F ht⟩) hS.2.2 dX3_hear_35
  · have r_3 : rgI (0) (2147483647) a0 := rg_w (rg_leR rl_0 (rg_top a0) (nlt_le c_1)) (by decide) (by decide)
    refine lv_iload_n hx hb dX3_hear_4 rfl (lv_at hl 1 rfl) ?_
    refine va_gets hx hb hO.1 hS hown (hG _ mw_1014) (fun _ h => h) dX3_hear_5 ?_
    refine va_tlen (v := 5) hx hb hO.2.1 hS rfl dX3_hear_8 ?_
    refine lv_icmp_ge (tgt := 34) hx hb dX3_hear_9 (by decide) (fun c_4 => ?_) (fun c_4 => ?_)
    · have r_5 : rgI (5) (2147483647) a0 := rg_w (rg_leR rl_5 r_3 c_4) (by decide) (by decide)
      refine lv_iconst (v := 0) hx hb dX3_hear_34 (by decide) ?_
      exact W.zret hx hb hr rfl (fun t ht hWm => ⟨⟨0, (Ty, G), rfl, ⟨rg_w rl_0 (by decide) (by decide), ⟨rfl, Or.inl ⟨rfl, (fun h => h.2.1 c_4), rfl⟩⟩⟩, by show HT g Ty G t.heap; rw [ht]; exact hH⟩, hS.F ht⟩) hS.2.2 dX3_hear_35
    · have r_6 : rgI (0) (4) a0 := rg_w (rg_ltL r_3 rl_5 (nle_lt c_4)) (by decide) (by decide)
      refine lv_iload_n hx hb dX3_hear_12 rfl (lv_at hl 2 rfl) ?_
      refine lv_if_lt (tgt := 34) hx hb dX3_hear_13 (by decide) (fun c_7 => ?_) (fun c_7 => ?_)
      · have r_8 : rgI (-2147483648) (-1) a1 := rg_w (rg_ltL (rg_top a1) rl_0 c_7) (by decide) (by decide)
        refine lv_iconst (v := 0) hx hb dX3_hear_34 (by decide) ?_
        exact W.zret hx hb hr rfl (fun t ht hWm => ⟨⟨0, (Ty, G), rfl, ⟨rg_w rl_0 (by decide) (by decide), ⟨rfl, Or.inl ⟨rfl, (fun h => h.2.2.1 c_7), rfl⟩⟩⟩, by show HT g Ty G t.heap; rw [ht]; exact hH⟩, hS.F ht⟩) hS.2.2 dX3_hear_35
      · have r_9 : rgI (0) (2147483647) a1 := rg_w (rg_leR rl_0 (rg_top a1) (nlt_le c_7)) (by decide) (by decide)
        refine lv_iload_n hx hb dX3_hear_16 rfl (lv_at hl 2 rfl) ?_
        refine va_gets hx hb hO.1 hS hown (hG _ mw_1014) (fun _ h => h) dX3_hear_17 ?_
        refine lv_iload_n hx hb dX3_hear_20 rfl (lv_at hl 1 rfl) ?_
        refine va_ti hx hb hO.2.1 hS (rg_in (n := 5) r_6 (by decide) (by decide)) rfl dX3_hear_21 ?_
        refine lv_topi (fun x_10 ex_10 => ?_)
        have rx_10 : rgI (4) (9) x_10 := by rw [ex_10]; exact rg_w (mv_rng _) (by decide) (by decide)
        refine lv_icmp_gt (tgt := 34) hx hb dX3_hear_22 (by decide) (fun c_11 => ?_) (fun c_11 => ?_)
        · have r_12 : rgI (5) (2147483647) a1 := rg_w (rg_ltR rx_10 r_9 c_11) (by decide) (by decide)
          refine lv_iconst (v := 0) hx hb dX3_hear_34 (by decide) ?_
          exact W.zret hx hb hr rfl (fun t ht hWm => ⟨⟨0, (Ty, G), rfl, ⟨rg_w rl_0 (by decide) (by decide), ⟨rfl, Or.inl ⟨rfl, (fun h => h.2.2.2.1 (by rw [← ex_10]; exact c_11)), rfl⟩⟩⟩, by show HT g Ty G t.heap; rw [ht]; exact hH⟩, hS.F ht⟩) hS.2.2 dX3_hear_35
        · have r_13 : rgI (0) (9) a1 := rg_w (rg_leL r_9 rx_10 (nlt_le c_11)) (by decide) (by decide)
          refine lv_aload_n hx hb dX3_hear_25 rfl (lv_at hl 0 rfl) ?_
          obtain ⟨_, ⟨q_15, q_16, q_17, q_19, q_20, rfl, kq_15, kq_16, kq_17, kq_19, rq_18, t_21⟩, o_c_14⟩ := hH h0 _ k_h0
          refine hg_get hx hb hG igX3 hown hK o_c_14 rfl 3 (by decide) (hG _ mw_297) rfl dX3_hear_26 ?_
          refine lv_bipush (v := 12) hx hb dX3_hear_29 (by decide) ?_
          refine lv_icmp_lt (tgt := 36) hx hb dX3_hear_31 (by decide) (fun c_22 => ?_) (fun c_22 => ?_)
          · have r_23 : rgI (0) (11) (G.1 1) := rg_w (rg_ltL h12 rl_12 c_22) (by decide) (by decide)
            refine lv_aload_n hx hb dX3_hear_36 rfl (lv_at hl 0 rfl) ?_
            refine hg_get hx hb hG igX3 hown hK o_c_14 rfl 1 (by decide) (hG _ mw_295) rfl dX3_hear_37 ?_
            refine lv_aload_n hx hb dX3_hear_40 rfl (lv_at hl 0 rfl) ?_
            refine hg_get hx hb hG igX3 hown hK o_c_14 rfl 3 (by decide) (hG _ mw_297) rfl dX3_hear_41 ?_
            refine lv_iload_n hx hb dX3_hear_44 rfl (lv_at hl 1 rfl) ?_
            obtain ⟨_, ⟨f_25, rfl⟩, o_c_24⟩ := hH q_16 _ kq_16
            refine hg_iast hx hb hK hS o_c_24 (AF.of kq_16) (rg_in (n := 12) r_23 (by decide) (by decide)) dX3_hear_45 (fun H locs o_c_24 hz oq hS => ?_)
            generalize hff_26 : upd f_25 _ a0 = f_26 at o_c_24
            have hH : HT g Ty G H := hH.put kq_16 ⟨_, rfl⟩ o_c_24 oq
            have o_c_14 := o_c_14.kept (oq _ (ne_kd k_h0 kq_16 (by decide)))
            clear oq hz
            refine lv_aload_n hx hb dX3_hear_46 rfl (lv_at hl 0 rfl) ?_
            refine hg_get hx hb hG igX3 hown hK o_c_14 rfl 2 (by decide) (hG _ mw_296) rfl dX3_hear_47 ?_
            refine lv_aload_n hx hb dX3_hear_50 rfl (lv_at hl 0 rfl) ?_
            refine hg_get hx hb hG igX3 hown hK o_c_14 rfl 3 (by decide) (hG _ mw_297) rfl dX3_hear_51 ?_
            refine lv_iload_n hx hb dX3_hear_54 rfl (lv_at hl 2 rfl) ?_
            obtain ⟨_, ⟨f_28, rfl⟩, o_c_27⟩ := hH q_17 _ kq_17
            refine hg_iast hx hb hK hS o_c_27 (AF.of kq_17) (rg_in (n := 12) r_23 (by decide) (by decide)) dX3_hear_55 (fun H locs o_c_27 hz oq hS => ?_)
            generalize hff_29 : upd f_28 _ a1 = f_29 at o_c_27
            have hH : HT g Ty G H := hH.put kq_17 ⟨_, rfl⟩ o_c_27 oq
            have o_c_14 := o_c_14.kept (oq _ (ne_kd k_h0 kq_17 (by decide)))
            clear oq hz
            refine lv_aload_n hx hb dX3_hear_56 rfl (lv_at hl 0 rfl) ?_
            refine lv_dup hx hb dX3_hear_57 rfl ?_
            refine hg_get hx hb hG igX3 hown hK o_c_14 rfl 3 (by decide) (hG _ mw_297) rfl dX3_hear_58 ?_
            refine lv_iconst (v := 1) hx hb dX3_hear_61 (by decide) ?_
            refine lv_iadd hx hb dX3_hear_62 ?_
            refine lv_topi (fun x_30 ex_30 => ?_)
            have rx_30 : rgI (1) (12) x_30 := by rw [ex_30]; exact rg_w (rg_add r_23 rl_1 (by decide) (by decide)) (by decide) (by decide)
            have qx_30 : x_30.toInt = ((G.1 1) : Int32).toInt + 1 := by rw [ex_30]; exact rg_addE r_23 rl_1 (by decide) (by decide)
            refine hg_put (ty := .int) hx hb hG igX3 tyX3 tyX3_ok nmX3 hown hK hS o_c_14 (AF.of k_h0) rfl 3 (by decide) (hG _ mw_297) rfl (by decide +kernel) rfl rfl (Nat.le_of_ble_eq_true rfl) dX3_hear_63 (fun H locs o_c_14 hz oq hS => ?_)
            obtain ⟨G_31, eG_31⟩ : ∃ z : Gh, z = gset G 1 x_30 := ⟨_, rfl⟩
            have hH : HT g Ty G_31 H := by rw [eG_31]; exact HT.putN 1 x_30 hH k_h0 ⟨q_15, q_16, q_17, q_19, q_20, rfl, kq_15, kq_16, kq_17, kq_19, (rgu (rg_w rx_30 (by decide) (by decide))), t_21⟩ o_c_14 oq (Or.inr (Or.inl ⟨rfl, t_21⟩))
            have u_32 : G_31.1 1 = x_30 := by rw [eG_31]; exact gs_eq
            have o_c_27 := o_c_27.kept (oq _ (ne_kd kq_17 k_h0 (by decide)))
            clear oq hz
            refine lv_iconst (v := 1) hx hb dX3_hear_66 (by decide) ?_
            exact W.zret hx hb hr rfl (fun t ht hWm => ⟨⟨1, (Ty, G_31), rfl, ⟨rg_w rl_1 (by decide) (by decide), ⟨rfl, Or.inr ⟨rfl, ⟨c_1, c_4, c_7, (by rw [← ex_10]; exact c_11), c_22⟩, by rw [eG_31, ex_30]⟩⟩⟩, by show HT g Ty G_31 t.heap; rw [ht]; exact hH⟩, hS.F ht⟩) hS.2.2 dX3_hear_67
          · have r_33 : rgI (12) (12) (G.1 1) := rg_w (rg_leR rl_12 h12 (nlt_le c_22)) (by decide) (by decide)
            refine lv_iconst (v := 0) hx hb dX3_hear_34 (by decide) ?_
            exact W.zret hx hb hr rfl (fun t ht hWm => ⟨⟨0, (Ty, G), rfl, ⟨rg_w rl_0 (by decide) (by decide), ⟨rfl, Or.inl ⟨rfl, (fun h => c_22 h.2.2.2.2), rfl⟩⟩⟩, by show HT g Ty G t.heap; rw [ht]; exact hH⟩, hS.F ht⟩) hS.2.2 dX3_hear_35

set_option maxHeartbeats 4000000 in
set_option maxRecDepth 100000 in
theorem c_X5_see (l : Launch) (g : Gx) (Ty : TyM) (G : Gh) (sz : Nat) (h0 : Nat) (a0 : Int32) (a1 : Int32) (a2 : Int32) (k_h0 : Ty h0 = some (15, 0)) : Met l yX5_see (wsG yX5_see cX5_see 4 (some .boolean)) ({ frames := 0, cells := 0, slots := 0, locals := 0 }) (PcT g Ty G sz [.ref h0, .int a0, .int a1, .int a2]) (QwI g Ty sz (fun r u => (rgI (0) (1) r) ∧ u.1 = Ty ∧ SeeR G u.2 r a0 a1 a2)) 0 0 (AF Ty sz) := by
  refine Met.ofW (cc := cX5_see) (maxL := 4) (ret := (some .boolean)) (by decide) rfl ?_
  intro p e s m args below meth c s₁ B hml hv
  obtain ⟨rfl, hsz, hK, hH⟩ := hv
  subst hsz
  have hx := B.exec
  have hb := B.bytes
  have hr := B.returns
  have hts := atoms_spec (ws := (wsG yX5_see cX5_see 4 (some .boolean))) B.pre
  have hG : ∀ w ∈ GW, w.before ([.ref h0, .int a0, .int a1, .int a2] : List Value).toArray s = true := fun w h => hts w (List.mem_cons_of_mem _ h)
  have hown : s.vm.findClass RX5 = some m.cls := findClass_of_methodNamed B.named
  have hlocks := B.notSynchronized
  have hl := lv_entry [.ref h0, .int a0, .int a1, .int a2] (n := 4) (Nat.le_of_ble_eq_true rfl)
  rw [lg_entry_eq]
  generalize (lg_sl [.ref h0, .int a0, .int a1, .int a2] ++ List.replicate (4 - (lg_sl [.ref h0, .int a0, .int a1, .int a2]).length) Slot.unset).toArray = ls at hl ⊢
  have hl : lv_has ls 4 [(0, .ref h0), (1, .int a0), (2, .int a1), (3, .int a2)] := hl
  have hS : va_S (AF Ty s.heap.size) s.heap s.heap [] := va_S.rf
  have h10 : rgI (0) (10) (G.1 2) := ht15 hH k_h0
  refine lv_iload_n hx hb dX5_see_0 rfl (lv_at hl 1 rfl) ?_
  refine lv_if_lt (tgt := 37) hx hb dX5_see_1 (by decide) (fun c_1 => ?_) (fun c_1 => ?_)
  · have r_2 : rgI (-2147483648) (-1) a0 := rg_w (rg_ltL (rg_top a0) rl_0 c_1) (by decide) (by decide)
    refine lv_iconst (v := 0) hx hb dX5_see_37 (by decide) ?_
    exact W.zret hx hb hr rfl (fun t ht hWm => ⟨⟨0, (Ty, G), rfl, ⟨rg_w rl_0 (by decide) (by decide), ⟨rfl, Or.inl ⟨rfl, (fun h => h.1 c_1), rfl⟩⟩⟩, by show HT g Ty G t.heap; rw [ht]; exact hH⟩, hS.F ht⟩) hS.2.2 dX5_see_38
  · have r_3 : rgI (0) (2147483647) a0 := rg_w (rg_leR rl_0 (rg_top a0) (nlt_le c_1)) (by decide) (by decide)
    refine lv_iload_n hx hb dX5_see_4 rfl (lv_at hl 1 rfl) ?_
    refine lv_bipush (v := 9) hx hb dX5_see_5 (by decide) ?_
    refine lv_icmp_gt (tgt := 37) hx hb dX5_see_7 (by decide) (fun c_4 => ?_) (fun c_4 => ?_)
    · have r_5 : rgI (10) (2147483647) a0 := rg_w (rg_ltR rl_9 r_3 c_4) (by decide) (by decide)
      refine lv_iconst (v := 0) hx hb dX5_see_37 (by decide) ?_
      exact W.zret hx hb hr rfl (fun t ht hWm => ⟨⟨0, (Ty, G), rfl, ⟨rg_w rl_0 (by decide) (by decide), ⟨rfl, Or.inl ⟨rfl, (fun h => h.2.1 c_4), rfl⟩⟩⟩, by show HT g Ty G t.heap; rw [ht]; exact hH⟩, hS.F ht⟩) hS.2.2 dX5_see_38
    · have r_6 : rgI (0) (9) a0 := rg_w (rg_leL r_3 rl_9 (nlt_le c_4)) (by decide) (by decide)
      refine lv_iload_n hx hb dX5_see_10 rfl (lv_at hl 2 rfl) ?_
      refine lv_if_lt (tgt := 37) hx hb dX5_see_11 (by decide) (fun c_7 => ?_) (fun c_7 => ?_)
      · have r_8 : rgI (-2147483648) (-1) a1 := rg_w (rg_ltL (rg_top a1) rl_0 c_7) (by decide) (by decide)
        refine lv_iconst (v := 0) hx hb dX5_see_37 (by decide) ?_
        exact W.zret hx hb hr rfl (fun t ht hWm => ⟨⟨0, (Ty, G), rfl, ⟨rg_w rl_0 (by decide) (by decide), ⟨rfl, Or.inl ⟨rfl, (fun h => h.2.2.1 c_7), rfl⟩⟩⟩, by show HT g Ty G t.heap; rw [ht]; exact hH⟩, hS.F ht⟩) hS.2.2 dX5_see_38
      · have r_9 : rgI (0) (2147483647) a1 := rg_w (rg_leR rl_0 (rg_top a1) (nlt_le c_7)) (by decide) (by decide)
        refine lv_iload_n hx hb dX5_see_14 rfl (lv_at hl 2 rfl) ?_
        refine lv_iconst (v := 4) hx hb dX5_see_15 (by decide) ?_
        refine lv_icmp_gt (tgt := 37) hx hb dX5_see_16 (by decide) (fun c_10 => ?_) (fun c_10 => ?_)
        · have r_11 : rgI (5) (2147483647) a1 := rg_w (rg_ltR rl_4 r_9 c_10) (by decide) (by decide)
          refine lv_iconst (v := 0) hx hb dX5_see_37 (by decide) ?_
          exact W.zret hx hb hr rfl (fun t ht hWm => ⟨⟨0, (Ty, G), rfl, ⟨rg_w rl_0 (by decide) (by decide), ⟨rfl, Or.inl ⟨rfl, (fun h => h.2.2.2.1 c_10), rfl⟩⟩⟩, by show HT g Ty G t.heap; rw [ht]; exact hH⟩, hS.F ht⟩) hS.2.2 dX5_see_38
        · have r_12 : rgI (0) (4) a1 := rg_w (rg_leL r_9 rl_4 (nlt_le c_10)) (by decide) (by decide)
          refine lv_iload_n hx hb dX5_see_19 rfl (lv_at hl 3 rfl) ?_
          refine lv_if_lt (tgt := 37) hx hb dX5_see_20 (by decide) (fun c_13 => ?_) (fun c_13 => ?_)
          · have r_14 : rgI (-2147483648) (-1) a2 := rg_w (rg_ltL (rg_top a2) rl_0 c_13) (by decide) (by decide)
            refine lv_iconst (v := 0) hx hb dX5_see_37 (by decide) ?_
            exact W.zret hx hb hr rfl (fun t ht hWm => ⟨⟨0, (Ty, G), rfl, ⟨rg_w rl_0 (by decide) (by decide), ⟨rfl, Or.inl ⟨rfl, (fun h => h.2.2.2.2.1 c_13), rfl⟩⟩⟩, by show HT g Ty G t.heap; rw [ht]; exact hH⟩, hS.F ht⟩) hS.2.2 dX5_see_38
          · have r_15 : rgI (0) (2147483647) a2 := rg_w (rg_leR rl_0 (rg_top a2) (nlt_le c_13)) (by decide) (by decide)
            refine lv_iload_n hx hb dX5_see_23 rfl (lv_at hl 3 rfl) ?_
            refine lv_iconst (v := 1) hx hb dX5_see_24 (by decide) ?_
            refine lv_icmp_gt (tgt := 37) hx hb dX5_see_25 (by decide) (fun c_16 => ?_) (fun c_16 => ?_)
            · have r_17 : rgI (2) (2147483647) a2 := rg_w (rg_ltR rl_1 r_15 c_16) (by decide) (by decide)
              refine lv_iconst (v := 0) hx hb dX5_see_37 (by decide) ?_
              exact W.zret hx hb hr rfl (fun t ht hWm => ⟨⟨0, (Ty, G), rfl, ⟨rg_w rl_0 (by decide) (by decide), ⟨rfl, Or.inl ⟨rfl, (fun h => h.2.2.2.2.2.1 c_16), rfl⟩⟩⟩, by show HT g Ty G t.heap; rw [ht]; exact hH⟩, hS.F ht⟩) hS.2.2 dX5_see_38
            · have r_18 : rgI (0) (1) a2 := rg_w (rg_leL r_15 rl_1 (nlt_le c_16)) (by decide) (by decide)
              refine lv_aload_n hx hb dX5_see_28 rfl (lv_at hl 0 rfl) ?_
              obtain ⟨_, ⟨q_20, q_21, q_22, q_24, rfl, kq_20, kq_21, kq_22, rq_23, t_25⟩, o_c_19⟩ := hH h0 _ k_h0
              refine hg_get hx hb hG igX5 hown hK o_c_19 rfl 3 (by decide) (hG _ mw_324) rfl dX5_see_29 ?_
              refine lv_bipush (v := 10) hx hb dX5_see_32 (by decide) ?_
              refine lv_icmp_lt (tgt := 39) hx hb dX5_see_34 (by decide) (fun c_26 => ?_) (fun c_26 => ?_)
              · have r_27 : rgI (0) (9) (G.1 2) := rg_w (rg_ltL h10 rl_10 c_26) (by decide) (by decide)
                refine lv_aload_n hx hb dX5_see_39 rfl (lv_at hl 0 rfl) ?_
                refine hg_get hx hb hG igX5 hown hK o_c_19 rfl 0 (by decide) (hG _ mw_321) rfl dX5_see_40 ?_
                refine lv_aload_n hx hb dX5_see_43 rfl (lv_at hl 0 rfl) ?_
                refine hg_get hx hb hG igX5 hown hK o_c_19 rfl 3 (by decide) (hG _ mw_324) rfl dX5_see_44 ?_
                refine lv_iload_n hx hb dX5_see_47 rfl (lv_at hl 1 rfl) ?_
                obtain ⟨_, ⟨f_29, rfl⟩, o_c_28⟩ := hH q_20 _ kq_20
                refine hg_iast hx hb hK hS o_c_28 (AF.of kq_20) (rg_in (n := 10) r_27 (by decide) (by decide)) dX5_see_48 (fun H locs o_c_28 hz oq hS => ?_)
                generalize hff_30 : upd f_29 _ a0 = f_30 at o_c_28
                have hH : HT g Ty G H := hH.put kq_20 ⟨_, rfl⟩ o_c_28 oq
                have o_c_19 := o_c_19.kept (oq _ (ne_kd k_h0 kq_20 (by decide)))
                clear oq hz
                refine lv_aload_n hx hb dX5_see_49 rfl (lv_at hl 0 rfl) ?_
                refine hg_get hx hb hG igX5 hown hK o_c_19 rfl 1 (by decide) (hG _ mw_322) rfl dX5_see_50 ?_
                refine lv_aload_n hx hb dX5_see_53 rfl (lv_at hl 0 rfl) ?_
                refine hg_get hx hb hG igX5 hown hK o_c_19 rfl 3 (by decide) (hG _ mw_324) rfl dX5_see_54 ?_
                refine lv_iload_n hx hb dX5_see_57 rfl (lv_at hl 2 rfl) ?_
                obtain ⟨_, ⟨f_32, rfl⟩, o_c_31⟩ := hH q_21 _ kq_21
                refine hg_iast hx hb hK hS o_c_31 (AF.of kq_21) (rg_in (n := 10) r_27 (by decide) (by decide)) dX5_see_58 (fun H locs o_c_31 hz oq hS => ?_)
                generalize hff_33 : upd f_32 _ a1 = f_33 at o_c_31
                have hH : HT g Ty G H := hH.put kq_21 ⟨_, rfl⟩ o_c_31 oq
                have o_c_19 := o_c_19.kept (oq _ (ne_kd k_h0 kq_21 (by decide)))
                clear oq hz
                refine lv_aload_n hx hb dX5_see_59 rfl (lv_at hl 0 rfl) ?_
                refine hg_get hx hb hG igX5 hown hK o_c_19 rfl 2 (by decide) (hG _ mw_323) rfl dX5_see_60 ?_
                refine lv_aload_n hx hb dX5_see_63 rfl (lv_at hl 0 rfl) ?_
                refine hg_get hx hb hG igX5 hown hK o_c_19 rfl 3 (by decide) (hG _ mw_324) rfl dX5_see_64 ?_
                refine lv_iload_n hx hb dX5_see_67 rfl (lv_at hl 3 rfl) ?_
                obtain ⟨_, ⟨f_35, rfl⟩, o_c_34⟩ := hH q_22 _ kq_22
                refine hg_iast hx hb hK hS o_c_34 (AF.of kq_22) (rg_in (n := 10) r_27 (by decide) (by decide)) dX5_see_68 (fun H locs o_c_34 hz oq hS => ?_)
                generalize hff_36 : upd f_35 _ a2 = f_36 at o_c_34
                have hH : HT g Ty G H := hH.put kq_22 ⟨_, rfl⟩ o_c_34 oq
                have o_c_19 := o_c_19.kept (oq _ (ne_kd k_h0 kq_22 (by decide)))
                clear oq hz
                refine lv_aload_n hx hb dX5_see_69 rfl (lv_at hl 0 rfl) ?_
                refine lv_dup hx hb dX5_see_70 rfl ?_
                refine hg_get hx hb hG igX5 hown hK o_c_19 rfl 3 (by decide) (hG _ mw_324) rfl dX5_see_71 ?_
                refine lv_iconst (v := 1) hx hb dX5_see_74 (by decide) ?_
                refine lv_iadd hx hb dX5_see_75 ?_
                refine lv_topi (fun x_37 ex_37 => ?_)
                have rx_37 : rgI (1) (10) x_37 := by rw [ex_37]; exact rg_w (rg_add r_27 rl_1 (by decide) (by decide)) (by decide) (by decide)
                have qx_37 : x_37.toInt = ((G.1 2) : Int32).toInt + 1 := by rw [ex_37]; exact rg_addE r_27 rl_1 (by decide) (by decide)
                refine hg_put (ty := .int) hx hb hG igX5 tyX5 tyX5_ok nmX5 hown hK hS o_c_19 (AF.of k_h0) rfl 3 (by decide) (hG _ mw_324) rfl (by decide +kernel) rfl rfl (Nat.le_of_ble_eq_true rfl) dX5_see_76 (fun H locs o_c_19 hz oq hS => ?_)
                obtain ⟨G_38, eG_38⟩ : ∃ z : Gh, z = gset G 2 x_37 := ⟨_, rfl⟩
                have hH : HT g Ty G_38 H := by rw [eG_38]; exact HT.putN 2 x_37 hH k_h0 ⟨q_20, q_21, q_22, q_24, rfl, kq_20, kq_21, kq_22, (rgu (rg_w rx_37 (by decide) (by decide))), t_25⟩ o_c_19 oq (Or.inr (Or.inr (Or.inl ⟨rfl, t_25⟩)))
                have u_39 : G_38.1 2 = x_37 := by rw [eG_38]; exact gs_eq
                have o_c_34 := o_c_34.kept (oq _ (ne_kd kq_22 k_h0 (by decide)))
                clear oq hz
                refine lv_iconst (v := 1) hx hb dX5_see_79 (by decide) ?_
                exact W.zret hx hb hr rfl (fun t ht hWm => ⟨⟨1, (Ty, G_38), rfl, ⟨rg_w rl_1 (by decide) (by decide), ⟨rfl, Or.inr ⟨rfl, ⟨c_1, c_4, c_7, c_10, c_13, c_16, c_26⟩, by rw [eG_38, ex_37]⟩⟩⟩, by show HT g Ty G_38 t.heap; rw [ht]; exact hH⟩, hS.F ht⟩) hS.2.2 dX5_see_80
              · have r_40 : rgI (10) (10) (G.1 2) := rg_w (rg_leR rl_10 h10 (nlt_le c_26)) (by decide) (by decide)
                refine lv_iconst (v := 0) hx hb dX5_see_37 (by decide) ?_
                exact W.zret hx hb hr rfl (fun t ht hWm => ⟨⟨0, (Ty, G), rfl, ⟨rg_w rl_0 (by decide) (by decide), ⟨rfl, Or.inl ⟨rfl, (fun h => c_26 h.2.2.2.2.2.2), rfl⟩⟩⟩, by show HT g Ty G t.heap; rw [ht]; exact hH⟩, hS.F ht⟩) hS.2.2 dX5_see_38

set_option maxHeartbeats 4000000 in
set_option maxRecDepth 100000 in
theorem c_X3_bestQuestion (l : Launch) (g : Gx) (Ty : TyM) (G : Gh) (sz : Nat) (h0 : Nat) (k_h0 : Ty h0 = some (13, 0)) : Met l yX3_bestQuestion (wsG yX3_bestQuestion cX3_bestQuestion 7 (some .int)) ({ frames := 6, cells := 0, slots := 0, locals := 137 }) (PcO g Ty G sz [.ref h0]) (QwI g Ty sz (fun r u => u = (Ty, G))) 0 0 (AF Ty sz) := by
  refine Met.ofW (cc := cX3_bestQuestion) (maxL := 7) (ret := (some .int)) (by decide) rfl ?_
  intro p e s m args below meth c s₁ B hml hv
  obtain ⟨rfl, hsz, hK, hH, hO⟩ := hv
  subst hsz
  have hx := B.exec
  have hb := B.bytes
  have hr := B.returns
  have hts := atoms_spec (ws := (wsG yX3_bestQuestion cX3_bestQuestion 7 (some .int))) B.pre
  have hG : ∀ w ∈ GW, w.before ([.ref h0] : List Value).toArray s = true := fun w h => hts w (List.mem_cons_of_mem _ h)
  have hown : s.vm.findClass RX3 = some m.cls := findClass_of_methodNamed B.named
  have hlocks := B.notSynchronized
  have hl := lv_entry [.ref h0] (n := 7) (Nat.le_of_ble_eq_true rfl)
  rw [lg_entry_eq]
  generalize (lg_sl [.ref h0] ++ List.replicate (7 - (lg_sl [.ref h0]).length) Slot.unset).toArray = ls at hl ⊢
  have hl : lv_has ls 7 [(0, .ref h0)] := hl
  have hS : va_S (AF Ty s.heap.size) s.heap s.heap [] := va_S.rf
  have L_107 : ∀ (H : Heap) (locs : List Loc) (y2_107 : Int32) (ls : Array Slot), rgI (-1) (2147483647) y2_107 → lv_has ls 7 [(2, .int y2_107)] → HT g Ty G H → va_S (AF Ty s.heap.size) s.heap H locs → Wm p l e (wsG yX3_bestQuestion cX3_bestQuestion 7 (some .int)) ({ frames := 6, cells := 0, slots := 0, locals := 137 }) s m [.ref h0] below meth c H locs (0) (0) (QwI g Ty s.heap.size (fun r u => u = (Ty, G))) 0 0 (AF Ty s.heap.size) (F0 m 107 ls []) := by
    intro H locs y2_107 ls ry2_107 hl hH hS
    refine lv_iload_n hx hb dX3_bestQuestion_107 rfl (lv_at hl 0 rfl) ?_
    exact W.iret hx hb hr (fun t ht hWm => ⟨⟨y2_107, (Ty, G), rfl, rfl, by show HT g Ty G t.heap; rw [ht]; exact hH⟩, hS.F ht⟩) hS.2.2 dX3_bestQuestion_108
  have L_9 : ∀ (n : Nat) (H : Heap) (locs : List Loc) (y1_9 : Int32) (y2_9 : Int32) (y3_9 : Int32) (ls : Array Slot), rgI (-1) (2147483647) y2_9 → rgI (0) (5) y3_9 → (5 - (y3_9).toInt).toNat < n → lv_has ls 7 [(0, .ref h0), (1, .int y1_9), (2, .int y2_9), (3, .int y3_9)] → HT g Ty G H → va_S (AF Ty s.heap.size) s.heap H locs → Wm p l e (wsG yX3_bestQuestion cX3_bestQuestion 7 (some .int)) ({ frames := 6, cells := 0, slots := 0, locals := 137 }) s m [.ref h0] below meth c H locs (0) (0) (QwI g Ty s.heap.size (fun r u => u = (Ty, G))) 0 0 (AF Ty s.heap.size) (F0 m 9 ls []) := by
    intro n
    induction n with
    | zero => intro H locs y1_9 y2_9 y3_9 ls ry2_9 ry3_9 hm; exact absurd hm (Nat.not_lt_zero _)
    | succ n ih_9 =>
      intro H locs y1_9 y2_9 y3_9 ls ry2_9 ry3_9 hm_9 hl hH hS
      have L_29 : ∀ (n : Nat) (H : Heap) (locs : List Loc) (y2_29 : Int32) (y4_29 : Int32) (ls : Array Slot), rgI (-1) (2147483647) y2_29 → rgI (0) (4) y3_9 → rgI (0) (10) y4_29 → (10 - (y4_29).toInt).toNat < n → lv_has ls 7 [(0, .ref h0), (1, .int y1_9), (2, .int y2_29), (3, .int y3_9), (4, .int y4_29)] → HT g Ty G H → va_S (AF Ty s.heap.size) s.heap H locs → Wm p l e (wsG yX3_bestQuestion cX3_bestQuestion 7 (some .int)) ({ frames := 6, cells := 0, slots := 0, locals := 137 }) s m [.ref h0] below meth c H locs (0) (0) (QwI g Ty s.heap.size (fun r u => u = (Ty, G))) 0 0 (AF Ty s.heap.size) (F0 m 29 ls []) := by
        intro n
        induction n with
        | zero => intro H locs y2_29 y4_29 ls ry2_29 ry3_29 ry4_29 hm; exact absurd hm (Nat.not_lt_zero _)
        | succ n ih_29 =>
          intro H locs y2_29 y4_29 ls ry2_29 ry3_29 ry4_29 hm_29 hl hH hS
          have L_95 : ∀ (H : Heap) (locs : List Loc) (y2_95 : Int32) (ls : Array Slot), rgI (0) (2147483647) y2_95 → rgI (0) (4) y3_9 → rgI (0) (9) y4_29 → lv_has ls 7 [(0, .ref h0), (1, .int y1_9), (2, .int y2_95), (3, .int y3_9), (4, .int y4_29)] → HT g Ty G H → va_S (AF Ty s.heap.size) s.heap H locs → Wm p l e (wsG yX3_bestQuestion cX3_bestQuestion 7 (some .int)) ({ frames := 6, cells := 0, slots := 0, locals := 137 }) s m [.ref h0] below meth c H locs (0) (0) (QwI g Ty s.heap.size (fun r u => u = (Ty, G))) 0 0 (AF Ty s.heap.size) (F0 m 95 ls []) := by
            intro H locs y2_95 ls ry2_95 ry3_95 ry4_95 hl hH hS
            obtain ⟨x_1, ex_1⟩ : ∃ y : Int32, y = y4_29 + 1 := ⟨_, rfl⟩
            have rx_1 : rgI (1) (10) x_1 := by rw [ex_1]; exact rg_w (rg_add ry4_95 rl_1 (by decide) (by decide)) (by decide) (by decide)
            have qx_1 : x_1.toInt = (y4_29 : Int32).toInt + 1 := by rw [ex_1]; exact rg_addE ry4_95 rl_1 (by decide) (by decide)
            refine lv_iinc (v := x_1) (lv' := [(4, .int x_1), (0, .ref h0), (1, .int y1_9), (2, .int y2_95), (3, .int y3_9)]) hx hb dX3_bestQuestion_95 hl (k := 4) rfl (by rw [ex_1]; rfl) (by decide) rfl (fun ls hl => ?_)
            refine lv_goto (tgt := 29) hx hb dX3_bestQuestion_98 (by decide) ?_
            exact ih_29 H locs y2_95 x_1 ls (rg_w ry2_95 (by decide) (by decide)) ry3_95 (rg_w rx_1 (by decide) (by decide)) (by have h1 := qx_1; have h2 := ry4_95.1; have h3 := ry4_95.2; have h4 := hm_29; omega) (lv_sub hl [1, 2, 3, 4, 0] rfl) hH hS
          have L_81 : ∀ (H : Heap) (locs : List Loc) (y6_81 : Int32) (ls : Array Slot), rgI (0) (4) y3_9 → rgI (0) (9) y4_29 → lv_has ls 7 [(0, .ref h0), (1, .int y1_9), (3, .int y3_9), (4, .int y4_29), (6, .int y6_81)] → HT g Ty G H → va_S (AF Ty s.heap.size) s.heap H locs → Wm p l e (wsG yX3_bestQuestion cX3_bestQuestion 7 (some .int)) ({ frames := 6, cells := 0, slots := 0, locals := 137 }) s m [.ref h0] below meth c H locs (0) (0) (QwI g Ty s.heap.size (fun r u => u = (Ty, G))) 0 0 (AF Ty s.heap.size) (F0 m 81 ls []) := by
            intro H locs y6_81 ls ry3_81 ry4_81 hl hH hS
            refine lv_bipush (v := 10) hx hb dX3_bestQuestion_81 (by decide) ?_
            refine lv_iload_n hx hb dX3_bestQuestion_83 rfl (lv_at hl 2 rfl) ?_
            refine lv_imul hx hb dX3_bestQuestion_84 ?_
            refine lv_topi (fun x_2 ex_2 => ?_)
            have rx_2 : rgI (0) (40) x_2 := by rw [ex_2]; exact rg_w (rg_mul rl_10 ry3_81 (by decide) (by decide) (by decide)) (by decide) (by decide)
            refine lv_iload hx hb dX3_bestQuestion_85 (lv_at hl 3 rfl) ?_
            refine lv_iadd hx hb dX3_bestQuestion_87 ?_
            refine lv_topi (fun x_3 ex_3 => ?_)
            have rx_3 : rgI (0) (49) x_3 := by rw [ex_3]; exact rg_w (rg_add rx_2 ry4_81 (by decide) (by decide)) (by decide) (by decide)
            refine lv_istore_n (lv' := [(2, .int x_3), (0, .ref h0), (1, .int y1_9), (3, .int y3_9), (4, .int y4_29), (6, .int y6_81)]) hx hb dX3_bestQuestion_88 rfl hl (by decide) rfl (fun ls hl => ?_)
            refine lv_aload_n hx hb dX3_bestQuestion_89 rfl (lv_at hl 1 rfl) ?_
            refine lv_iload hx hb dX3_bestQuestion_90 (lv_at hl 5 rfl) ?_
            obtain ⟨_, ⟨q_5, q_6, q_7, q_9, q_10, rfl, kq_5, kq_6, kq_7, kq_9, rq_8, t_11⟩, o_c_4⟩ := hH h0 _ k_h0
            refine hg_put (ty := .int) hx hb hG igX3 tyX3 tyX3_ok nmX3 hown hK hS o_c_4 (AF.of k_h0) rfl 5 (by decide) (hG _ mw_300) rfl (by decide +kernel) rfl rfl (Nat.le_of_ble_eq_true rfl) dX3_bestQuestion_92 (fun H locs o_c_4 hz oq hS => ?_)
            have o_c_4 : va_at g.1 vwCl (h0, .inr (3, [.ref q_5, .ref q_6, .ref q_7, .int (G.1 1), .ref q_9, .int y6_81])) H := o_c_4
            have hH : HT g Ty G H := hH.put k_h0 ⟨q_5, q_6, q_7, q_9, y6_81, rfl, kq_5, kq_6, kq_7, kq_9, rq_8, t_11⟩ o_c_4 oq
            clear oq hz
            exact L_95 H locs x_3 ls (rg_w rx_3 (by decide) (by decide)) ry3_81 ry4_81 (lv_sub hl [1, 2, 0, 3, 4] rfl) hH hS
          refine lv_iload hx hb dX3_bestQuestion_29 (lv_at hl 4 rfl) ?_
          refine va_gets hx hb hO.1 hS hown (hG _ mw_1014) (fun _ h => h) dX3_bestQuestion_31 ?_
          refine lv_iload_n hx hb dX3_bestQuestion_34 rfl (lv_at hl 3 rfl) ?_
          refine va_ti hx hb hO.2.1 hS (rg_in (n := 5) ry3_29 (by decide) (by decide)) rfl dX3_bestQuestion_35 ?_
          refine lv_topi (fun x_12 ex_12 => ?_)
          have rx_12 : rgI (4) (9) x_12 := by rw [ex_12]; exact rg_w (mv_rng _) (by decide) (by decide)
          refine lv_icmp_gt (tgt := 101) hx hb dX3_bestQuestion_36 (by decide) (fun c_13 => ?_) (fun c_13 => ?_)
          · have r_14 : rgI (5) (10) y4_29 := rg_w (rg_ltR rx_12 ry4_29 c_13) (by decide) (by decide)
            obtain ⟨x_15, ex_15⟩ : ∃ y : Int32, y = y3_9 + 1 := ⟨_, rfl⟩
            have rx_15 : rgI (1) (5) x_15 := by rw [ex_15]; exact rg_w (rg_add ry3_29 rl_1 (by decide) (by decide)) (by decide) (by decide)
            have qx_15 : x_15.toInt = (y3_9 : Int32).toInt + 1 := by rw [ex_15]; exact rg_addE ry3_29 rl_1 (by decide) (by decide)
            refine lv_iinc (v := x_15) (lv' := [(3, .int x_15), (0, .ref h0), (1, .int y1_9), (2, .int y2_29), (4, .int y4_29)]) hx hb dX3_bestQuestion_101 hl (k := 3) rfl (by rw [ex_15]; rfl) (by decide) rfl (fun ls hl => ?_)
            refine lv_goto (tgt := 9) hx hb dX3_bestQuestion_104 (by decide) ?_
            exact ih_9 H locs y1_9 y2_29 x_15 ls ry2_29 (rg_w rx_15 (by decide) (by decide)) (by have h1 := qx_15; have h2 := ry3_29.1; have h3 := ry3_29.2; have h4 := hm_9; omega) (lv_sub hl [1, 2, 3, 0] rfl) hH hS
          · have r_16 : rgI (0) (9) y4_29 := rg_w (rg_leL ry4_29 rx_12 (nlt_le c_13)) (by decide) (by decide)
            refine lv_iload_n hx hb dX3_bestQuestion_39 rfl (lv_at hl 1 rfl) ?_
            refine lv_aload_n hx hb dX3_bestQuestion_40 rfl (lv_at hl 0 rfl) ?_
            refine lv_iload_n hx hb dX3_bestQuestion_41 rfl (lv_at hl 3 rfl) ?_
            refine lv_iload hx hb dX3_bestQuestion_42 (lv_at hl 4 rfl) ?_
            obtain ⟨_, ⟨q_18, q_19, q_20, q_22, q_23, rfl, kq_18, kq_19, kq_20, kq_22, rq_21, t_24⟩, o_c_17⟩ := hH h0 _ k_h0
            refine vp_callSi (W.runV (As := [.int y3_9, .int y4_29]) (rest := [.int y1_9]) ⟨hx, hb, hml, hown, hts⟩ (c_X3_soOf l g Ty G h0 y3_9 y4_29 k_h0) (cwV 2 hts (gwV mw_1043 mw_1045 mw_26 mw_85 mw_1046) rfl rfl rfl hv_X3_soOf ⟨Nat.le_of_ble_eq_true rfl, Nat.le_of_ble_eq_true rfl⟩) ⟨PcH_blind, hg_recv hK o_c_17 rfl, PcH_pre hK hH⟩ rfl rfl hl.1 rfl (lv_room (Nat.le_of_ble_eq_true rfl)) dX3_bestQuestion_44 ⟨Nat.zero_le _, Nat.zero_le _⟩) (fun x_25 hx_25 => ?_)
            refine lv_iand hx hb dX3_bestQuestion_47 ?_
            refine lv_topi (fun x_26 ex_26 => ?_)
            refine vp_callSi (W.runS (As := [.int x_26]) (rest := []) ⟨hx, hb, hml, hown, hts⟩ (c_J6_bitCount_0f7a4 l g Ty G x_26 ) (cwSx 1 hts hG (gwC mw_620) mw_99 mw_1041 mw_619 rfl rfl rfl hd_J6_bitCount_0f7a4 ⟨Nat.le_of_ble_eq_true rfl, Nat.le_of_ble_eq_true rfl⟩) ⟨PcH_blind, PcH_pre hK hH⟩ rfl rfl hl.1 rfl (lv_room (Nat.le_of_ble_eq_true rfl)) dX3_bestQuestion_48 ⟨Nat.zero_le _, Nat.zero_le _⟩) (fun x_27 hx_27 => ?_)
            refine lv_istore (lv' := [(5, .int x_27), (0, .ref h0), (1, .int y1_9), (2, .int y2_29), (3, .int y3_9), (4, .int y4_29)]) hx hb dX3_bestQuestion_51 hl (by decide) rfl (fun ls hl => ?_)
            refine lv_iload hx hb dX3_bestQuestion_53 (lv_at hl 0 rfl) ?_
            refine lv_iload_n hx hb dX3_bestQuestion_55 rfl (lv_at hl 2 rfl) ?_
            refine vp_callSi (W.runS (As := [.int y1_9]) (rest := [.int x_27]) ⟨hx, hb, hml, hown, hts⟩ (c_J6_bitCount_0f7a4 l g Ty G y1_9 ) (cwSx 1 hts hG (gwC mw_620) mw_99 mw_1041 mw_619 rfl rfl rfl hd_J6_bitCount_0f7a4 ⟨Nat.le_of_ble_eq_true rfl, Nat.le_of_ble_eq_true rfl⟩) ⟨PcH_blind, PcH_pre hK hH⟩ rfl rfl hl.1 rfl (lv_room (Nat.le_of_ble_eq_true rfl)) dX3_bestQuestion_56 ⟨Nat.zero_le _, Nat.zero_le _⟩) (fun x_28 hx_28 => ?_)
            refine lv_iload hx hb dX3_bestQuestion_59 (lv_at hl 0 rfl) ?_
            refine lv_isub hx hb dX3_bestQuestion_61 ?_
            refine lv_topi (fun x_29 ex_29 => ?_)
            refine va_mmax hx hb (by rw [hml]; exact hl.1.symm) hown (hG _ mw_1056) (hG _ mw_473) (hG _ mw_91) (hG _ mw_474) (Nat.le_of_ble_eq_true rfl) (Nat.le_of_ble_eq_true rfl) (Nat.le_of_ble_eq_true rfl) (Nat.le_of_ble_eq_true rfl) dX3_bestQuestion_62 ?_
            refine lv_topi (fun x_30 ex_30 => ?_)
            refine lv_istore (lv' := [(6, .int x_30), (5, .int x_27), (0, .ref h0), (1, .int y1_9), (2, .int y2_29), (3, .int y3_9), (4, .int y4_29)]) hx hb dX3_bestQuestion_65 hl (by decide) rfl (fun ls hl => ?_)
            refine lv_iload_n hx hb dX3_bestQuestion_67 rfl (lv_at hl 4 rfl) ?_
            refine lv_iconst (v := (-1)) hx hb dX3_bestQuestion_68 (by decide) ?_
            refine lv_icmp_eq (tgt := 81) hx hb dX3_bestQuestion_69 (by decide) (fun c_31 => ?_) (fun c_31 => ?_)
            · have r_32 : rgI (-1) (-1) y2_29 := rg_w (rg_eq rl_m1 c_31) (by decide) (by decide)
              exact L_81 H locs x_30 ls ry3_29 r_16 (lv_sub hl [2, 3, 5, 6, 0] rfl) hH hS
            · have r_33 : rgI (0) (2147483647) y2_29 := rg_w (rg_neL ry2_29 rl_m1 c_31) (by decide) (by decide)
              refine lv_iload hx hb dX3_bestQuestion_72 (lv_at hl 0 rfl) ?_
              refine lv_aload_n hx hb dX3_bestQuestion_74 rfl (lv_at hl 2 rfl) ?_
              refine hg_get hx hb hG igX3 hown hK o_c_17 rfl 5 (by decide) (hG _ mw_300) rfl dX3_bestQuestion_75 ?_
              refine lv_icmp_ge (tgt := 95) hx hb dX3_bestQuestion_78 (by decide) (fun c_34 => ?_) (fun c_34 => ?_)
              · exact L_95 H locs y2_29 ls r_33 ry3_29 r_16 (lv_sub hl [2, 3, 4, 5, 6] rfl) hH hS
              · have r_35 : rgI (-2147483648) (2147483646) x_30 := rg_w (rg_ltL (rg_top x_30) (rg_top q_23) (nle_lt c_34)) (by decide) (by decide)
                have r_36 : rgI (-2147483647) (2147483647) q_23 := rg_w (rg_ltR (rg_top x_30) (rg_top q_23) (nle_lt c_34)) (by decide) (by decide)
                exact L_81 H locs x_30 ls ry3_29 r_16 (lv_sub hl [2, 3, 5, 6, 0] rfl) hH hS
      refine lv_iload_n hx hb dX3_bestQuestion_9 rfl (lv_at hl 3 rfl) ?_
      refine va_gets hx hb hO.1 hS hown (hG _ mw_1014) (fun _ h => h) dX3_bestQuestion_10 ?_
      refine va_tlen (v := 5) hx hb hO.2.1 hS rfl dX3_bestQuestion_13 ?_
      refine lv_icmp_ge (tgt := 107) hx hb dX3_bestQuestion_14 (by decide) (fun c_37 => ?_) (fun c_37 => ?_)
      · have r_38 : rgI (5) (5) y3_9 := rg_w (rg_leR rl_5 ry3_9 c_37) (by decide) (by decide)
        exact L_107 H locs y2_9 ls ry2_9 (lv_sub hl [2] rfl) hH hS
      · have r_39 : rgI (0) (4) y3_9 := rg_w (rg_ltL ry3_9 rl_5 (nle_lt c_37)) (by decide) (by decide)
        refine lv_iload_n hx hb dX3_bestQuestion_17 rfl (lv_at hl 1 rfl) ?_
        refine lv_if_eq (tgt := 107) hx hb dX3_bestQuestion_18 (by decide) (fun c_40 => ?_) (fun c_40 => ?_)
        · have r_41 : rgI (0) (0) y1_9 := rg_w (rg_eq rl_0 c_40) (by decide) (by decide)
          exact L_107 H locs y2_9 ls ry2_9 (lv_sub hl [2] rfl) hH hS
        · refine lv_aload_n hx hb dX3_bestQuestion_21 rfl (lv_at hl 0 rfl) ?_
          refine lv_iload_n hx hb dX3_bestQuestion_22 rfl (lv_at hl 3 rfl) ?_
          obtain ⟨_, ⟨q_43, q_44, q_45, q_47, q_48, rfl, kq_43, kq_44, kq_45, kq_47, rq_46, t_49⟩, o_c_42⟩ := hH h0 _ k_h0
          refine va_callv (va_runV (As := [.int y3_9]) (rest := []) ⟨hx, hb, hml, hown, hts⟩ (c_X3_measure l g Ty G H.size h0 y3_9 k_h0) (cwV 1 hts (gwV mw_1028 mw_1030 mw_24 mw_85 mw_1031) rfl rfl rfl hv_X3_measure ⟨Nat.le_of_ble_eq_true rfl, Nat.le_of_ble_eq_true rfl⟩) ⟨PcT_blind, hg_recv hK o_c_42 rfl, PcT_pre hK hH⟩ rfl rfl hl.1 rfl (lv_room (Nat.le_of_ble_eq_true rfl)) dX3_bestQuestion_23 ⟨Nat.zero_le _, Nat.zero_le _⟩) hS (fun q _ h => AF.mono hS.1 h) (fun q h => AF.mono hS.1 h) (fun ux_50 t H locs ht hvm hx_50 hB hz hk hS => ?_)
          have hH : HT g Ty G H := by rw [← ht]; rw [hx_50] at hB; exact hB
          refine lv_iconst (v := 0) hx hb dX3_bestQuestion_26 (by decide) ?_
          refine lv_istore (lv' := [(4, .int 0), (0, .ref h0), (1, .int y1_9), (2, .int y2_9), (3, .int y3_9)]) hx hb dX3_bestQuestion_27 hl (by decide) rfl (fun ls hl => ?_)
          exact L_29 _ H locs y2_9 0 ls ry2_9 r_39 (rg_w rl_0 (by decide) (by decide)) (Nat.lt_succ_self _) (lv_sub hl [1, 2, 3, 4, 0] rfl) hH hS
  refine lv_aload_n hx hb dX3_bestQuestion_0 rfl (lv_at hl 0 rfl) ?_
  obtain ⟨_, ⟨q_52, q_53, q_54, q_56, q_57, rfl, kq_52, kq_53, kq_54, kq_56, rq_55, t_58⟩, o_c_51⟩ := hH h0 _ k_h0
  refine va_calli (va_runV (As := []) (rest := []) ⟨hx, hb, hml, hown, hts⟩ (c_X3_fitting l g Ty G s.heap.size h0 k_h0) (cwV 0 hts (gwV mw_1055 mw_1025 mw_1026 mw_85 mw_1027) rfl rfl rfl hv_X3_fitting ⟨Nat.le_of_ble_eq_true rfl, Nat.le_of_ble_eq_true rfl⟩) ⟨PcT_blind, hg_recv hK o_c_51 rfl, PcT_pre hK hH⟩ rfl rfl hl.1 rfl (lv_room (Nat.le_of_ble_eq_true rfl)) dX3_bestQuestion_1 ⟨Nat.zero_le _, Nat.zero_le _⟩) hS (fun q _ h => AF.mono hS.1 h) (fun q h => AF.mono hS.1 h) (fun x_59 ux_59 t H locs ht hvm hx_59 hB hz hk hS => ?_)
  have hH : HT g Ty G H := by rw [← ht]; rw [hx_59] at hB; exact hB
  refine lv_istore_n (lv' := [(1, .int x_59), (0, .ref h0)]) hx hb dX3_bestQuestion_4 rfl hl (by decide) rfl (fun ls hl => ?_)
  refine lv_iconst (v := (-1)) hx hb dX3_bestQuestion_5 (by decide) ?_
  refine lv_istore_n (lv' := [(2, .int (-1)), (1, .int x_59), (0, .ref h0)]) hx hb dX3_bestQuestion_6 rfl hl (by decide) rfl (fun ls hl => ?_)
  refine lv_iconst (v := 0) hx hb dX3_bestQuestion_7 (by decide) ?_
  refine lv_istore_n (lv' := [(3, .int 0), (2, .int (-1)), (1, .int x_59), (0, .ref h0)]) hx hb dX3_bestQuestion_8 rfl hl (by decide) rfl (fun ls hl => ?_)
  exact L_9 _ H locs x_59 (-1) 0 ls (rg_w rl_m1 (by decide) (by decide)) (rg_w rl_0 (by decide) (by decide)) (Nat.lt_succ_self _) (lv_sub hl [3, 2, 1, 0] rfl) hH hS
